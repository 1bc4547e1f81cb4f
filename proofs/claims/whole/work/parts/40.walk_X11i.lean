set_option maxRecDepth 100000 in
set_option maxHeartbeats 4000000 in
theorem kX11_record_29 {l : Launch} {g : evG} {p : Program} {e : Env} {s : State} {m : MethodId} {args : Array Value} {below : List Frame} {meth : Method} {c : Code} {A : Nat → Prop} {zm : Nat → Nat} {r : Int32} {om : Gp} (C : ctx g p s m args meth c RX11 cX11_record 2 (some .int) A) {Tm : Gp} {y1 : Int32} {y2 : Int32} {H : Heap} {locs : List Loc} {ls : Array Slot} (hf : fX11_record_29 Tm y1 y2 = some (r, om)) (hw : wl g A s.heap (gcM g zm Tm) H locs) (hl : lv_has ls 2 [(0, .ref (zm 0))]) : W p l e (rmK 0 0) s m args below meth c H locs 0 0 (MQ below (Qi g A (gcM g zm om) r) args s 0 0 A) (F0 m 29 ls [.int y2, .int y1, .ref (zm 17)]) := by
  obtain ⟨hx, hb, hml, hown, hts, -⟩ := id C
  unfold fX11_record_29 at hf
  obtain ⟨hi1, hf⟩ := it_g hf
  refine r_iast C hw 17 (f := (Tm 17)) rfl hi1 (ws' := (gcM g zm (u2 Tm 17 y1.toNatClampNeg y2))) gcM_a17 dX11_record_29 (fun H locs hw => ?_)
  refine lv_aload_n hx hb dX11_record_30 rfl (lv_at hl 0 rfl) ?_
  refine lv_dup hx hb dX11_record_31 rfl ?_
  refine r_get C hw 0 rfl cf_X11 29 (by decide) q4_202 (v := .int (Tm 0 29)) rfl dX11_record_32 ?_
  refine lv_iconst (v := (1 : Int32)) hx hb dX11_record_35 rfl ?_
  refine lv_iadd hx hb dX11_record_36 ?_
  refine r_puti C hw 0 rfl cf_X11 29 (by decide) q4_202 rfl rfl (Nat.le_of_ble_eq_true rfl) (ws' := (gcM g zm (u2 (u2 Tm 17 y1.toNatClampNeg y2) 0 29 ((Tm 0 29) + (1 : Int32))))) gcM_p29 dX11_record_37 (fun H locs hw => ?_)
  refine lv_aload_n hx hb dX11_record_40 rfl (lv_at hl 0 rfl) ?_
  refine r_get C hw 0 rfl cf_X11 29 (by decide) q4_202 (v := .int ((Tm 0 29) + (1 : Int32))) rfl dX11_record_41 ?_
  obtain ⟨rfl, rfl⟩ := so2 hf
  exact r_iret C hw rfl dX11_record_44
set_option maxRecDepth 100000 in
set_option maxHeartbeats 4000000 in
theorem c_X11_record {l : Launch} {g : evG} {zm : Nat → Nat} {r : Int32} {om : Gp}  {Tm : Gp} {x1 : Int32} (hf : fX11_record Tm x1 = some (r, om)) : CTi l g yX11_record (Cond.code yX11_record cX11_record 2 (some .int)) 0 0 [.ref (zm 0), .int x1] (gcM g zm Tm) (gcM g zm om) r := by
  refine ct_i rfl (Nat.le_of_ble_eq_true rfl) ?_
  intro p e s m args below meth c A ls C hw hl
  have C : ctx g p s m args meth c RX11 cX11_record 2 (some .int) A := C
  have hl : lv_has ls 2 [(0, .ref (zm 0)), (1, .int x1)] := hl
  obtain ⟨hx, hb, hml, hown, hts, -⟩ := id C
  unfold fX11_record at hf
  refine lv_aload_n hx hb dX11_record_0 rfl (lv_at hl 0 rfl) ?_
  refine r_get C hw 0 rfl cf_X11 29 (by decide) q4_202 (v := .int (Tm 0 29)) rfl dX11_record_1 ?_
  refine lv_bipush (v := (40 : Int32)) hx hb dX11_record_4 rfl ?_
  refine lv_icmp_ne (tgt := 12) hx hb dX11_record_6 (by decide) (fun hc2 => ?_) (fun hc2 => ?_)
  · have hf := it_n hf hc2
    refine lv_aload_n hx hb dX11_record_12 rfl (lv_at hl 0 rfl) ?_
    refine r_get C hw 0 rfl cf_X11 28 (by decide) q4_201 (v := .ref (zm 17)) rfl dX11_record_13 ?_
    refine lv_aload_n hx hb dX11_record_16 rfl (lv_at hl 0 rfl) ?_
    refine r_get C hw 0 rfl cf_X11 29 (by decide) q4_202 (v := .int (Tm 0 29)) rfl dX11_record_17 ?_
    refine lv_iload_n hx hb dX11_record_20 rfl (lv_at hl 1 rfl) ?_
    refine lv_if_eq (tgt := 28) hx hb dX11_record_21 (by decide) (fun hc1 => ?_) (fun hc1 => ?_)
    · have hf := it_p hf hc1
      refine lv_iconst (v := (0 : Int32)) hx hb dX11_record_28 rfl ?_
      exact kX11_record_29 (zm := zm) (r := r) (om := om) C hf hw (lv_sub hl [0] rfl)
    · have hf := it_n hf hc1
      refine lv_iconst (v := (1 : Int32)) hx hb dX11_record_24 rfl ?_
      refine lv_goto (tgt := 29) hx hb dX11_record_25 (by decide) ?_
      exact kX11_record_29 (zm := zm) (r := r) (om := om) C hf hw (lv_sub hl [0] rfl)
  · have hf := it_p hf hc2
    refine lv_bipush (v := (-5 : Int32)) hx hb dX11_record_9 rfl ?_
    obtain ⟨rfl, rfl⟩ := so2 hf
    exact r_iret C hw rfl dX11_record_11
set_option maxRecDepth 100000 in
set_option maxHeartbeats 4000000 in
theorem c_X11_burn {l : Launch} {g : evG} {zm : Nat → Nat} {r : Int32} {om : Gp}  {Tm : Gp} (hf : fX11_burn Tm = some (r, om)) : CTi l g yX11_burn (Cond.code yX11_burn cX11_burn 2 (some .int)) 0 0 [.ref (zm 0)] (gcM g zm Tm) (gcM g zm om) r := by
  refine ct_i rfl (Nat.le_of_ble_eq_true rfl) ?_
  intro p e s m args below meth c A ls C hw hl
  have C : ctx g p s m args meth c RX11 cX11_burn 2 (some .int) A := C
  have hl : lv_has ls 2 [(0, .ref (zm 0))] := hl
  obtain ⟨hx, hb, hml, hown, hts, -⟩ := id C
  unfold fX11_burn at hf
  refine lv_aload_n hx hb dX11_burn_0 rfl (lv_at hl 0 rfl) ?_
  refine r_get C hw 0 rfl cf_X11 29 (by decide) q4_202 (v := .int (Tm 0 29)) rfl dX11_burn_1 ?_
  refine lv_istore_n (lv' := [(1, .int (Tm 0 29)), (0, .ref (zm 0))]) hx hb dX11_burn_4 rfl hl (by decide) rfl (fun ls hl => ?_)
  refine lv_aload_n hx hb dX11_burn_5 rfl (lv_at hl 1 rfl) ?_
  refine lv_iconst (v := (0 : Int32)) hx hb dX11_burn_6 rfl ?_
  refine r_puti C hw 0 rfl cf_X11 29 (by decide) q4_202 rfl rfl (Nat.le_of_ble_eq_true rfl) (ws' := (gcM g zm (u2 Tm 0 29 (0 : Int32)))) gcM_p29 dX11_burn_7 (fun H locs hw => ?_)
  refine lv_iload_n hx hb dX11_burn_10 rfl (lv_at hl 0 rfl) ?_
  obtain ⟨rfl, rfl⟩ := so2 hf
  exact r_iret C hw rfl dX11_burn_11
set_option maxRecDepth 100000 in
set_option maxHeartbeats 4000000 in
theorem kX11_stays_44 {l : Launch} {g : evG} {p : Program} {e : Env} {s : State} {m : MethodId} {args : Array Value} {below : List Frame} {meth : Method} {c : Code} {A : Nat → Prop} {zm : Nat → Nat} {r : Int32} (C : ctx g p s m args meth c RX11 cX11_stays 5 (some .int) A) {Tm : Gp} {x3 : Int32} {y0 : Int32} {y1 : Int32} {y2 : Int32} {H : Heap} {locs : List Loc} {ls : Array Slot} (hf : fX11_stays_44 Tm x3 y0 y1 y2 = some (r)) (hw : wl g A s.heap (gcM g zm Tm) H locs) (hl : lv_has ls 5 [(3, .int x3)]) : W p l e (rmK 0 0) s m args below meth c H locs 0 0 (MQ below (Qi g A (gcM g zm Tm) r) args s 0 0 A) (F0 m 44 ls [.int y2, .int y1, .int y0]) := by
  obtain ⟨hx, hb, hml, hown, hts, -⟩ := id C
  unfold fX11_stays_44 at hf
  refine lv_icmp_ne (tgt := 51) hx hb dX11_stays_44 (by decide) (fun hc1 => ?_) (fun hc1 => ?_)
  · have hf := it_n hf hc1
    refine lv_bipush (v := (100 : Int32)) hx hb dX11_stays_51 rfl ?_
    refine lv_iload_n hx hb dX11_stays_53 rfl (lv_at hl 0 rfl) ?_
    refine lv_imul hx hb dX11_stays_54 ?_
    refine lv_iadd hx hb dX11_stays_55 ?_
    obtain rfl := so1 hf
    exact r_iret C hw rfl dX11_stays_56
  · have hf := it_p hf hc1
    refine lv_iconst (v := (0 : Int32)) hx hb dX11_stays_47 rfl ?_
    refine lv_goto (tgt := 55) hx hb dX11_stays_48 (by decide) ?_
    refine lv_iadd hx hb dX11_stays_55 ?_
    obtain rfl := so1 hf
    exact r_iret C hw rfl dX11_stays_56
set_option maxRecDepth 100000 in
set_option maxHeartbeats 4000000 in
theorem kX11_stays_13 {l : Launch} {g : evG} {p : Program} {e : Env} {s : State} {m : MethodId} {args : Array Value} {below : List Frame} {meth : Method} {c : Code} {A : Nat → Prop} {zm : Nat → Nat} {r : Int32} (C : ctx g p s m args meth c RX11 cX11_stays 5 (some .int) A) {Tm : Gp} {x1 : Int32} {x2 : Int32} {x3 : Int32} {y0 : Int32} {H : Heap} {locs : List Loc} {ls : Array Slot} (hf : fX11_stays_13 Tm x1 x2 x3 y0 = some (r)) (hw : wl g A s.heap (gcM g zm Tm) H locs) (hl : lv_has ls 5 [(0, .ref (zm 0)), (1, .int x1), (2, .int x2), (3, .int x3)]) : W p l e (rmK 0 0) s m args below meth c H locs 0 0 (MQ below (Qi g A (gcM g zm Tm) r) args s 0 0 A) (F0 m 13 ls [.int y0]) := by
  obtain ⟨hx, hb, hml, hown, hts, -⟩ := id C
  unfold fX11_stays_13 at hf
  refine lv_istore (lv' := [(4, .int y0), (0, .ref (zm 0)), (1, .int x1), (2, .int x2), (3, .int x3)]) hx hb dX11_stays_13 hl (by decide) rfl (fun ls hl => ?_)
  refine lv_aload_n hx hb dX11_stays_15 rfl (lv_at hl 1 rfl) ?_
  refine r_get C hw 0 rfl cf_X11 30 (by decide) q4_203 (v := .ref (zm 18)) rfl dX11_stays_16 ?_
  refine lv_iconst (v := (2 : Int32)) hx hb dX11_stays_19 rfl ?_
  refine lv_iload_n hx hb dX11_stays_20 rfl (lv_at hl 2 rfl) ?_
  refine lv_imul hx hb dX11_stays_21 ?_
  refine lv_iconst (v := (2 : Int32)) hx hb dX11_stays_22 rfl ?_
  refine lv_iadd hx hb dX11_stays_23 ?_
  refine lv_iload_n hx hb dX11_stays_24 rfl (lv_at hl 3 rfl) ?_
  refine lv_iadd hx hb dX11_stays_25 ?_
  obtain ⟨hi1, hf⟩ := it_g hf
  refine r_iald C hw 18 (f := (Tm 18)) rfl hi1 dX11_stays_26 ?_
  refine lv_iload hx hb dX11_stays_27 (lv_at hl 0 rfl) ?_
  refine lv_aload_n hx hb dX11_stays_29 rfl (lv_at hl 1 rfl) ?_
  refine r_get C hw 0 rfl cf_X11 28 (by decide) q4_201 (v := .ref (zm 17)) rfl dX11_stays_30 ?_
  refine lv_iload_n hx hb dX11_stays_33 rfl (lv_at hl 2 rfl) ?_
  obtain ⟨hi2, hf⟩ := it_g hf
  refine r_iald C hw 17 (f := (Tm 17)) rfl hi2 dX11_stays_34 ?_
  refine lv_iconst (v := (1 : Int32)) hx hb dX11_stays_35 rfl ?_
  refine lv_icmp_ne (tgt := 43) hx hb dX11_stays_36 (by decide) (fun hc3 => ?_) (fun hc3 => ?_)
  · have hf := it_n hf hc3
    refine lv_iconst (v := (0 : Int32)) hx hb dX11_stays_43 rfl ?_
    exact kX11_stays_44 (zm := zm) (r := r) C hf hw (lv_sub hl [4] rfl)
  · have hf := it_p hf hc3
    refine lv_iconst (v := (1 : Int32)) hx hb dX11_stays_39 rfl ?_
    refine lv_goto (tgt := 44) hx hb dX11_stays_40 (by decide) ?_
    exact kX11_stays_44 (zm := zm) (r := r) C hf hw (lv_sub hl [4] rfl)
set_option maxRecDepth 100000 in
set_option maxHeartbeats 4000000 in
theorem c_X11_stays {l : Launch} {g : evG} {zm : Nat → Nat} {r : Int32}  {Tm : Gp} {x1 : Int32} {x2 : Int32} {x3 : Int32} (hf : fX11_stays Tm x1 x2 x3 = some (r)) : CTi l g yX11_stays (Cond.code yX11_stays cX11_stays 5 (some .int)) 0 0 [.ref (zm 0), .int x1, .int x2, .int x3] (gcM g zm Tm) (gcM g zm Tm) r := by
  refine ct_i rfl (Nat.le_of_ble_eq_true rfl) ?_
  intro p e s m args below meth c A ls C hw hl
  have C : ctx g p s m args meth c RX11 cX11_stays 5 (some .int) A := C
  have hl : lv_has ls 5 [(0, .ref (zm 0)), (1, .int x1), (2, .int x2), (3, .int x3)] := hl
  obtain ⟨hx, hb, hml, hown, hts, -⟩ := id C
  unfold fX11_stays at hf
  refine lv_iload_n hx hb dX11_stays_0 rfl (lv_at hl 1 rfl) ?_
  refine lv_iload_n hx hb dX11_stays_1 rfl (lv_at hl 2 rfl) ?_
  refine lv_iadd hx hb dX11_stays_2 ?_
  refine lv_iconst (v := (2 : Int32)) hx hb dX11_stays_3 rfl ?_
  refine lv_irm hx hb dX11_stays_4 (by decide) ?_
  refine lv_if_ne (tgt := 12) hx hb dX11_stays_5 (by decide) (fun hc1 => ?_) (fun hc1 => ?_)
  · have hf := it_n hf hc1
    refine lv_iconst (v := (0 : Int32)) hx hb dX11_stays_12 rfl ?_
    exact kX11_stays_13 (zm := zm) (r := r) C hf hw (lv_sub hl [0, 1, 2, 3] rfl)
  · have hf := it_p hf hc1
    refine lv_iconst (v := (1 : Int32)) hx hb dX11_stays_8 rfl ?_
    refine lv_goto (tgt := 13) hx hb dX11_stays_9 (by decide) ?_
    exact kX11_stays_13 (zm := zm) (r := r) C hf hw (lv_sub hl [0, 1, 2, 3] rfl)
set_option maxRecDepth 100000 in
set_option maxHeartbeats 4000000 in
theorem c_X11_slipped {l : Launch} {g : evG} {zm : Nat → Nat} {r : Int32}  {Tm : Gp} {x1 : Int32} {x2 : Int32} {x3 : Int32} {x4 : Int32} (hf : fX11_slipped Tm x1 x2 x3 x4 = some (r)) : CTi l g yX11_slipped (Cond.code yX11_slipped cX11_slipped 5 (some .int)) 1 24 [.ref (zm 0), .int x1, .int x2, .int x3, .int x4] (gcM g zm Tm) (gcM g zm Tm) r := by
  refine ct_i rfl (Nat.le_of_ble_eq_true rfl) ?_
  intro p e s m args below meth c A ls C hw hl
  have C : ctx g p s m args meth c RX11 cX11_slipped 5 (some .int) A := C
  have hl : lv_has ls 5 [(0, .ref (zm 0)), (1, .int x1), (2, .int x2), (3, .int x3), (4, .int x4)] := hl
  obtain ⟨hx, hb, hml, hown, hts, -⟩ := id C
  unfold fX11_slipped at hf
  refine lv_iload_n hx hb dX11_slipped_0 rfl (lv_at hl 1 rfl) ?_
  refine lv_if_ne (tgt := 9) hx hb dX11_slipped_1 (by decide) (fun hc3 => ?_) (fun hc3 => ?_)
  · have hf := it_n hf hc3
    refine lv_aload_n hx hb dX11_slipped_9 rfl (lv_at hl 0 rfl) ?_
    refine lv_iload_n hx hb dX11_slipped_10 rfl (lv_at hl 1 rfl) ?_
    refine lv_iconst (v := (1 : Int32)) hx hb dX11_slipped_11 rfl ?_
    refine lv_iload_n hx hb dX11_slipped_12 rfl (lv_at hl 2 rfl) ?_
    refine lv_isub hx hb dX11_slipped_13 ?_
    refine lv_iload hx hb dX11_slipped_14 (lv_at hl 4 rfl) ?_
    obtain ⟨r1, hc2, hf⟩ := bd1_e hf
    refine r_callVi0 C hw (c_X11_stays (zm := zm) hc2) md_X11_stays [0, 1, 2, 3, 4, 5, 6, 7, 8, 9, 10, 11, 12, 13, 14, 15, 16, 17, 18] rfl rfl q6_24 0 rfl cf_X11.1 ⟨Nat.le_of_ble_eq_true rfl, Nat.le_of_ble_eq_true rfl⟩ ⟨Nat.zero_le _, Nat.zero_le _⟩ hl.1 rfl rfl (Nat.le_of_ble_eq_true rfl) dX11_slipped_16 (fun H locs hw => ?_)
    refine lv_bipush (v := (100 : Int32)) hx hb dX11_slipped_19 rfl ?_
    refine lv_iload_n hx hb dX11_slipped_21 rfl (lv_at hl 3 rfl) ?_
    refine lv_imul hx hb dX11_slipped_22 ?_
    refine lv_iadd hx hb dX11_slipped_23 ?_
    refine lv_iconst (v := (1 : Int32)) hx hb dX11_slipped_24 rfl ?_
    refine lv_iadd hx hb dX11_slipped_25 ?_
    obtain rfl := so1 hf
    exact r_iret C hw rfl dX11_slipped_26
  · have hf := it_p hf hc3
    refine lv_ldc (v := (268435456 : Int32)) hx hb hown (hts _ q5_216) dX11_slipped_4 ?_
    refine lv_goto (tgt := 26) hx hb dX11_slipped_6 (by decide) ?_
    obtain rfl := so1 hf
    exact r_iret C hw rfl dX11_slipped_26
set_option maxRecDepth 100000 in
set_option maxHeartbeats 4000000 in
theorem kX11_slips_182 {l : Launch} {g : evG} {p : Program} {e : Env} {s : State} {m : MethodId} {args : Array Value} {below : List Frame} {meth : Method} {c : Code} {A : Nat → Prop} {zm : Nat → Nat} {r : Int32} {om : Gp} (C : ctx g p s m args meth c RX11 cX11_slips 8 (some .int) A) {rec182 : Gp → Int32 → Int32 → Option (Int32 × Gp)} (hr182 : ∀ (Tm : Gp) (x2 : Int32) (x4 : Int32) (H : Heap) (locs : List Loc) (ls : Array Slot), rec182 Tm x2 x4 = some (r, om) → wl g A s.heap (gcM g zm Tm) H locs → lv_has ls 8 [(0, .ref (zm 0)), (2, .int x2), (4, .int x4)] → W p l e (rmK 2 48) s m args below meth c H locs 0 0 (MQ below (Qi g A (gcM g zm om) r) args s 0 0 A) (F0 m 182 ls [])) {Tm : Gp} {x2 : Int32} {x4 : Int32} {H : Heap} {locs : List Loc} {ls : Array Slot} (hf : fX11_slips_182 rec182 Tm x2 x4 = some (r, om)) (hw : wl g A s.heap (gcM g zm Tm) H locs) (hl : lv_has ls 8 [(0, .ref (zm 0)), (2, .int x2), (4, .int x4)]) : W p l e (rmK 2 48) s m args below meth c H locs 0 0 (MQ below (Qi g A (gcM g zm om) r) args s 0 0 A) (F0 m 182 ls []) := by
  obtain ⟨hx, hb, hml, hown, hts, -⟩ := id C
  unfold fX11_slips_182 at hf
  refine lv_iload hx hb dX11_slips_182 (lv_at hl 2 rfl) ?_
  refine lv_aload_n hx hb dX11_slips_184 rfl (lv_at hl 0 rfl) ?_
  refine r_get C hw 0 rfl cf_X11 29 (by decide) q4_202 (v := .int (Tm 0 29)) rfl dX11_slips_185 ?_
  refine lv_icmp_ge (tgt := 220) hx hb dX11_slips_188 (by decide) (fun hc5 => ?_) (fun hc5 => ?_)
  · have hf := it_p hf hc5
    refine lv_iconst (v := (-1 : Int32)) hx hb dX11_slips_220 rfl ?_
    obtain ⟨rfl, rfl⟩ := so2 hf
    exact r_iret C hw rfl dX11_slips_221
  · have hf := it_n hf hc5
    refine lv_aload_n hx hb dX11_slips_191 rfl (lv_at hl 0 rfl) ?_
    refine lv_iload hx hb dX11_slips_192 (lv_at hl 2 rfl) ?_
    refine lv_iconst (v := (0 : Int32)) hx hb dX11_slips_194 rfl ?_
    refine lv_iload_n hx hb dX11_slips_195 rfl (lv_at hl 1 rfl) ?_
    obtain ⟨r1, hc2, hf⟩ := bd1_e hf
    refine r_callVi0 C hw (c_X11_stays (zm := zm) hc2) md_X11_stays [0, 1, 2, 3, 4, 5, 6, 7, 8, 9, 10, 11, 12, 13, 14, 15, 16, 17, 18] rfl rfl q6_24 0 rfl cf_X11.1 ⟨Nat.le_of_ble_eq_true rfl, Nat.le_of_ble_eq_true rfl⟩ ⟨Nat.zero_le _, Nat.zero_le _⟩ hl.1 rfl rfl (Nat.le_of_ble_eq_true rfl) dX11_slips_196 (fun H locs hw => ?_)
    refine lv_aload_n hx hb dX11_slips_199 rfl (lv_at hl 0 rfl) ?_
    refine r_get C hw 0 rfl cf_X11 30 (by decide) q4_203 (v := .ref (zm 18)) rfl dX11_slips_200 ?_
    refine lv_iconst (v := (2 : Int32)) hx hb dX11_slips_203 rfl ?_
    refine lv_iload hx hb dX11_slips_204 (lv_at hl 2 rfl) ?_
    refine lv_imul hx hb dX11_slips_206 ?_
    obtain ⟨hi3, hf⟩ := it_g hf
    refine r_iald C hw 18 (f := (Tm 18)) rfl hi3 dX11_slips_207 ?_
    refine lv_icmp_eq (tgt := 214) hx hb dX11_slips_208 (by decide) (fun hc4 => ?_) (fun hc4 => ?_)
    · have hf := it_p hf hc4
      refine lv_iinc (v := (x4 + (1 : Int32))) (lv' := [(4, .int (x4 + (1 : Int32))), (0, .ref (zm 0)), (2, .int x2)]) hx hb dX11_slips_214 hl (k := 2) rfl rfl (by decide) rfl (fun ls hl => ?_)
      refine lv_goto (tgt := 182) hx hb dX11_slips_217 (by decide) ?_
      exact hr182 _ _ _ _ _ _ hf hw (lv_sub hl [1, 2, 0] rfl)
    · have hf := it_n hf hc4
      refine lv_iload hx hb dX11_slips_211 (lv_at hl 2 rfl) ?_
      obtain ⟨rfl, rfl⟩ := so2 hf
      exact r_iret C hw rfl dX11_slips_213
set_option maxRecDepth 100000 in
set_option maxHeartbeats 4000000 in
theorem klX11_slips_182 {l : Launch} {g : evG} {p : Program} {e : Env} {s : State} {m : MethodId} {args : Array Value} {below : List Frame} {meth : Method} {c : Code} {A : Nat → Prop} {zm : Nat → Nat} {r : Int32} {om : Gp} (C : ctx g p s m args meth c RX11 cX11_slips 8 (some .int) A) : ∀ (n : Nat) (Tm : Gp) (x2 : Int32) (x4 : Int32) (H : Heap) (locs : List Loc) (ls : Array Slot), lX11_slips_182 n Tm x2 x4 = some (r, om) → wl g A s.heap (gcM g zm Tm) H locs → lv_has ls 8 [(0, .ref (zm 0)), (2, .int x2), (4, .int x4)] → W p l e (rmK 2 48) s m args below meth c H locs 0 0 (MQ below (Qi g A (gcM g zm om) r) args s 0 0 A) (F0 m 182 ls []) := by
  intro n
  induction n with
  | zero => intro _ _ _ _ _ _ hf; exact no_f hf
  | succ n ih => intro _ _ _ _ _ _ hf hw hl; exact kX11_slips_182 (zm := zm) (r := r) (om := om) C (rec182 := lX11_slips_182 n) ih hf hw hl
set_option maxRecDepth 100000 in
set_option maxHeartbeats 4000000 in
theorem kX11_slips_81 {l : Launch} {g : evG} {p : Program} {e : Env} {s : State} {m : MethodId} {args : Array Value} {below : List Frame} {meth : Method} {c : Code} {A : Nat → Prop} {zm : Nat → Nat} {r : Int32} {om : Gp} (C : ctx g p s m args meth c RX11 cX11_slips 8 (some .int) A) {rec73 : Gp → Int32 → Int32 → Int32 → Int32 → Option (Int32 × Gp)} {rec81 : Gp → Int32 → Int32 → Int32 → Int32 → Int32 → Option (Int32 × Gp)} (hr73 : ∀ (Tm : Gp) (x1 : Int32) (x2 : Int32) (x3 : Int32) (x4 : Int32) (H : Heap) (locs : List Loc) (ls : Array Slot), rec73 Tm x1 x2 x3 x4 = some (r, om) → wl g A s.heap (gcM g zm Tm) H locs → lv_has ls 8 [(0, .ref (zm 0)), (1, .int x1), (2, .int x2), (3, .int x3), (4, .int x4)] → W p l e (rmK 2 48) s m args below meth c H locs 0 0 (MQ below (Qi g A (gcM g zm om) r) args s 0 0 A) (F0 m 73 ls [])) (hr81 : ∀ (Tm : Gp) (x1 : Int32) (x2 : Int32) (x3 : Int32) (x4 : Int32) (x5 : Int32) (H : Heap) (locs : List Loc) (ls : Array Slot), rec81 Tm x1 x2 x3 x4 x5 = some (r, om) → wl g A s.heap (gcM g zm Tm) H locs → lv_has ls 8 [(0, .ref (zm 0)), (1, .int x1), (2, .int x2), (3, .int x3), (4, .int x4), (5, .int x5)] → W p l e (rmK 2 48) s m args below meth c H locs 0 0 (MQ below (Qi g A (gcM g zm om) r) args s 0 0 A) (F0 m 81 ls [])) {Tm : Gp} {x1 : Int32} {x2 : Int32} {x3 : Int32} {x4 : Int32} {x5 : Int32} {H : Heap} {locs : List Loc} {ls : Array Slot} (hf : fX11_slips_81 rec73 rec81 Tm x1 x2 x3 x4 x5 = some (r, om)) (hw : wl g A s.heap (gcM g zm Tm) H locs) (hl : lv_has ls 8 [(0, .ref (zm 0)), (1, .int x1), (2, .int x2), (3, .int x3), (4, .int x4), (5, .int x5)]) : W p l e (rmK 2 48) s m args below meth c H locs 0 0 (MQ below (Qi g A (gcM g zm om) r) args s 0 0 A) (F0 m 81 ls []) := by
  obtain ⟨hx, hb, hml, hown, hts, -⟩ := id C
  unfold fX11_slips_81 at hf
  refine lv_iload hx hb dX11_slips_81 (lv_at hl 5 rfl) ?_
  refine lv_iconst (v := (2 : Int32)) hx hb dX11_slips_83 rfl ?_
  refine lv_icmp_ge (tgt := 142) hx hb dX11_slips_84 (by decide) (fun hc8 => ?_) (fun hc8 => ?_)
  · have hf := it_p hf hc8
    refine lv_iinc (v := (x4 + (-1 : Int32))) (lv' := [(4, .int (x4 + (-1 : Int32))), (0, .ref (zm 0)), (1, .int x1), (2, .int x2), (3, .int x3), (5, .int x5)]) hx hb dX11_slips_142 hl (k := 4) rfl rfl (by decide) rfl (fun ls hl => ?_)
    refine lv_goto (tgt := 73) hx hb dX11_slips_145 (by decide) ?_
    exact hr73 _ _ _ _ _ _ _ _ hf hw (lv_sub hl [1, 2, 3, 4, 0] rfl)
  · have hf := it_n hf hc8
    refine lv_aload_n hx hb dX11_slips_87 rfl (lv_at hl 0 rfl) ?_
    refine lv_iload hx hb dX11_slips_88 (lv_at hl 4 rfl) ?_
    refine lv_iload hx hb dX11_slips_90 (lv_at hl 5 rfl) ?_
    refine lv_iload_n hx hb dX11_slips_92 rfl (lv_at hl 2 rfl) ?_
    obtain ⟨r1, hc2, hf⟩ := bd1_e hf
    refine r_callVi0 C hw (c_X11_stays (zm := zm) hc2) md_X11_stays [0, 1, 2, 3, 4, 5, 6, 7, 8, 9, 10, 11, 12, 13, 14, 15, 16, 17, 18] rfl rfl q6_24 0 rfl cf_X11.1 ⟨Nat.le_of_ble_eq_true rfl, Nat.le_of_ble_eq_true rfl⟩ ⟨Nat.zero_le _, Nat.zero_le _⟩ hl.1 rfl rfl (Nat.le_of_ble_eq_true rfl) dX11_slips_93 (fun H locs hw => ?_)
    refine lv_istore (lv' := [(6, .int r1), (0, .ref (zm 0)), (1, .int x1), (2, .int x2), (3, .int x3), (4, .int x4), (5, .int x5)]) hx hb dX11_slips_96 hl (by decide) rfl (fun ls hl => ?_)
    refine lv_aload_n hx hb dX11_slips_98 rfl (lv_at hl 1 rfl) ?_
    refine lv_iload hx hb dX11_slips_99 (lv_at hl 5 rfl) ?_
    refine lv_iload hx hb dX11_slips_101 (lv_at hl 6 rfl) ?_
    refine lv_iload_n hx hb dX11_slips_103 rfl (lv_at hl 2 rfl) ?_
    refine lv_iload_n hx hb dX11_slips_104 rfl (lv_at hl 3 rfl) ?_
    obtain ⟨r3, hc4, hf⟩ := bd1_e hf
    refine r_callVi0 C hw (c_X11_slipped (zm := zm) hc4) md_X11_slipped [0, 1, 2, 3, 4, 5, 6, 7, 8, 9, 10, 11, 12, 13, 14, 15, 16, 17, 18] rfl rfl q6_28 0 rfl cf_X11.1 ⟨Nat.le_of_ble_eq_true rfl, Nat.le_of_ble_eq_true rfl⟩ ⟨Nat.zero_le _, Nat.zero_le _⟩ hl.1 rfl rfl (Nat.le_of_ble_eq_true rfl) dX11_slips_105 (fun H locs hw => ?_)
    refine lv_istore (lv' := [(7, .int r3), (6, .int r1), (0, .ref (zm 0)), (1, .int x1), (2, .int x2), (3, .int x3), (4, .int x4), (5, .int x5)]) hx hb dX11_slips_108 hl (by decide) rfl (fun ls hl => ?_)
    refine lv_aload_n hx hb dX11_slips_110 rfl (lv_at hl 2 rfl) ?_
    refine r_get C hw 0 rfl cf_X11 30 (by decide) q4_203 (v := .ref (zm 18)) rfl dX11_slips_111 ?_
    refine lv_iconst (v := (2 : Int32)) hx hb dX11_slips_114 rfl ?_
    refine lv_iload hx hb dX11_slips_115 (lv_at hl 6 rfl) ?_
    refine lv_imul hx hb dX11_slips_117 ?_
    refine lv_iload hx hb dX11_slips_118 (lv_at hl 7 rfl) ?_
    refine lv_iadd hx hb dX11_slips_120 ?_
    refine lv_iload hx hb dX11_slips_121 (lv_at hl 0 rfl) ?_
    refine lv_iload hx hb dX11_slips_123 (lv_at hl 1 rfl) ?_
    refine lv_icmp_ge (tgt := 133) hx hb dX11_slips_125 (by decide) (fun hc7 => ?_) (fun hc7 => ?_)
    · have hf := it_p hf hc7
      refine lv_iload hx hb dX11_slips_133 (lv_at hl 1 rfl) ?_
      obtain ⟨hi5, hf⟩ := it_g hf
      refine r_iast C hw 18 (f := (Tm 18)) rfl hi5 (ws' := (gcM g zm (u2 Tm 18 (((2 : Int32) * x4) + x5).toNatClampNeg r1))) gcM_a18 dX11_slips_135 (fun H locs hw => ?_)
      refine lv_iinc (v := (x5 + (1 : Int32))) (lv' := [(5, .int (x5 + (1 : Int32))), (7, .int r3), (6, .int r1), (0, .ref (zm 0)), (1, .int x1), (2, .int x2), (3, .int x3), (4, .int x4)]) hx hb dX11_slips_136 hl (k := 7) rfl rfl (by decide) rfl (fun ls hl => ?_)
      refine lv_goto (tgt := 81) hx hb dX11_slips_139 (by decide) ?_
      exact hr81 _ _ _ _ _ _ _ _ _ hf hw (lv_sub hl [3, 4, 5, 6, 7, 0] rfl)
    · have hf := it_n hf hc7
      refine lv_iload hx hb dX11_slips_128 (lv_at hl 0 rfl) ?_
      refine lv_goto (tgt := 135) hx hb dX11_slips_130 (by decide) ?_
      obtain ⟨hi6, hf⟩ := it_g hf
      refine r_iast C hw 18 (f := (Tm 18)) rfl hi6 (ws' := (gcM g zm (u2 Tm 18 (((2 : Int32) * x4) + x5).toNatClampNeg r3))) gcM_a18 dX11_slips_135 (fun H locs hw => ?_)
      refine lv_iinc (v := (x5 + (1 : Int32))) (lv' := [(5, .int (x5 + (1 : Int32))), (7, .int r3), (6, .int r1), (0, .ref (zm 0)), (1, .int x1), (2, .int x2), (3, .int x3), (4, .int x4)]) hx hb dX11_slips_136 hl (k := 7) rfl rfl (by decide) rfl (fun ls hl => ?_)
      refine lv_goto (tgt := 81) hx hb dX11_slips_139 (by decide) ?_
      exact hr81 _ _ _ _ _ _ _ _ _ hf hw (lv_sub hl [3, 4, 5, 6, 7, 0] rfl)
set_option maxRecDepth 100000 in
set_option maxHeartbeats 4000000 in
theorem klX11_slips_81 {l : Launch} {g : evG} {p : Program} {e : Env} {s : State} {m : MethodId} {args : Array Value} {below : List Frame} {meth : Method} {c : Code} {A : Nat → Prop} {zm : Nat → Nat} {r : Int32} {om : Gp} (C : ctx g p s m args meth c RX11 cX11_slips 8 (some .int) A) {rec73 : Gp → Int32 → Int32 → Int32 → Int32 → Option (Int32 × Gp)} (hr73 : ∀ (Tm : Gp) (x1 : Int32) (x2 : Int32) (x3 : Int32) (x4 : Int32) (H : Heap) (locs : List Loc) (ls : Array Slot), rec73 Tm x1 x2 x3 x4 = some (r, om) → wl g A s.heap (gcM g zm Tm) H locs → lv_has ls 8 [(0, .ref (zm 0)), (1, .int x1), (2, .int x2), (3, .int x3), (4, .int x4)] → W p l e (rmK 2 48) s m args below meth c H locs 0 0 (MQ below (Qi g A (gcM g zm om) r) args s 0 0 A) (F0 m 73 ls [])) : ∀ (n : Nat) (Tm : Gp) (x1 : Int32) (x2 : Int32) (x3 : Int32) (x4 : Int32) (x5 : Int32) (H : Heap) (locs : List Loc) (ls : Array Slot), lX11_slips_81 rec73 n Tm x1 x2 x3 x4 x5 = some (r, om) → wl g A s.heap (gcM g zm Tm) H locs → lv_has ls 8 [(0, .ref (zm 0)), (1, .int x1), (2, .int x2), (3, .int x3), (4, .int x4), (5, .int x5)] → W p l e (rmK 2 48) s m args below meth c H locs 0 0 (MQ below (Qi g A (gcM g zm om) r) args s 0 0 A) (F0 m 81 ls []) := by
  intro n
  induction n with
  | zero => intro _ _ _ _ _ _ _ _ _ hf; exact no_f hf
  | succ n ih => intro _ _ _ _ _ _ _ _ _ hf hw hl; exact kX11_slips_81 (zm := zm) (r := r) (om := om) C hr73 (rec81 := lX11_slips_81 rec73 n) ih hf hw hl
set_option maxRecDepth 100000 in
set_option maxHeartbeats 4000000 in
theorem kX11_slips_73 {l : Launch} {g : evG} {p : Program} {e : Env} {s : State} {m : MethodId} {args : Array Value} {below : List Frame} {meth : Method} {c : Code} {A : Nat → Prop} {zm : Nat → Nat} {r : Int32} {om : Gp} (C : ctx g p s m args meth c RX11 cX11_slips 8 (some .int) A) {rec73 : Gp → Int32 → Int32 → Int32 → Int32 → Option (Int32 × Gp)} (hr73 : ∀ (Tm : Gp) (x1 : Int32) (x2 : Int32) (x3 : Int32) (x4 : Int32) (H : Heap) (locs : List Loc) (ls : Array Slot), rec73 Tm x1 x2 x3 x4 = some (r, om) → wl g A s.heap (gcM g zm Tm) H locs → lv_has ls 8 [(0, .ref (zm 0)), (1, .int x1), (2, .int x2), (3, .int x3), (4, .int x4)] → W p l e (rmK 2 48) s m args below meth c H locs 0 0 (MQ below (Qi g A (gcM g zm om) r) args s 0 0 A) (F0 m 73 ls [])) {Tm : Gp} {x1 : Int32} {x2 : Int32} {x3 : Int32} {x4 : Int32} {H : Heap} {locs : List Loc} {ls : Array Slot} (hf : fX11_slips_73 rec73 Tm x1 x2 x3 x4 = some (r, om)) (hw : wl g A s.heap (gcM g zm Tm) H locs) (hl : lv_has ls 8 [(0, .ref (zm 0)), (1, .int x1), (2, .int x2), (3, .int x3), (4, .int x4)]) : W p l e (rmK 2 48) s m args below meth c H locs 0 0 (MQ below (Qi g A (gcM g zm om) r) args s 0 0 A) (F0 m 73 ls []) := by
  obtain ⟨hx, hb, hml, hown, hts, -⟩ := id C
  unfold fX11_slips_73 at hf
  refine lv_iload hx hb dX11_slips_73 (lv_at hl 4 rfl) ?_
  refine lv_if_lt (tgt := 148) hx hb dX11_slips_75 (by decide) (fun hc3 => ?_) (fun hc3 => ?_)
  · have hf := it_p hf hc3
    refine lv_iload_n hx hb dX11_slips_148 rfl (lv_at hl 3 rfl) ?_
    refine lv_iconst (v := (2 : Int32)) hx hb dX11_slips_149 rfl ?_
    refine lv_icmp_ge (tgt := 179) hx hb dX11_slips_150 (by decide) (fun hc2 => ?_) (fun hc2 => ?_)
    · have hf := it_p hf hc2
      refine lv_iconst (v := (0 : Int32)) hx hb dX11_slips_179 rfl ?_
      refine lv_istore (lv' := [(4, .int (0 : Int32)), (0, .ref (zm 0)), (1, .int x1), (2, .int x2), (3, .int x3)]) hx hb dX11_slips_180 hl (by decide) rfl (fun ls hl => ?_)
      exact klX11_slips_182 (zm := zm) (r := r) (om := om) C fu _ _ _ _ _ _ hf hw (lv_sub hl [1, 3, 0] rfl)
    · have hf := it_n hf hc2
      refine lv_iload_n hx hb dX11_slips_153 rfl (lv_at hl 3 rfl) ?_
      refine lv_if_ne (tgt := 169) hx hb dX11_slips_154 (by decide) (fun hc1 => ?_) (fun hc1 => ?_)
      · have hf := it_n hf hc1
        refine lv_aload_n hx hb dX11_slips_169 rfl (lv_at hl 0 rfl) ?_
        refine r_get C hw 0 rfl cf_X11 30 (by decide) q4_203 (v := .ref (zm 18)) rfl dX11_slips_170 ?_
        refine lv_iconst (v := (0 : Int32)) hx hb dX11_slips_173 rfl ?_
        refine r_iald C hw 18 (f := (Tm 18)) rfl (by decide) dX11_slips_174 ?_
        refine lv_bipush (v := (100 : Int32)) hx hb dX11_slips_175 rfl ?_
        refine lv_irm hx hb dX11_slips_177 (by decide) ?_
        obtain ⟨rfl, rfl⟩ := so2 hf
        exact r_iret C hw rfl dX11_slips_178
      · have hf := it_p hf hc1
        refine lv_aload_n hx hb dX11_slips_157 rfl (lv_at hl 0 rfl) ?_
        refine r_get C hw 0 rfl cf_X11 30 (by decide) q4_203 (v := .ref (zm 18)) rfl dX11_slips_158 ?_
        refine lv_iconst (v := (0 : Int32)) hx hb dX11_slips_161 rfl ?_
        refine r_iald C hw 18 (f := (Tm 18)) rfl (by decide) dX11_slips_162 ?_
        refine lv_bipush (v := (100 : Int32)) hx hb dX11_slips_163 rfl ?_
        refine lv_idiv hx hb dX11_slips_165 (by decide) ?_
        refine lv_goto (tgt := 178) hx hb dX11_slips_166 (by decide) ?_
        obtain ⟨rfl, rfl⟩ := so2 hf
        exact r_iret C hw rfl dX11_slips_178
  · have hf := it_n hf hc3
    refine lv_iconst (v := (0 : Int32)) hx hb dX11_slips_78 rfl ?_
    refine lv_istore (lv' := [(5, .int (0 : Int32)), (0, .ref (zm 0)), (1, .int x1), (2, .int x2), (3, .int x3), (4, .int x4)]) hx hb dX11_slips_79 hl (by decide) rfl (fun ls hl => ?_)
    exact klX11_slips_81 (zm := zm) (r := r) (om := om) C hr73 fu _ _ _ _ _ _ _ _ _ hf hw (lv_sub hl [1, 2, 3, 4, 5, 0] rfl)
set_option maxRecDepth 100000 in
set_option maxHeartbeats 4000000 in
theorem klX11_slips_73 {l : Launch} {g : evG} {p : Program} {e : Env} {s : State} {m : MethodId} {args : Array Value} {below : List Frame} {meth : Method} {c : Code} {A : Nat → Prop} {zm : Nat → Nat} {r : Int32} {om : Gp} (C : ctx g p s m args meth c RX11 cX11_slips 8 (some .int) A) : ∀ (n : Nat) (Tm : Gp) (x1 : Int32) (x2 : Int32) (x3 : Int32) (x4 : Int32) (H : Heap) (locs : List Loc) (ls : Array Slot), lX11_slips_73 n Tm x1 x2 x3 x4 = some (r, om) → wl g A s.heap (gcM g zm Tm) H locs → lv_has ls 8 [(0, .ref (zm 0)), (1, .int x1), (2, .int x2), (3, .int x3), (4, .int x4)] → W p l e (rmK 2 48) s m args below meth c H locs 0 0 (MQ below (Qi g A (gcM g zm om) r) args s 0 0 A) (F0 m 73 ls []) := by
  intro n
  induction n with
  | zero => intro _ _ _ _ _ _ _ _ hf; exact no_f hf
  | succ n ih => intro _ _ _ _ _ _ _ _ hf hw hl; exact kX11_slips_73 (zm := zm) (r := r) (om := om) C (rec73 := lX11_slips_73 n) ih hf hw hl
set_option maxRecDepth 100000 in
set_option maxHeartbeats 4000000 in
theorem c_X11_slips {l : Launch} {g : evG} {zm : Nat → Nat} {r : Int32} {om : Gp}  {Tm : Gp} {x1 : Int32} {x2 : Int32} {x3 : Int32} (hf : fX11_slips Tm x1 x2 x3 = some (r, om)) : CTi l g yX11_slips (Cond.code yX11_slips cX11_slips 8 (some .int)) 2 48 [.ref (zm 0), .int x1, .int x2, .int x3] (gcM g zm Tm) (gcM g zm om) r := by
  refine ct_i rfl (Nat.le_of_ble_eq_true rfl) ?_
  intro p e s m args below meth c A ls C hw hl
  have C : ctx g p s m args meth c RX11 cX11_slips 8 (some .int) A := C
  have hl : lv_has ls 8 [(0, .ref (zm 0)), (1, .int x1), (2, .int x2), (3, .int x3)] := hl
  obtain ⟨hx, hb, hml, hown, hts, -⟩ := id C
  unfold fX11_slips at hf
  refine lv_iload_n hx hb dX11_slips_0 rfl (lv_at hl 1 rfl) ?_
  refine lv_i2l hx hb dX11_slips_1 rfl ?_
  refine lv_lconst (v := (1 : Int64)) hx hb dX11_slips_2 rfl ?_
  refine lv_ldc2 (v := (9 : Int64)) hx hb hown (hts _ q5_215) dX11_slips_3 ?_
  obtain ⟨r1, hc2, hf⟩ := bd1_e hf
  refine r_callSi0 C hw (c_X11_in hc2) md_X11_in [] rfl rfl q5_32 ⟨Nat.le_of_ble_eq_true rfl, Nat.le_of_ble_eq_true rfl⟩ ⟨Nat.zero_le _, Nat.zero_le _⟩ hl.1 rfl rfl (Nat.le_of_ble_eq_true rfl) dX11_slips_6 (fun H locs hw => ?_)
  refine lv_if_eq (tgt := 36) hx hb dX11_slips_9 (by decide) (fun hc11 => ?_) (fun hc11 => ?_)
  · have hf := it_p hf hc11
    refine lv_bipush (v := (-3 : Int32)) hx hb dX11_slips_36 rfl ?_
    obtain ⟨rfl, rfl⟩ := so2 hf
    exact r_iret C hw rfl dX11_slips_38
  · have hf := it_n hf hc11
    refine lv_iload_n hx hb dX11_slips_12 rfl (lv_at hl 2 rfl) ?_
    refine lv_i2l hx hb dX11_slips_13 rfl ?_
    refine lv_lconst (v := (1 : Int64)) hx hb dX11_slips_14 rfl ?_
    refine lv_ldc2 (v := (9 : Int64)) hx hb hown (hts _ q5_215) dX11_slips_15 ?_
    obtain ⟨r3, hc4, hf⟩ := bd1_e hf
    refine r_callSi0 C hw (c_X11_in hc4) md_X11_in [] rfl rfl q5_32 ⟨Nat.le_of_ble_eq_true rfl, Nat.le_of_ble_eq_true rfl⟩ ⟨Nat.zero_le _, Nat.zero_le _⟩ hl.1 rfl rfl (Nat.le_of_ble_eq_true rfl) dX11_slips_18 (fun H locs hw => ?_)
    refine lv_if_eq (tgt := 36) hx hb dX11_slips_21 (by decide) (fun hc10 => ?_) (fun hc10 => ?_)
    · have hf := it_p hf hc10
      refine lv_bipush (v := (-3 : Int32)) hx hb dX11_slips_36 rfl ?_
      obtain ⟨rfl, rfl⟩ := so2 hf
      exact r_iret C hw rfl dX11_slips_38
    · have hf := it_n hf hc10
      refine lv_iload_n hx hb dX11_slips_24 rfl (lv_at hl 3 rfl) ?_
      refine lv_i2l hx hb dX11_slips_25 rfl ?_
      refine lv_lconst (v := (0 : Int64)) hx hb dX11_slips_26 rfl ?_
      refine lv_ldc2 (v := (2 : Int64)) hx hb hown (hts _ q6_23) dX11_slips_27 ?_
      obtain ⟨r5, hc6, hf⟩ := bd1_e hf
      refine r_callSi0 C hw (c_X11_in hc6) md_X11_in [] rfl rfl q5_32 ⟨Nat.le_of_ble_eq_true rfl, Nat.le_of_ble_eq_true rfl⟩ ⟨Nat.zero_le _, Nat.zero_le _⟩ hl.1 rfl rfl (Nat.le_of_ble_eq_true rfl) dX11_slips_30 (fun H locs hw => ?_)
      refine lv_if_ne (tgt := 39) hx hb dX11_slips_33 (by decide) (fun hc9 => ?_) (fun hc9 => ?_)
      · have hf := it_n hf hc9
        refine lv_aload_n hx hb dX11_slips_39 rfl (lv_at hl 0 rfl) ?_
        refine r_get C hw 0 rfl cf_X11 30 (by decide) q4_203 (v := .ref (zm 18)) rfl dX11_slips_40 ?_
        refine lv_iconst (v := (2 : Int32)) hx hb dX11_slips_43 rfl ?_
        refine lv_aload_n hx hb dX11_slips_44 rfl (lv_at hl 0 rfl) ?_
        refine r_get C hw 0 rfl cf_X11 29 (by decide) q4_202 (v := .int (Tm 0 29)) rfl dX11_slips_45 ?_
        refine lv_imul hx hb dX11_slips_48 ?_
        refine lv_iconst (v := (0 : Int32)) hx hb dX11_slips_49 rfl ?_
        obtain ⟨hi7, hf⟩ := it_g hf
        refine r_iast C hw 18 (f := (Tm 18)) rfl hi7 (ws' := (gcM g zm (u2 Tm 18 ((2 : Int32) * (Tm 0 29)).toNatClampNeg (0 : Int32)))) gcM_a18 dX11_slips_50 (fun H locs hw => ?_)
        refine lv_aload_n hx hb dX11_slips_51 rfl (lv_at hl 0 rfl) ?_
        refine r_get C hw 0 rfl cf_X11 30 (by decide) q4_203 (v := .ref (zm 18)) rfl dX11_slips_52 ?_
        refine lv_iconst (v := (2 : Int32)) hx hb dX11_slips_55 rfl ?_
        refine lv_aload_n hx hb dX11_slips_56 rfl (lv_at hl 0 rfl) ?_
        refine r_get C hw 0 rfl cf_X11 29 (by decide) q4_202 (v := .int (Tm 0 29)) rfl dX11_slips_57 ?_
        refine lv_imul hx hb dX11_slips_60 ?_
        refine lv_iconst (v := (1 : Int32)) hx hb dX11_slips_61 rfl ?_
        refine lv_iadd hx hb dX11_slips_62 ?_
        refine lv_iconst (v := (0 : Int32)) hx hb dX11_slips_63 rfl ?_
        obtain ⟨hi8, hf⟩ := it_g hf
        refine r_iast C hw 18 (f := ((u2 Tm 18 ((2 : Int32) * (Tm 0 29)).toNatClampNeg (0 : Int32)) 18)) rfl hi8 (ws' := (gcM g zm (u2 (u2 Tm 18 ((2 : Int32) * (Tm 0 29)).toNatClampNeg (0 : Int32)) 18 (((2 : Int32) * (Tm 0 29)) + (1 : Int32)).toNatClampNeg (0 : Int32)))) gcM_a18 dX11_slips_64 (fun H locs hw => ?_)
        refine lv_aload_n hx hb dX11_slips_65 rfl (lv_at hl 0 rfl) ?_
        refine r_get C hw 0 rfl cf_X11 29 (by decide) q4_202 (v := .int (Tm 0 29)) rfl dX11_slips_66 ?_
        refine lv_iconst (v := (1 : Int32)) hx hb dX11_slips_69 rfl ?_
        refine lv_isub hx hb dX11_slips_70 ?_
        refine lv_istore (lv' := [(4, .int ((Tm 0 29) - (1 : Int32))), (0, .ref (zm 0)), (1, .int x1), (2, .int x2), (3, .int x3)]) hx hb dX11_slips_71 hl (by decide) rfl (fun ls hl => ?_)
        exact klX11_slips_73 (zm := zm) (r := r) (om := om) C fu _ _ _ _ _ _ _ _ hf hw (lv_sub hl [1, 2, 3, 4, 0] rfl)
      · have hf := it_p hf hc9
        refine lv_bipush (v := (-3 : Int32)) hx hb dX11_slips_36 rfl ?_
        obtain ⟨rfl, rfl⟩ := so2 hf
        exact r_iret C hw rfl dX11_slips_38
set_option maxRecDepth 100000 in
set_option maxHeartbeats 4000000 in
theorem kX11_copy_2 {l : Launch} {g : evG} {p : Program} {e : Env} {s : State} {m : MethodId} {args : Array Value} {below : List Frame} {meth : Method} {c : Code} {A : Nat → Prop} {zm : Nat → Nat} {om : Gp} (C : ctx g p s m args meth c RX11 cX11_copy 4 none A) {rec2 : Gp → Int32 → Int32 → Int32 → Option (Gp)} (hr2 : ∀ (Tm : Gp) (x1 : Int32) (x2 : Int32) (x3 : Int32) (H : Heap) (locs : List Loc) (ls : Array Slot), rec2 Tm x1 x2 x3 = some (om) → wl g A s.heap (gcM g zm Tm) H locs → lv_has ls 4 [(0, .ref (zm 0)), (1, .int x1), (2, .int x2), (3, .int x3)] → W p l e (rmK 0 0) s m args below meth c H locs 0 0 (MQ below (Qv g A (gcM g zm om)) args s 0 0 A) (F0 m 2 ls [])) {Tm : Gp} {x1 : Int32} {x2 : Int32} {x3 : Int32} {H : Heap} {locs : List Loc} {ls : Array Slot} (hf : fX11_copy_2 rec2 Tm x1 x2 x3 = some (om)) (hw : wl g A s.heap (gcM g zm Tm) H locs) (hl : lv_has ls 4 [(0, .ref (zm 0)), (1, .int x1), (2, .int x2), (3, .int x3)]) : W p l e (rmK 0 0) s m args below meth c H locs 0 0 (MQ below (Qv g A (gcM g zm om)) args s 0 0 A) (F0 m 2 ls []) := by
  obtain ⟨hx, hb, hml, hown, hts, -⟩ := id C
  unfold fX11_copy_2 at hf
  refine lv_iload_n hx hb dX11_copy_2 rfl (lv_at hl 3 rfl) ?_
  refine lv_bipush (v := (87 : Int32)) hx hb dX11_copy_3 rfl ?_
  refine lv_icmp_ge (tgt := 36) hx hb dX11_copy_5 (by decide) (fun hc3 => ?_) (fun hc3 => ?_)
  · have hf := it_p hf hc3
    obtain rfl := so1 hf
    exact r_vret C hw dX11_copy_36
  · have hf := it_n hf hc3
    refine lv_aload_n hx hb dX11_copy_8 rfl (lv_at hl 0 rfl) ?_
    refine r_get C hw 0 rfl cf_X11 0 (by decide) q4_173 (v := .ref (zm 1)) rfl dX11_copy_9 ?_
    refine lv_bipush (v := (87 : Int32)) hx hb dX11_copy_12 rfl ?_
    refine lv_iload_n hx hb dX11_copy_14 rfl (lv_at hl 2 rfl) ?_
    refine lv_imul hx hb dX11_copy_15 ?_
    refine lv_iload_n hx hb dX11_copy_16 rfl (lv_at hl 3 rfl) ?_
    refine lv_iadd hx hb dX11_copy_17 ?_
    refine lv_aload_n hx hb dX11_copy_18 rfl (lv_at hl 0 rfl) ?_
    refine r_get C hw 0 rfl cf_X11 0 (by decide) q4_173 (v := .ref (zm 1)) rfl dX11_copy_19 ?_
    refine lv_bipush (v := (87 : Int32)) hx hb dX11_copy_22 rfl ?_
    refine lv_iload_n hx hb dX11_copy_24 rfl (lv_at hl 1 rfl) ?_
    refine lv_imul hx hb dX11_copy_25 ?_
    refine lv_iload_n hx hb dX11_copy_26 rfl (lv_at hl 3 rfl) ?_
    refine lv_iadd hx hb dX11_copy_27 ?_
    obtain ⟨hi1, hf⟩ := it_g hf
    refine r_iald C hw 1 (f := (Tm 1)) rfl hi1 dX11_copy_28 ?_
    obtain ⟨hi2, hf⟩ := it_g hf
    refine r_iast C hw 1 (f := (Tm 1)) rfl hi2 (ws' := (gcM g zm (u2 Tm 1 (((87 : Int32) * x2) + x3).toNatClampNeg (Tm 1 (((87 : Int32) * x1) + x3).toNatClampNeg)))) gcM_a1 dX11_copy_29 (fun H locs hw => ?_)
    refine lv_iinc (v := (x3 + (1 : Int32))) (lv' := [(3, .int (x3 + (1 : Int32))), (0, .ref (zm 0)), (1, .int x1), (2, .int x2)]) hx hb dX11_copy_30 hl (k := 3) rfl rfl (by decide) rfl (fun ls hl => ?_)
    refine lv_goto (tgt := 2) hx hb dX11_copy_33 (by decide) ?_
    exact hr2 _ _ _ _ _ _ _ hf hw (lv_sub hl [1, 2, 3, 0] rfl)
set_option maxRecDepth 100000 in
set_option maxHeartbeats 4000000 in
theorem klX11_copy_2 {l : Launch} {g : evG} {p : Program} {e : Env} {s : State} {m : MethodId} {args : Array Value} {below : List Frame} {meth : Method} {c : Code} {A : Nat → Prop} {zm : Nat → Nat} {om : Gp} (C : ctx g p s m args meth c RX11 cX11_copy 4 none A) : ∀ (n : Nat) (Tm : Gp) (x1 : Int32) (x2 : Int32) (x3 : Int32) (H : Heap) (locs : List Loc) (ls : Array Slot), lX11_copy_2 n Tm x1 x2 x3 = some (om) → wl g A s.heap (gcM g zm Tm) H locs → lv_has ls 4 [(0, .ref (zm 0)), (1, .int x1), (2, .int x2), (3, .int x3)] → W p l e (rmK 0 0) s m args below meth c H locs 0 0 (MQ below (Qv g A (gcM g zm om)) args s 0 0 A) (F0 m 2 ls []) := by
  intro n
  induction n with
  | zero => intro _ _ _ _ _ _ _ hf; exact no_f hf
  | succ n ih => intro _ _ _ _ _ _ _ hf hw hl; exact kX11_copy_2 (zm := zm) (om := om) C (rec2 := lX11_copy_2 n) ih hf hw hl
set_option maxRecDepth 100000 in
set_option maxHeartbeats 4000000 in
theorem c_X11_copy {l : Launch} {g : evG} {zm : Nat → Nat} {om : Gp}  {Tm : Gp} {x1 : Int32} {x2 : Int32} (hf : fX11_copy Tm x1 x2 = some (om)) : CTv l g yX11_copy (Cond.code yX11_copy cX11_copy 4 none) 0 0 [.ref (zm 0), .int x1, .int x2] (gcM g zm Tm) (gcM g zm om) := by
  refine ct_v rfl (Nat.le_of_ble_eq_true rfl) ?_
  intro p e s m args below meth c A ls C hw hl
  have C : ctx g p s m args meth c RX11 cX11_copy 4 none A := C
  have hl : lv_has ls 4 [(0, .ref (zm 0)), (1, .int x1), (2, .int x2)] := hl
  obtain ⟨hx, hb, hml, hown, hts, -⟩ := id C
  unfold fX11_copy at hf
  refine lv_iconst (v := (0 : Int32)) hx hb dX11_copy_0 rfl ?_
  refine lv_istore_n (lv' := [(3, .int (0 : Int32)), (0, .ref (zm 0)), (1, .int x1), (2, .int x2)]) hx hb dX11_copy_1 rfl hl (by decide) rfl (fun ls hl => ?_)
  exact klX11_copy_2 (zm := zm) (om := om) C fu _ _ _ _ _ _ _ hf hw (lv_sub hl [1, 2, 3, 0] rfl)
set_option maxRecDepth 100000 in
set_option maxHeartbeats 4000000 in
theorem c_X11_keep {l : Launch} {g : evG} {zm : Nat → Nat} {r : Int32} {om : Gp}  {Tm : Gp} {x1 : Int32} (hf : fX11_keep Tm x1 = some (r, om)) : CTi l g yX11_keep (Cond.code yX11_keep cX11_keep 2 (some .int)) 1 25 [.ref (zm 0), .int x1] (gcM g zm Tm) (gcM g zm om) r := by
  refine ct_i rfl (Nat.le_of_ble_eq_true rfl) ?_
  intro p e s m args below meth c A ls C hw hl
  have C : ctx g p s m args meth c RX11 cX11_keep 2 (some .int) A := C
  have hl : lv_has ls 2 [(0, .ref (zm 0)), (1, .int x1)] := hl
  obtain ⟨hx, hb, hml, hown, hts, -⟩ := id C
  unfold fX11_keep at hf
  refine lv_iload_n hx hb dX11_keep_0 rfl (lv_at hl 1 rfl) ?_
  refine lv_i2l hx hb dX11_keep_1 rfl ?_
  refine lv_lconst (v := (0 : Int64)) hx hb dX11_keep_2 rfl ?_
  refine lv_lconst (v := (1 : Int64)) hx hb dX11_keep_3 rfl ?_
  obtain ⟨r1, hc2, hf⟩ := bd1_e hf
  refine r_callSi0 C hw (c_X11_in hc2) md_X11_in [] rfl rfl q5_32 ⟨Nat.le_of_ble_eq_true rfl, Nat.le_of_ble_eq_true rfl⟩ ⟨Nat.zero_le _, Nat.zero_le _⟩ hl.1 rfl rfl (Nat.le_of_ble_eq_true rfl) dX11_keep_4 (fun H locs hw => ?_)
  refine lv_if_ne (tgt := 13) hx hb dX11_keep_7 (by decide) (fun hc6 => ?_) (fun hc6 => ?_)
  · have hf := it_n hf hc6
    refine lv_aload_n hx hb dX11_keep_13 rfl (lv_at hl 0 rfl) ?_
    refine lv_iconst (v := (0 : Int32)) hx hb dX11_keep_14 rfl ?_
    refine lv_iconst (v := (1 : Int32)) hx hb dX11_keep_15 rfl ?_
    refine lv_iload_n hx hb dX11_keep_16 rfl (lv_at hl 1 rfl) ?_
    refine lv_iadd hx hb dX11_keep_17 ?_
    obtain ⟨Tm_3, hc4, hf⟩ := bd1_e hf
    refine r_callVvF C hw (c_X11_copy (zm := zm) hc4) md_X11_copy [0, 1, 2, 3, 4, 5, 6, 7, 8, 9, 10, 11, 12, 13, 14, 15, 16, 17, 18] rfl rfl rfl rfl q6_36 0 rfl cf_X11.1 ⟨Nat.le_of_ble_eq_true rfl, Nat.le_of_ble_eq_true rfl⟩ ⟨Nat.zero_le _, Nat.zero_le _⟩ hl.1 rfl rfl (Nat.le_of_ble_eq_true rfl) dX11_keep_18 (fun H locs hw => ?_)
    refine lv_aload_n hx hb dX11_keep_21 rfl (lv_at hl 0 rfl) ?_
    refine r_get C hw 0 rfl cf_X11 1 (by decide) q4_174 (v := .ref (zm 2)) rfl dX11_keep_22 ?_
    refine lv_iload_n hx hb dX11_keep_25 rfl (lv_at hl 1 rfl) ?_
    refine lv_iconst (v := (1 : Int32)) hx hb dX11_keep_26 rfl ?_
    obtain ⟨hi5, hf⟩ := it_g hf
    refine r_zast C hw 2 (f := (Tm_3 2)) rfl hi5 (ws' := (gcM g zm (u2 Tm_3 2 x1.toNatClampNeg (vp_nar .boolean (1 : Int32))))) gcM_a2 dX11_keep_27 (fun H locs hw => ?_)
    refine lv_aload_n hx hb dX11_keep_28 rfl (lv_at hl 0 rfl) ?_
    refine r_get C hw 0 rfl cf_X11 0 (by decide) q4_173 (v := .ref (zm 1)) rfl dX11_keep_29 ?_
    refine lv_iconst (v := (0 : Int32)) hx hb dX11_keep_32 rfl ?_
    refine r_iald C hw 1 (f := (Tm_3 1)) rfl (by decide) dX11_keep_33 ?_
    obtain ⟨rfl, rfl⟩ := so2 hf
    exact r_iret C hw rfl dX11_keep_34
  · have hf := it_p hf hc6
    refine lv_bipush (v := (-2 : Int32)) hx hb dX11_keep_10 rfl ?_
    obtain ⟨rfl, rfl⟩ := so2 hf
    exact r_iret C hw rfl dX11_keep_12
set_option maxRecDepth 100000 in
set_option maxHeartbeats 4000000 in
theorem c_X11_back {l : Launch} {g : evG} {zm : Nat → Nat} {r : Int32} {om : Gp}  {Tm : Gp} {x1 : Int32} (hf : fX11_back Tm x1 = some (r, om)) : CTi l g yX11_back (Cond.code yX11_back cX11_back 2 (some .int)) 1 25 [.ref (zm 0), .int x1] (gcM g zm Tm) (gcM g zm om) r := by
  refine ct_i rfl (Nat.le_of_ble_eq_true rfl) ?_
  intro p e s m args below meth c A ls C hw hl
  have C : ctx g p s m args meth c RX11 cX11_back 2 (some .int) A := C
  have hl : lv_has ls 2 [(0, .ref (zm 0)), (1, .int x1)] := hl
  obtain ⟨hx, hb, hml, hown, hts, -⟩ := id C
  unfold fX11_back at hf
  refine lv_iload_n hx hb dX11_back_0 rfl (lv_at hl 1 rfl) ?_
  refine lv_i2l hx hb dX11_back_1 rfl ?_
  refine lv_lconst (v := (0 : Int64)) hx hb dX11_back_2 rfl ?_
  refine lv_lconst (v := (1 : Int64)) hx hb dX11_back_3 rfl ?_
  obtain ⟨r1, hc2, hf⟩ := bd1_e hf
  refine r_callSi0 C hw (c_X11_in hc2) md_X11_in [] rfl rfl q5_32 ⟨Nat.le_of_ble_eq_true rfl, Nat.le_of_ble_eq_true rfl⟩ ⟨Nat.zero_le _, Nat.zero_le _⟩ hl.1 rfl rfl (Nat.le_of_ble_eq_true rfl) dX11_back_4 (fun H locs hw => ?_)
  refine lv_if_ne (tgt := 13) hx hb dX11_back_7 (by decide) (fun hc7 => ?_) (fun hc7 => ?_)
  · have hf := it_n hf hc7
    refine lv_aload_n hx hb dX11_back_13 rfl (lv_at hl 0 rfl) ?_
    refine r_get C hw 0 rfl cf_X11 1 (by decide) q4_174 (v := .ref (zm 2)) rfl dX11_back_14 ?_
    refine lv_iload_n hx hb dX11_back_17 rfl (lv_at hl 1 rfl) ?_
    obtain ⟨hi3, hf⟩ := it_g hf
    refine r_zald C hw 2 (f := (Tm 2)) rfl hi3 dX11_back_18 ?_
    refine lv_if_ne (tgt := 25) hx hb dX11_back_19 (by decide) (fun hc6 => ?_) (fun hc6 => ?_)
    · have hf := it_n hf hc6
      refine lv_aload_n hx hb dX11_back_25 rfl (lv_at hl 0 rfl) ?_
      refine lv_iconst (v := (1 : Int32)) hx hb dX11_back_26 rfl ?_
      refine lv_iload_n hx hb dX11_back_27 rfl (lv_at hl 1 rfl) ?_
      refine lv_iadd hx hb dX11_back_28 ?_
      refine lv_iconst (v := (0 : Int32)) hx hb dX11_back_29 rfl ?_
      obtain ⟨Tm_4, hc5, hf⟩ := bd1_e hf
      refine r_callVvF C hw (c_X11_copy (zm := zm) hc5) md_X11_copy [0, 1, 2, 3, 4, 5, 6, 7, 8, 9, 10, 11, 12, 13, 14, 15, 16, 17, 18] rfl rfl rfl rfl q6_36 0 rfl cf_X11.1 ⟨Nat.le_of_ble_eq_true rfl, Nat.le_of_ble_eq_true rfl⟩ ⟨Nat.zero_le _, Nat.zero_le _⟩ hl.1 rfl rfl (Nat.le_of_ble_eq_true rfl) dX11_back_30 (fun H locs hw => ?_)
      refine lv_aload_n hx hb dX11_back_33 rfl (lv_at hl 0 rfl) ?_
      refine r_get C hw 0 rfl cf_X11 0 (by decide) q4_173 (v := .ref (zm 1)) rfl dX11_back_34 ?_
      refine lv_iconst (v := (0 : Int32)) hx hb dX11_back_37 rfl ?_
      refine r_iald C hw 1 (f := (Tm_4 1)) rfl (by decide) dX11_back_38 ?_
      obtain ⟨rfl, rfl⟩ := so2 hf
      exact r_iret C hw rfl dX11_back_39
    · have hf := it_p hf hc6
      refine lv_bipush (v := (-4 : Int32)) hx hb dX11_back_22 rfl ?_
      obtain ⟨rfl, rfl⟩ := so2 hf
      exact r_iret C hw rfl dX11_back_24
  · have hf := it_p hf hc7
    refine lv_bipush (v := (-2 : Int32)) hx hb dX11_back_10 rfl ?_
    obtain ⟨rfl, rfl⟩ := so2 hf
    exact r_iret C hw rfl dX11_back_12
set_option maxRecDepth 100000 in
set_option maxHeartbeats 4000000 in
theorem c_X11_count {l : Launch} {g : evG} {zm : Nat → Nat} {r : Int32}  {Tm : Gp} {x1 : Int32} (hf : fX11_count Tm x1 = some (r)) : CTi l g yX11_count (Cond.code yX11_count cX11_count 2 (some .int)) 2 46 [.ref (zm 0), .int x1] (gcM g zm Tm) (gcM g zm Tm) r := by
  refine ct_i rfl (Nat.le_of_ble_eq_true rfl) ?_
  intro p e s m args below meth c A ls C hw hl
  have C : ctx g p s m args meth c RX11 cX11_count 2 (some .int) A := C
  have hl : lv_has ls 2 [(0, .ref (zm 0)), (1, .int x1)] := hl
  obtain ⟨hx, hb, hml, hown, hts, -⟩ := id C
  unfold fX11_count at hf
  refine lv_iload_n hx hb dX11_count_0 rfl (lv_at hl 1 rfl) ?_
  by_cases hs1 : x1 = (0 : Int32)
  · have hf := it_p hf hs1
    refine lv_tableIn (off := 43) (tgt := 44) hx hb dX11_count_1 (by rw [hs1]; decide) (by rw [hs1]; decide) (by rw [hs1]; rfl) (by decide) ?_
    refine lv_aload_n hx hb dX11_count_44 rfl (lv_at hl 0 rfl) ?_
    refine r_get C hw 0 rfl cf_X11 6 (by decide) q4_179 (v := .int (Tm 0 6)) rfl dX11_count_45 ?_
    obtain rfl := so1 hf
    exact r_iret C hw rfl dX11_count_48
  · have hf := it_n hf hs1
    by_cases hs2 : x1 = (1 : Int32)
    · have hf := it_p hf hs2
      refine lv_tableIn (off := 48) (tgt := 49) hx hb dX11_count_1 (by rw [hs2]; decide) (by rw [hs2]; decide) (by rw [hs2]; rfl) (by decide) ?_
      refine lv_aload_n hx hb dX11_count_49 rfl (lv_at hl 0 rfl) ?_
      refine r_get C hw 0 rfl cf_X11 7 (by decide) q4_180 (v := .int (Tm 0 7)) rfl dX11_count_50 ?_
      obtain rfl := so1 hf
      exact r_iret C hw rfl dX11_count_53
    · have hf := it_n hf hs2
      by_cases hs3 : x1 = (2 : Int32)
      · have hf := it_p hf hs3
        refine lv_tableIn (off := 53) (tgt := 54) hx hb dX11_count_1 (by rw [hs3]; decide) (by rw [hs3]; decide) (by rw [hs3]; rfl) (by decide) ?_
        refine lv_aload_n hx hb dX11_count_54 rfl (lv_at hl 0 rfl) ?_
        refine r_get C hw 0 rfl cf_X11 11 (by decide) q4_184 (v := .int (Tm 0 11)) rfl dX11_count_55 ?_
        obtain rfl := so1 hf
        exact r_iret C hw rfl dX11_count_58
      · have hf := it_n hf hs3
        by_cases hs4 : x1 = (3 : Int32)
        · have hf := it_p hf hs4
          refine lv_tableIn (off := 58) (tgt := 59) hx hb dX11_count_1 (by rw [hs4]; decide) (by rw [hs4]; decide) (by rw [hs4]; rfl) (by decide) ?_
          refine lv_aload_n hx hb dX11_count_59 rfl (lv_at hl 0 rfl) ?_
          refine r_get C hw 0 rfl cf_X11 12 (by decide) q4_185 (v := .int (Tm 0 12)) rfl dX11_count_60 ?_
          obtain rfl := so1 hf
          exact r_iret C hw rfl dX11_count_63
        · have hf := it_n hf hs4
          by_cases hs5 : x1 = (4 : Int32)
          · have hf := it_p hf hs5
            refine lv_tableIn (off := 63) (tgt := 64) hx hb dX11_count_1 (by rw [hs5]; decide) (by rw [hs5]; decide) (by rw [hs5]; rfl) (by decide) ?_
            refine lv_aload_n hx hb dX11_count_64 rfl (lv_at hl 0 rfl) ?_
            refine r_get C hw 0 rfl cf_X11 0 (by decide) q4_173 (v := .ref (zm 1)) rfl dX11_count_65 ?_
            refine lv_iconst (v := (0 : Int32)) hx hb dX11_count_68 rfl ?_
            refine r_iald C hw 1 (f := (Tm 1)) rfl (by decide) dX11_count_69 ?_
            obtain rfl := so1 hf
            exact r_iret C hw rfl dX11_count_70
          · have hf := it_n hf hs5
            by_cases hs6 : x1 = (5 : Int32)
            · have hf := it_p hf hs6
              refine lv_tableIn (off := 70) (tgt := 71) hx hb dX11_count_1 (by rw [hs6]; decide) (by rw [hs6]; decide) (by rw [hs6]; rfl) (by decide) ?_
              refine lv_aload_n hx hb dX11_count_71 rfl (lv_at hl 0 rfl) ?_
              refine r_get C hw 0 rfl cf_X11 29 (by decide) q4_202 (v := .int (Tm 0 29)) rfl dX11_count_72 ?_
              obtain rfl := so1 hf
              exact r_iret C hw rfl dX11_count_75
            · have hf := it_n hf hs6
              by_cases hs7 : x1 = (6 : Int32)
              · have hf := it_p hf hs7
                refine lv_tableIn (off := 75) (tgt := 76) hx hb dX11_count_1 (by rw [hs7]; decide) (by rw [hs7]; decide) (by rw [hs7]; rfl) (by decide) ?_
                refine lv_aload_n hx hb dX11_count_76 rfl (lv_at hl 0 rfl) ?_
                refine r_get C hw 0 rfl cf_X11 3 (by decide) q4_176 (v := .int (Tm 0 3)) rfl dX11_count_77 ?_
                obtain rfl := so1 hf
                exact r_iret C hw rfl dX11_count_80
              · have hf := it_n hf hs7
                refine lv_tableOut (tgt := 81) hx hb dX11_count_1 (sw_o (lo := 0) (hi := 6) (by decide) (by decide) (fun k h1 h2 => ?_)) (by decide) ?_
                · rcases (show k = 0 ∨ k = 1 ∨ k = 2 ∨ k = 3 ∨ k = 4 ∨ k = 5 ∨ k = 6 by omega) with rfl | rfl | rfl | rfl | rfl | rfl | rfl
                  · exact hs1
                  · exact hs2
                  · exact hs3
                  · exact hs4
                  · exact hs5
                  · exact hs6
                  · exact hs7
                · refine lv_iload_n hx hb dX11_count_81 rfl (lv_at hl 1 rfl) ?_
                  refine lv_i2l hx hb dX11_count_82 rfl ?_
                  refine lv_ldc2 (v := (7 : Int64)) hx hb hown (hts _ q6_48) dX11_count_83 ?_
                  refine lv_ldc2 (v := (12 : Int64)) hx hb hown (hts _ q5_214) dX11_count_86 ?_
                  obtain ⟨r8, hc9, hf⟩ := bd1_e hf
                  refine r_callSi0 C hw (c_X11_in hc9) md_X11_in [] rfl rfl q5_32 ⟨Nat.le_of_ble_eq_true rfl, Nat.le_of_ble_eq_true rfl⟩ ⟨Nat.zero_le _, Nat.zero_le _⟩ hl.1 rfl rfl (Nat.le_of_ble_eq_true rfl) dX11_count_89 (fun H locs hw => ?_)
                  refine lv_if_ne (tgt := 100) hx hb dX11_count_92 (by decide) (fun hc14 => ?_) (fun hc14 => ?_)
                  · have hf := it_n hf hc14
                    refine lv_aload_n hx hb dX11_count_100 rfl (lv_at hl 0 rfl) ?_
                    refine lv_iload_n hx hb dX11_count_101 rfl (lv_at hl 1 rfl) ?_
                    refine lv_bipush (v := (7 : Int32)) hx hb dX11_count_102 rfl ?_
                    refine lv_isub hx hb dX11_count_104 ?_
                    obtain ⟨r10, hc11, hf⟩ := bd1_e hf
                    refine r_callVi0 C hw (c_X11_isPair (zm := zm) hc11) md_X11_isPair [0, 1, 2, 3, 4, 5, 6, 7, 8, 9, 10, 11, 12, 13, 14, 15, 16, 17, 18] rfl rfl q5_110 0 rfl cf_X11.1 ⟨Nat.le_of_ble_eq_true rfl, Nat.le_of_ble_eq_true rfl⟩ ⟨Nat.zero_le _, Nat.zero_le _⟩ hl.1 rfl rfl (Nat.le_of_ble_eq_true rfl) dX11_count_105 (fun H locs hw => ?_)
                    refine lv_if_eq (tgt := 123) hx hb dX11_count_108 (by decide) (fun hc13 => ?_) (fun hc13 => ?_)
                    · have hf := it_p hf hc13
                      refine lv_iconst (v := (-1 : Int32)) hx hb dX11_count_123 rfl ?_
                      obtain rfl := so1 hf
                      exact r_iret C hw rfl dX11_count_124
                    · have hf := it_n hf hc13
                      refine lv_aload_n hx hb dX11_count_111 rfl (lv_at hl 0 rfl) ?_
                      refine r_get C hw 0 rfl cf_X11 9 (by decide) q4_182 (v := .ref (zm 6)) rfl dX11_count_112 ?_
                      refine lv_iload_n hx hb dX11_count_115 rfl (lv_at hl 1 rfl) ?_
                      refine lv_bipush (v := (7 : Int32)) hx hb dX11_count_116 rfl ?_
                      refine lv_isub hx hb dX11_count_118 ?_
                      obtain ⟨hi12, hf⟩ := it_g hf
                      refine r_iald C hw 6 (f := (Tm 6)) rfl hi12 dX11_count_119 ?_
                      refine lv_goto (tgt := 124) hx hb dX11_count_120 (by decide) ?_
                      obtain rfl := so1 hf
                      exact r_iret C hw rfl dX11_count_124
                  · have hf := it_p hf hc14
                    refine lv_bipush (v := (-3 : Int32)) hx hb dX11_count_95 rfl ?_
                    refine lv_goto (tgt := 124) hx hb dX11_count_97 (by decide) ?_
                    obtain rfl := so1 hf
                    exact r_iret C hw rfl dX11_count_124
