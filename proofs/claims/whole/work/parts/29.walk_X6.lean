set_option maxRecDepth 100000 in
set_option maxHeartbeats 4000000 in
theorem c_X6_append {l : Launch} {g : evG} {zr : Nat → Nat} {or : Gp}  {Tr : Gp} {x1 : Int32} (hf : fX6_append Tr x1 = some (or)) : CTv l g yX6_append (Cond.code yX6_append cX6_append 2 none) 0 0 [.ref (zr 0), .int x1] (gcR g zr Tr) (gcR g zr or) := by
  refine ct_v rfl (Nat.le_of_ble_eq_true rfl) ?_
  intro p e s m args below meth c A ls C hw hl
  have C : ctx g p s m args meth c RX6 cX6_append 2 none A := C
  have hl : lv_has ls 2 [(0, .ref (zr 0)), (1, .int x1)] := hl
  obtain ⟨hx, hb, hml, hown, hts, -⟩ := id C
  unfold fX6_append at hf
  refine lv_aload_n hx hb dX6_append_0 rfl (lv_at hl 0 rfl) ?_
  refine r_get C hw 0 rfl cf_X6 0 (by decide) q1_239 (v := .int (Tr 0 0)) rfl dX6_append_1 ?_
  refine lv_if_lt (tgt := 16) hx hb dX6_append_4 (by decide) (fun hc3 => ?_) (fun hc3 => ?_)
  · have hf := it_p hf hc3
    obtain rfl := so1 hf
    exact r_vret C hw dX6_append_16
  · have hf := it_n hf hc3
    refine lv_aload_n hx hb dX6_append_7 rfl (lv_at hl 0 rfl) ?_
    refine r_get C hw 0 rfl cf_X6 0 (by decide) q1_239 (v := .int (Tr 0 0)) rfl dX6_append_8 ?_
    refine lv_bipush (v := (40 : Int32)) hx hb dX6_append_11 rfl ?_
    refine lv_icmp_lt (tgt := 17) hx hb dX6_append_13 (by decide) (fun hc2 => ?_) (fun hc2 => ?_)
    · have hf := it_p hf hc2
      refine lv_aload_n hx hb dX6_append_17 rfl (lv_at hl 0 rfl) ?_
      refine r_get C hw 0 rfl cf_X6 1 (by decide) q2_1 (v := .ref (zr 1)) rfl dX6_append_18 ?_
      refine lv_aload_n hx hb dX6_append_21 rfl (lv_at hl 0 rfl) ?_
      refine r_get C hw 0 rfl cf_X6 0 (by decide) q1_239 (v := .int (Tr 0 0)) rfl dX6_append_22 ?_
      refine lv_iload_n hx hb dX6_append_25 rfl (lv_at hl 1 rfl) ?_
      obtain ⟨hi1, hf⟩ := it_g hf
      refine r_zast C hw 1 (f := (Tr 1)) rfl hi1 (ws' := (gcR g zr (u2 Tr 1 (Tr 0 0).toNatClampNeg (vp_nar .boolean x1)))) gcR_a1 dX6_append_26 (fun H locs hw => ?_)
      refine lv_aload_n hx hb dX6_append_27 rfl (lv_at hl 0 rfl) ?_
      refine lv_dup hx hb dX6_append_28 rfl ?_
      refine r_get C hw 0 rfl cf_X6 0 (by decide) q1_239 (v := .int (Tr 0 0)) rfl dX6_append_29 ?_
      refine lv_iconst (v := (1 : Int32)) hx hb dX6_append_32 rfl ?_
      refine lv_iadd hx hb dX6_append_33 ?_
      refine r_puti C hw 0 rfl cf_X6 0 (by decide) q1_239 rfl rfl (Nat.le_of_ble_eq_true rfl) (ws' := (gcR g zr (u2 (u2 Tr 1 (Tr 0 0).toNatClampNeg (vp_nar .boolean x1)) 0 0 ((Tr 0 0) + (1 : Int32))))) gcR_p0 dX6_append_34 (fun H locs hw => ?_)
      obtain rfl := so1 hf
      exact r_vret C hw dX6_append_37
    · have hf := it_n hf hc2
      obtain rfl := so1 hf
      exact r_vret C hw dX6_append_16
set_option maxRecDepth 100000 in
set_option maxHeartbeats 4000000 in
theorem kX6_costOf_47 {l : Launch} {g : evG} {p : Program} {e : Env} {s : State} {m : MethodId} {args : Array Value} {below : List Frame} {meth : Method} {c : Code} {A : Nat → Prop} {zr : Nat → Nat} {r : Int32} (C : ctx g p s m args meth c RX6 cX6_costOf 6 (some .int) A) {Tr : Gp} {x3 : Int32} {x4 : Int32} {y0 : Int32} {H : Heap} {locs : List Loc} {ls : Array Slot} (hf : fX6_costOf_47 Tr x3 x4 y0 = some (r)) (hw : wl g A s.heap (gcR g zr Tr) H locs) (hl : lv_has ls 6 [(3, .int x3), (4, .int x4)]) : W p l e (rmK 0 0) s m args below meth c H locs 0 0 (MQ below (Qi g A (gcR g zr Tr) r) args s 0 0 A) (F0 m 47 ls [.int y0]) := by
  obtain ⟨hx, hb, hml, hown, hts, -⟩ := id C
  unfold fX6_costOf_47 at hf
  refine lv_istore (lv' := [(5, .int y0), (3, .int x3), (4, .int x4)]) hx hb dX6_costOf_47 hl (by decide) rfl (fun ls hl => ?_)
  refine lv_iload hx hb dX6_costOf_49 (lv_at hl 0 rfl) ?_
  refine lv_iload hx hb dX6_costOf_51 (lv_at hl 2 rfl) ?_
  refine lv_icmp_ne (tgt := 60) hx hb dX6_costOf_53 (by decide) (fun hc1 => ?_) (fun hc1 => ?_)
  · have hf := it_n hf hc1
    refine lv_iload_n hx hb dX6_costOf_60 rfl (lv_at hl 1 rfl) ?_
    refine lv_bipush (v := (64 : Int32)) hx hb dX6_costOf_61 rfl ?_
    refine lv_imul hx hb dX6_costOf_63 ?_
    obtain rfl := so1 hf
    exact r_iret C hw rfl dX6_costOf_64
  · have hf := it_p hf hc1
    refine lv_iconst (v := (0 : Int32)) hx hb dX6_costOf_56 rfl ?_
    refine lv_goto (tgt := 64) hx hb dX6_costOf_57 (by decide) ?_
    obtain rfl := so1 hf
    exact r_iret C hw rfl dX6_costOf_64
set_option maxRecDepth 100000 in
set_option maxHeartbeats 4000000 in
theorem kX6_costOf_46 {l : Launch} {g : evG} {p : Program} {e : Env} {s : State} {m : MethodId} {args : Array Value} {below : List Frame} {meth : Method} {c : Code} {A : Nat → Prop} {zr : Nat → Nat} {r : Int32} (C : ctx g p s m args meth c RX6 cX6_costOf 6 (some .int) A) {Tr : Gp} {x3 : Int32} {x4 : Int32} {H : Heap} {locs : List Loc} {ls : Array Slot} (hf : fX6_costOf_46 Tr x3 x4 = some (r)) (hw : wl g A s.heap (gcR g zr Tr) H locs) (hl : lv_has ls 6 [(3, .int x3), (4, .int x4)]) : W p l e (rmK 0 0) s m args below meth c H locs 0 0 (MQ below (Qi g A (gcR g zr Tr) r) args s 0 0 A) (F0 m 46 ls []) := by
  obtain ⟨hx, hb, hml, hown, hts, -⟩ := id C
  unfold fX6_costOf_46 at hf
  refine lv_iconst (v := (0 : Int32)) hx hb dX6_costOf_46 rfl ?_
  exact kX6_costOf_47 (zr := zr) (r := r) C hf hw (lv_sub hl [0, 1] rfl)
set_option maxRecDepth 100000 in
set_option maxHeartbeats 4000000 in
theorem kX6_costOf_13 {l : Launch} {g : evG} {p : Program} {e : Env} {s : State} {m : MethodId} {args : Array Value} {below : List Frame} {meth : Method} {c : Code} {A : Nat → Prop} {zr : Nat → Nat} {r : Int32} (C : ctx g p s m args meth c RX6 cX6_costOf 6 (some .int) A) {Tr : Gp} {x1 : Int32} {x3 : Int32} {y0 : Int32} {H : Heap} {locs : List Loc} {ls : Array Slot} (hf : fX6_costOf_13 Tr x1 x3 y0 = some (r)) (hw : wl g A s.heap (gcR g zr Tr) H locs) (hl : lv_has ls 6 [(0, .ref (zr 0)), (1, .int x1), (3, .int x3)]) : W p l e (rmK 0 0) s m args below meth c H locs 0 0 (MQ below (Qi g A (gcR g zr Tr) r) args s 0 0 A) (F0 m 13 ls [.int y0]) := by
  obtain ⟨hx, hb, hml, hown, hts, -⟩ := id C
  unfold fX6_costOf_13 at hf
  refine lv_istore (lv' := [(4, .int y0), (0, .ref (zr 0)), (1, .int x1), (3, .int x3)]) hx hb dX6_costOf_13 hl (by decide) rfl (fun ls hl => ?_)
  refine lv_iload_n hx hb dX6_costOf_15 rfl (lv_at hl 2 rfl) ?_
  refine lv_if_lt (tgt := 46) hx hb dX6_costOf_16 (by decide) (fun hc5 => ?_) (fun hc5 => ?_)
  · have hf := it_p hf hc5
    exact kX6_costOf_46 (zr := zr) (r := r) C hf hw (lv_sub hl [3, 0] rfl)
  · have hf := it_n hf hc5
    refine lv_iload_n hx hb dX6_costOf_19 rfl (lv_at hl 2 rfl) ?_
    refine lv_aload_n hx hb dX6_costOf_20 rfl (lv_at hl 1 rfl) ?_
    refine r_get C hw 0 rfl cf_X6 0 (by decide) q1_239 (v := .int (Tr 0 0)) rfl dX6_costOf_21 ?_
    refine lv_icmp_ge (tgt := 46) hx hb dX6_costOf_24 (by decide) (fun hc4 => ?_) (fun hc4 => ?_)
    · have hf := it_p hf hc4
      exact kX6_costOf_46 (zr := zr) (r := r) C hf hw (lv_sub hl [3, 0] rfl)
    · have hf := it_n hf hc4
      refine lv_iload_n hx hb dX6_costOf_27 rfl (lv_at hl 2 rfl) ?_
      refine lv_bipush (v := (40 : Int32)) hx hb dX6_costOf_28 rfl ?_
      refine lv_icmp_ge (tgt := 46) hx hb dX6_costOf_30 (by decide) (fun hc3 => ?_) (fun hc3 => ?_)
      · have hf := it_p hf hc3
        exact kX6_costOf_46 (zr := zr) (r := r) C hf hw (lv_sub hl [3, 0] rfl)
      · have hf := it_n hf hc3
        refine lv_aload_n hx hb dX6_costOf_33 rfl (lv_at hl 1 rfl) ?_
        refine r_get C hw 0 rfl cf_X6 1 (by decide) q2_1 (v := .ref (zr 1)) rfl dX6_costOf_34 ?_
        refine lv_iload_n hx hb dX6_costOf_37 rfl (lv_at hl 2 rfl) ?_
        obtain ⟨hi1, hf⟩ := it_g hf
        refine r_zald C hw 1 (f := (Tr 1)) rfl hi1 dX6_costOf_38 ?_
        refine lv_if_eq (tgt := 46) hx hb dX6_costOf_39 (by decide) (fun hc2 => ?_) (fun hc2 => ?_)
        · have hf := it_p hf hc2
          exact kX6_costOf_46 (zr := zr) (r := r) C hf hw (lv_sub hl [3, 0] rfl)
        · have hf := it_n hf hc2
          refine lv_iconst (v := (1 : Int32)) hx hb dX6_costOf_42 rfl ?_
          refine lv_goto (tgt := 47) hx hb dX6_costOf_43 (by decide) ?_
          exact kX6_costOf_47 (zr := zr) (r := r) C hf hw (lv_sub hl [3, 0] rfl)
set_option maxRecDepth 100000 in
set_option maxHeartbeats 4000000 in
theorem c_X6_costOf {l : Launch} {g : evG} {zr : Nat → Nat} {r : Int32}  {Tr : Gp} {x1 : Int32} {x2 : Int32} {x3 : Int32} (hf : fX6_costOf Tr x1 x2 x3 = some (r)) : CTi l g yX6_costOf (Cond.code yX6_costOf cX6_costOf 6 (some .int)) 0 0 [.ref (zr 0), .int x1, .int x2, .int x3] (gcR g zr Tr) (gcR g zr Tr) r := by
  refine ct_i rfl (Nat.le_of_ble_eq_true rfl) ?_
  intro p e s m args below meth c A ls C hw hl
  have C : ctx g p s m args meth c RX6 cX6_costOf 6 (some .int) A := C
  have hl : lv_has ls 6 [(0, .ref (zr 0)), (1, .int x1), (2, .int x2), (3, .int x3)] := hl
  obtain ⟨hx, hb, hml, hown, hts, -⟩ := id C
  unfold fX6_costOf at hf
  refine lv_iload_n hx hb dX6_costOf_0 rfl (lv_at hl 1 rfl) ?_
  refine lv_iload_n hx hb dX6_costOf_1 rfl (lv_at hl 2 rfl) ?_
  refine lv_iadd hx hb dX6_costOf_2 ?_
  refine lv_iconst (v := (2 : Int32)) hx hb dX6_costOf_3 rfl ?_
  refine lv_irm hx hb dX6_costOf_4 (by decide) ?_
  refine lv_if_ne (tgt := 12) hx hb dX6_costOf_5 (by decide) (fun hc1 => ?_) (fun hc1 => ?_)
  · have hf := it_n hf hc1
    refine lv_iconst (v := (0 : Int32)) hx hb dX6_costOf_12 rfl ?_
    exact kX6_costOf_13 (zr := zr) (r := r) C hf hw (lv_sub hl [0, 1, 3] rfl)
  · have hf := it_p hf hc1
    refine lv_iconst (v := (1 : Int32)) hx hb dX6_costOf_8 rfl ?_
    refine lv_goto (tgt := 13) hx hb dX6_costOf_9 (by decide) ?_
    exact kX6_costOf_13 (zr := zr) (r := r) C hf hw (lv_sub hl [0, 1, 3] rfl)
set_option maxRecDepth 100000 in
set_option maxHeartbeats 4000000 in
theorem c_X6_leastFrom {l : Launch} {g : evG} {zr : Nat → Nat} {r : Int32}  {Tr : Gp} {x1 : Int32} {x2 : Int32} (hf : fX6_leastFrom Tr x1 x2 = some (r)) : CTi l g yX6_leastFrom (Cond.code yX6_leastFrom cX6_leastFrom 4 (some .int)) 1 22 [.ref (zr 0), .int x1, .int x2] (gcR g zr Tr) (gcR g zr Tr) r := by
  refine ct_i rfl (Nat.le_of_ble_eq_true rfl) ?_
  intro p e s m args below meth c A ls C hw hl
  have C : ctx g p s m args meth c RX6 cX6_leastFrom 4 (some .int) A := C
  have hl : lv_has ls 4 [(0, .ref (zr 0)), (1, .int x1), (2, .int x2)] := hl
  obtain ⟨hx, hb, hml, hown, hts, -⟩ := id C
  unfold fX6_leastFrom at hf
  refine lv_iconst (v := (2 : Int32)) hx hb dX6_leastFrom_0 rfl ?_
  refine lv_iload_n hx hb dX6_leastFrom_1 rfl (lv_at hl 1 rfl) ?_
  refine lv_imul hx hb dX6_leastFrom_2 ?_
  refine lv_iload_n hx hb dX6_leastFrom_3 rfl (lv_at hl 2 rfl) ?_
  refine lv_iadd hx hb dX6_leastFrom_4 ?_
  refine lv_istore_n (lv' := [(3, .int (((2 : Int32) * x1) + x2)), (0, .ref (zr 0)), (1, .int x1), (2, .int x2)]) hx hb dX6_leastFrom_5 rfl hl (by decide) rfl (fun ls hl => ?_)
  refine lv_iload_n hx hb dX6_leastFrom_6 rfl (lv_at hl 0 rfl) ?_
  refine lv_iconst (v := (0 : Int32)) hx hb dX6_leastFrom_7 rfl ?_
  refine lv_aload_n hx hb dX6_leastFrom_8 rfl (lv_at hl 1 rfl) ?_
  refine r_get C hw 0 rfl cf_X6 2 (by decide) q2_2 (v := .ref (zr 2)) rfl dX6_leastFrom_9 ?_
  refine r_alen C hw 2 0 rfl rfl (v := (82 : Int32)) rfl dX6_leastFrom_12 ?_
  refine lv_iconst (v := (1 : Int32)) hx hb dX6_leastFrom_13 rfl ?_
  refine lv_isub hx hb dX6_leastFrom_14 ?_
  obtain ⟨r1, hc2, hf⟩ := bd1_e hf
  refine r_callNi0 C hw (c_X10_within hc2) md_X10_within [] rfl rfl nq_39 ⟨Nat.le_of_ble_eq_true rfl, Nat.le_of_ble_eq_true rfl⟩ ⟨Nat.zero_le _, Nat.zero_le _⟩ hl.1 rfl rfl (Nat.le_of_ble_eq_true rfl) dX6_leastFrom_15 (fun H locs hw => ?_)
  refine lv_if_eq (tgt := 30) hx hb dX6_leastFrom_18 (by decide) (fun hc4 => ?_) (fun hc4 => ?_)
  · have hf := it_p hf hc4
    refine lv_iconst (v := (0 : Int32)) hx hb dX6_leastFrom_30 rfl ?_
    obtain rfl := so1 hf
    exact r_iret C hw rfl dX6_leastFrom_31
  · have hf := it_n hf hc4
    refine lv_aload_n hx hb dX6_leastFrom_21 rfl (lv_at hl 1 rfl) ?_
    refine r_get C hw 0 rfl cf_X6 2 (by decide) q2_2 (v := .ref (zr 2)) rfl dX6_leastFrom_22 ?_
    refine lv_iload_n hx hb dX6_leastFrom_25 rfl (lv_at hl 0 rfl) ?_
    obtain ⟨hi3, hf⟩ := it_g hf
    refine r_iald C hw 2 (f := (Tr 2)) rfl hi3 dX6_leastFrom_26 ?_
    refine lv_goto (tgt := 31) hx hb dX6_leastFrom_27 (by decide) ?_
    obtain rfl := so1 hf
    exact r_iret C hw rfl dX6_leastFrom_31
set_option maxRecDepth 100000 in
set_option maxHeartbeats 4000000 in
theorem c_X6_slipTo {l : Launch} {g : evG} {zr : Nat → Nat} {r : Int32}  {Tr : Gp} {x1 : Int32} {x2 : Int32} {x3 : Int32} (hf : fX6_slipTo Tr x1 x2 x3 = some (r)) : CTi l g yX6_slipTo (Cond.code yX6_slipTo cX6_slipTo 4 (some .int)) 2 45 [.ref (zr 0), .int x1, .int x2, .int x3] (gcR g zr Tr) (gcR g zr Tr) r := by
  refine ct_i rfl (Nat.le_of_ble_eq_true rfl) ?_
  intro p e s m args below meth c A ls C hw hl
  have C : ctx g p s m args meth c RX6 cX6_slipTo 4 (some .int) A := C
  have hl : lv_has ls 4 [(0, .ref (zr 0)), (1, .int x1), (2, .int x2), (3, .int x3)] := hl
  obtain ⟨hx, hb, hml, hown, hts, -⟩ := id C
  unfold fX6_slipTo at hf
  refine lv_iload_n hx hb dX6_slipTo_0 rfl (lv_at hl 3 rfl) ?_
  refine lv_bipush (v := (64 : Int32)) hx hb dX6_slipTo_1 rfl ?_
  refine lv_imul hx hb dX6_slipTo_3 ?_
  refine lv_iconst (v := (1 : Int32)) hx hb dX6_slipTo_4 rfl ?_
  refine lv_iadd hx hb dX6_slipTo_5 ?_
  refine lv_aload_n hx hb dX6_slipTo_6 rfl (lv_at hl 0 rfl) ?_
  refine lv_iload_n hx hb dX6_slipTo_7 rfl (lv_at hl 1 rfl) ?_
  refine lv_iload_n hx hb dX6_slipTo_8 rfl (lv_at hl 2 rfl) ?_
  obtain ⟨r1, hc2, hf⟩ := bd1_e hf
  refine r_callVi0 C hw (c_X6_leastFrom (zr := zr) hc2) md_X6_leastFrom [0, 1, 2] rfl rfl q4_125 0 rfl cf_X6.1 ⟨Nat.le_of_ble_eq_true rfl, Nat.le_of_ble_eq_true rfl⟩ ⟨Nat.zero_le _, Nat.zero_le _⟩ hl.1 rfl rfl (Nat.le_of_ble_eq_true rfl) dX6_slipTo_9 (fun H locs hw => ?_)
  refine lv_iadd hx hb dX6_slipTo_12 ?_
  obtain rfl := so1 hf
  exact r_iret C hw rfl dX6_slipTo_13
set_option maxRecDepth 100000 in
set_option maxHeartbeats 4000000 in
theorem kX6_reckon_22 {l : Launch} {g : evG} {p : Program} {e : Env} {s : State} {m : MethodId} {args : Array Value} {below : List Frame} {meth : Method} {c : Code} {A : Nat → Prop} {zr : Nat → Nat} {r : Int32} {or : Gp} (C : ctx g p s m args meth c RX6 cX6_reckon 7 (some .int) A) {rec15 : Gp → Int32 → Int32 → Int32 → Option (Int32 × Gp)} {rec22 : Gp → Int32 → Int32 → Int32 → Int32 → Option (Int32 × Gp)} (hr15 : ∀ (Tr : Gp) (x1 : Int32) (x2 : Int32) (x3 : Int32) (H : Heap) (locs : List Loc) (ls : Array Slot), rec15 Tr x1 x2 x3 = some (r, or) → wl g A s.heap (gcR g zr Tr) H locs → lv_has ls 7 [(0, .ref (zr 0)), (1, .int x1), (2, .int x2), (3, .int x3)] → W p l e (rmK 3 68) s m args below meth c H locs 0 0 (MQ below (Qi g A (gcR g zr or) r) args s 0 0 A) (F0 m 15 ls [])) (hr22 : ∀ (Tr : Gp) (x1 : Int32) (x2 : Int32) (x3 : Int32) (x4 : Int32) (H : Heap) (locs : List Loc) (ls : Array Slot), rec22 Tr x1 x2 x3 x4 = some (r, or) → wl g A s.heap (gcR g zr Tr) H locs → lv_has ls 7 [(0, .ref (zr 0)), (1, .int x1), (2, .int x2), (3, .int x3), (4, .int x4)] → W p l e (rmK 3 68) s m args below meth c H locs 0 0 (MQ below (Qi g A (gcR g zr or) r) args s 0 0 A) (F0 m 22 ls [])) {Tr : Gp} {x1 : Int32} {x2 : Int32} {x3 : Int32} {x4 : Int32} {H : Heap} {locs : List Loc} {ls : Array Slot} (hf : fX6_reckon_22 rec15 rec22 Tr x1 x2 x3 x4 = some (r, or)) (hw : wl g A s.heap (gcR g zr Tr) H locs) (hl : lv_has ls 7 [(0, .ref (zr 0)), (1, .int x1), (2, .int x2), (3, .int x3), (4, .int x4)]) : W p l e (rmK 3 68) s m args below meth c H locs 0 0 (MQ below (Qi g A (gcR g zr or) r) args s 0 0 A) (F0 m 22 ls []) := by
  obtain ⟨hx, hb, hml, hown, hts, -⟩ := id C
  unfold fX6_reckon_22 at hf
  refine lv_iload hx hb dX6_reckon_22 (lv_at hl 4 rfl) ?_
  refine lv_iconst (v := (2 : Int32)) hx hb dX6_reckon_24 rfl ?_
  refine lv_icmp_ge (tgt := 102) hx hb dX6_reckon_25 (by decide) (fun hc11 => ?_) (fun hc11 => ?_)
  · have hf := it_p hf hc11
    refine lv_iinc (v := (x3 + (-1 : Int32))) (lv' := [(3, .int (x3 + (-1 : Int32))), (0, .ref (zr 0)), (1, .int x1), (2, .int x2), (4, .int x4)]) hx hb dX6_reckon_102 hl (k := 3) rfl rfl (by decide) rfl (fun ls hl => ?_)
    refine lv_goto (tgt := 15) hx hb dX6_reckon_105 (by decide) ?_
    exact hr15 _ _ _ _ _ _ _ hf hw (lv_sub hl [1, 2, 3, 0] rfl)
  · have hf := it_n hf hc11
    refine lv_aload_n hx hb dX6_reckon_28 rfl (lv_at hl 0 rfl) ?_
    refine lv_iload_n hx hb dX6_reckon_29 rfl (lv_at hl 3 rfl) ?_
    refine lv_iconst (v := (1 : Int32)) hx hb dX6_reckon_30 rfl ?_
    refine lv_iadd hx hb dX6_reckon_31 ?_
    refine lv_iload hx hb dX6_reckon_32 (lv_at hl 4 rfl) ?_
    obtain ⟨r1, hc2, hf⟩ := bd1_e hf
    refine r_callVi0 C hw (c_X6_leastFrom (zr := zr) hc2) md_X6_leastFrom [0, 1, 2] rfl rfl q4_125 0 rfl cf_X6.1 ⟨Nat.le_of_ble_eq_true rfl, Nat.le_of_ble_eq_true rfl⟩ ⟨Nat.zero_le _, Nat.zero_le _⟩ hl.1 rfl rfl (Nat.le_of_ble_eq_true rfl) dX6_reckon_34 (fun H locs hw => ?_)
    refine lv_aload_n hx hb dX6_reckon_37 rfl (lv_at hl 0 rfl) ?_
    refine lv_iload_n hx hb dX6_reckon_38 rfl (lv_at hl 3 rfl) ?_
    refine lv_iconst (v := (1 : Int32)) hx hb dX6_reckon_39 rfl ?_
    refine lv_iadd hx hb dX6_reckon_40 ?_
    refine lv_iconst (v := (1 : Int32)) hx hb dX6_reckon_41 rfl ?_
    refine lv_iload hx hb dX6_reckon_42 (lv_at hl 4 rfl) ?_
    refine lv_isub hx hb dX6_reckon_44 ?_
    refine lv_iload_n hx hb dX6_reckon_45 rfl (lv_at hl 1 rfl) ?_
    obtain ⟨r3, hc4, hf⟩ := bd1_e hf
    refine r_callVi0 C hw (c_X6_slipTo (zr := zr) hc4) md_X6_slipTo [0, 1, 2] rfl rfl q4_130 0 rfl cf_X6.1 ⟨Nat.le_of_ble_eq_true rfl, Nat.le_of_ble_eq_true rfl⟩ ⟨Nat.zero_le _, Nat.zero_le _⟩ hl.1 rfl rfl (Nat.le_of_ble_eq_true rfl) dX6_reckon_46 (fun H locs hw => ?_)
    refine r_mmin C hl.1 q4_134 q4_13 q1_18 q4_14 (Nat.le_of_ble_eq_true rfl) (Nat.le_of_ble_eq_true rfl) (Nat.zero_le _) (Nat.zero_le _) dX6_reckon_49 ?_
    refine lv_istore (lv' := [(5, .int (imn r1 r3)), (0, .ref (zr 0)), (1, .int x1), (2, .int x2), (3, .int x3), (4, .int x4)]) hx hb dX6_reckon_52 hl (by decide) rfl (fun ls hl => ?_)
    refine lv_iconst (v := (2 : Int32)) hx hb dX6_reckon_54 rfl ?_
    refine lv_iload_n hx hb dX6_reckon_55 rfl (lv_at hl 4 rfl) ?_
    refine lv_imul hx hb dX6_reckon_56 ?_
    refine lv_iload hx hb dX6_reckon_57 (lv_at hl 5 rfl) ?_
    refine lv_iadd hx hb dX6_reckon_59 ?_
    refine lv_istore (lv' := [(6, .int (((2 : Int32) * x3) + x4)), (5, .int (imn r1 r3)), (0, .ref (zr 0)), (1, .int x1), (2, .int x2), (3, .int x3), (4, .int x4)]) hx hb dX6_reckon_60 hl (by decide) rfl (fun ls hl => ?_)
    refine lv_iload hx hb dX6_reckon_62 (lv_at hl 0 rfl) ?_
    refine lv_iconst (v := (0 : Int32)) hx hb dX6_reckon_64 rfl ?_
    refine lv_aload_n hx hb dX6_reckon_65 rfl (lv_at hl 2 rfl) ?_
    refine r_get C hw 0 rfl cf_X6 2 (by decide) q2_2 (v := .ref (zr 2)) rfl dX6_reckon_66 ?_
    refine r_alen C hw 2 0 rfl rfl (v := (82 : Int32)) rfl dX6_reckon_69 ?_
    refine lv_iconst (v := (1 : Int32)) hx hb dX6_reckon_70 rfl ?_
    refine lv_isub hx hb dX6_reckon_71 ?_
    obtain ⟨r5, hc6, hf⟩ := bd1_e hf
    refine r_callNi0 C hw (c_X10_within hc6) md_X10_within [] rfl rfl nq_39 ⟨Nat.le_of_ble_eq_true rfl, Nat.le_of_ble_eq_true rfl⟩ ⟨Nat.zero_le _, Nat.zero_le _⟩ hl.1 rfl rfl (Nat.le_of_ble_eq_true rfl) dX6_reckon_72 (fun H locs hw => ?_)
    refine lv_if_eq (tgt := 96) hx hb dX6_reckon_75 (by decide) (fun hc10 => ?_) (fun hc10 => ?_)
    · have hf := it_p hf hc10
      refine lv_iinc (v := (x4 + (1 : Int32))) (lv' := [(4, .int (x4 + (1 : Int32))), (6, .int (((2 : Int32) * x3) + x4)), (5, .int (imn r1 r3)), (0, .ref (zr 0)), (1, .int x1), (2, .int x2), (3, .int x3)]) hx hb dX6_reckon_96 hl (k := 6) rfl rfl (by decide) rfl (fun ls hl => ?_)
      refine lv_goto (tgt := 22) hx hb dX6_reckon_99 (by decide) ?_
      exact hr22 _ _ _ _ _ _ _ _ hf hw (lv_sub hl [3, 4, 5, 6, 0] rfl)
    · have hf := it_n hf hc10
      refine lv_aload_n hx hb dX6_reckon_78 rfl (lv_at hl 2 rfl) ?_
      refine r_get C hw 0 rfl cf_X6 2 (by decide) q2_2 (v := .ref (zr 2)) rfl dX6_reckon_79 ?_
      refine lv_iload hx hb dX6_reckon_82 (lv_at hl 0 rfl) ?_
      refine lv_aload_n hx hb dX6_reckon_84 rfl (lv_at hl 2 rfl) ?_
      refine lv_iload_n hx hb dX6_reckon_85 rfl (lv_at hl 5 rfl) ?_
      refine lv_iload hx hb dX6_reckon_86 (lv_at hl 6 rfl) ?_
      refine lv_iload_n hx hb dX6_reckon_88 rfl (lv_at hl 4 rfl) ?_
      obtain ⟨r7, hc8, hf⟩ := bd1_e hf
      refine r_callVi0 C hw (c_X6_costOf (zr := zr) hc8) md_X6_costOf [0, 1, 2] rfl rfl q4_135 0 rfl cf_X6.1 ⟨Nat.le_of_ble_eq_true rfl, Nat.le_of_ble_eq_true rfl⟩ ⟨Nat.zero_le _, Nat.zero_le _⟩ hl.1 rfl rfl (Nat.le_of_ble_eq_true rfl) dX6_reckon_89 (fun H locs hw => ?_)
      refine lv_iload hx hb dX6_reckon_92 (lv_at hl 1 rfl) ?_
      refine lv_iadd hx hb dX6_reckon_94 ?_
      obtain ⟨hi9, hf⟩ := it_g hf
      refine r_iast C hw 2 (f := (Tr 2)) rfl hi9 (ws' := (gcR g zr (u2 Tr 2 (((2 : Int32) * x3) + x4).toNatClampNeg (r7 + (imn r1 r3))))) gcR_a2 dX6_reckon_95 (fun H locs hw => ?_)
      refine lv_iinc (v := (x4 + (1 : Int32))) (lv' := [(4, .int (x4 + (1 : Int32))), (6, .int (((2 : Int32) * x3) + x4)), (5, .int (imn r1 r3)), (0, .ref (zr 0)), (1, .int x1), (2, .int x2), (3, .int x3)]) hx hb dX6_reckon_96 hl (k := 6) rfl rfl (by decide) rfl (fun ls hl => ?_)
      refine lv_goto (tgt := 22) hx hb dX6_reckon_99 (by decide) ?_
      exact hr22 _ _ _ _ _ _ _ _ hf hw (lv_sub hl [3, 4, 5, 6, 0] rfl)
set_option maxRecDepth 100000 in
set_option maxHeartbeats 4000000 in
theorem klX6_reckon_22 {l : Launch} {g : evG} {p : Program} {e : Env} {s : State} {m : MethodId} {args : Array Value} {below : List Frame} {meth : Method} {c : Code} {A : Nat → Prop} {zr : Nat → Nat} {r : Int32} {or : Gp} (C : ctx g p s m args meth c RX6 cX6_reckon 7 (some .int) A) {rec15 : Gp → Int32 → Int32 → Int32 → Option (Int32 × Gp)} (hr15 : ∀ (Tr : Gp) (x1 : Int32) (x2 : Int32) (x3 : Int32) (H : Heap) (locs : List Loc) (ls : Array Slot), rec15 Tr x1 x2 x3 = some (r, or) → wl g A s.heap (gcR g zr Tr) H locs → lv_has ls 7 [(0, .ref (zr 0)), (1, .int x1), (2, .int x2), (3, .int x3)] → W p l e (rmK 3 68) s m args below meth c H locs 0 0 (MQ below (Qi g A (gcR g zr or) r) args s 0 0 A) (F0 m 15 ls [])) : ∀ (n : Nat) (Tr : Gp) (x1 : Int32) (x2 : Int32) (x3 : Int32) (x4 : Int32) (H : Heap) (locs : List Loc) (ls : Array Slot), lX6_reckon_22 rec15 n Tr x1 x2 x3 x4 = some (r, or) → wl g A s.heap (gcR g zr Tr) H locs → lv_has ls 7 [(0, .ref (zr 0)), (1, .int x1), (2, .int x2), (3, .int x3), (4, .int x4)] → W p l e (rmK 3 68) s m args below meth c H locs 0 0 (MQ below (Qi g A (gcR g zr or) r) args s 0 0 A) (F0 m 22 ls []) := by
  intro n
  induction n with
  | zero => intro _ _ _ _ _ _ _ _ hf; exact no_f hf
  | succ n ih => intro _ _ _ _ _ _ _ _ hf hw hl; exact kX6_reckon_22 (zr := zr) (r := r) (or := or) C hr15 (rec22 := lX6_reckon_22 rec15 n) ih hf hw hl
set_option maxRecDepth 100000 in
set_option maxHeartbeats 4000000 in
theorem kX6_reckon_15 {l : Launch} {g : evG} {p : Program} {e : Env} {s : State} {m : MethodId} {args : Array Value} {below : List Frame} {meth : Method} {c : Code} {A : Nat → Prop} {zr : Nat → Nat} {r : Int32} {or : Gp} (C : ctx g p s m args meth c RX6 cX6_reckon 7 (some .int) A) {rec15 : Gp → Int32 → Int32 → Int32 → Option (Int32 × Gp)} (hr15 : ∀ (Tr : Gp) (x1 : Int32) (x2 : Int32) (x3 : Int32) (H : Heap) (locs : List Loc) (ls : Array Slot), rec15 Tr x1 x2 x3 = some (r, or) → wl g A s.heap (gcR g zr Tr) H locs → lv_has ls 7 [(0, .ref (zr 0)), (1, .int x1), (2, .int x2), (3, .int x3)] → W p l e (rmK 3 68) s m args below meth c H locs 0 0 (MQ below (Qi g A (gcR g zr or) r) args s 0 0 A) (F0 m 15 ls [])) {Tr : Gp} {x1 : Int32} {x2 : Int32} {x3 : Int32} {H : Heap} {locs : List Loc} {ls : Array Slot} (hf : fX6_reckon_15 rec15 Tr x1 x2 x3 = some (r, or)) (hw : wl g A s.heap (gcR g zr Tr) H locs) (hl : lv_has ls 7 [(0, .ref (zr 0)), (1, .int x1), (2, .int x2), (3, .int x3)]) : W p l e (rmK 3 68) s m args below meth c H locs 0 0 (MQ below (Qi g A (gcR g zr or) r) args s 0 0 A) (F0 m 15 ls []) := by
  obtain ⟨hx, hb, hml, hown, hts, -⟩ := id C
  unfold fX6_reckon_15 at hf
  refine lv_iload_n hx hb dX6_reckon_15 rfl (lv_at hl 3 rfl) ?_
  refine lv_if_lt (tgt := 108) hx hb dX6_reckon_16 (by decide) (fun hc3 => ?_) (fun hc3 => ?_)
  · have hf := it_p hf hc3
    refine lv_aload_n hx hb dX6_reckon_108 rfl (lv_at hl 0 rfl) ?_
    refine lv_iconst (v := (0 : Int32)) hx hb dX6_reckon_109 rfl ?_
    refine lv_iconst (v := (0 : Int32)) hx hb dX6_reckon_110 rfl ?_
    obtain ⟨r1, hc2, hf⟩ := bd1_e hf
    refine r_callVi0 C hw (c_X6_leastFrom (zr := zr) hc2) md_X6_leastFrom [0, 1, 2] rfl rfl q4_125 0 rfl cf_X6.1 ⟨Nat.le_of_ble_eq_true rfl, Nat.le_of_ble_eq_true rfl⟩ ⟨Nat.zero_le _, Nat.zero_le _⟩ hl.1 rfl rfl (Nat.le_of_ble_eq_true rfl) dX6_reckon_111 (fun H locs hw => ?_)
    obtain ⟨rfl, rfl⟩ := so2 hf
    exact r_iret C hw rfl dX6_reckon_114
  · have hf := it_n hf hc3
    refine lv_iconst (v := (0 : Int32)) hx hb dX6_reckon_19 rfl ?_
    refine lv_istore (lv' := [(4, .int (0 : Int32)), (0, .ref (zr 0)), (1, .int x1), (2, .int x2), (3, .int x3)]) hx hb dX6_reckon_20 hl (by decide) rfl (fun ls hl => ?_)
    exact klX6_reckon_22 (zr := zr) (r := r) (or := or) C hr15 fu _ _ _ _ _ _ _ _ hf hw (lv_sub hl [1, 2, 3, 4, 0] rfl)
set_option maxRecDepth 100000 in
set_option maxHeartbeats 4000000 in
theorem klX6_reckon_15 {l : Launch} {g : evG} {p : Program} {e : Env} {s : State} {m : MethodId} {args : Array Value} {below : List Frame} {meth : Method} {c : Code} {A : Nat → Prop} {zr : Nat → Nat} {r : Int32} {or : Gp} (C : ctx g p s m args meth c RX6 cX6_reckon 7 (some .int) A) : ∀ (n : Nat) (Tr : Gp) (x1 : Int32) (x2 : Int32) (x3 : Int32) (H : Heap) (locs : List Loc) (ls : Array Slot), lX6_reckon_15 n Tr x1 x2 x3 = some (r, or) → wl g A s.heap (gcR g zr Tr) H locs → lv_has ls 7 [(0, .ref (zr 0)), (1, .int x1), (2, .int x2), (3, .int x3)] → W p l e (rmK 3 68) s m args below meth c H locs 0 0 (MQ below (Qi g A (gcR g zr or) r) args s 0 0 A) (F0 m 15 ls []) := by
  intro n
  induction n with
  | zero => intro _ _ _ _ _ _ _ hf; exact no_f hf
  | succ n ih => intro _ _ _ _ _ _ _ hf hw hl; exact kX6_reckon_15 (zr := zr) (r := r) (or := or) C (rec15 := lX6_reckon_15 n) ih hf hw hl
set_option maxRecDepth 100000 in
set_option maxHeartbeats 4000000 in
theorem c_X6_reckon {l : Launch} {g : evG} {zr : Nat → Nat} {r : Int32} {or : Gp}  {Tr : Gp} {x1 : Int32} {x2 : Int32} (hf : fX6_reckon Tr x1 x2 = some (r, or)) : CTi l g yX6_reckon (Cond.code yX6_reckon cX6_reckon 7 (some .int)) 3 68 [.ref (zr 0), .int x1, .int x2] (gcR g zr Tr) (gcR g zr or) r := by
  refine ct_i rfl (Nat.le_of_ble_eq_true rfl) ?_
  intro p e s m args below meth c A ls C hw hl
  have C : ctx g p s m args meth c RX6 cX6_reckon 7 (some .int) A := C
  have hl : lv_has ls 7 [(0, .ref (zr 0)), (1, .int x1), (2, .int x2)] := hl
  obtain ⟨hx, hb, hml, hown, hts, -⟩ := id C
  unfold fX6_reckon at hf
  refine lv_aload_n hx hb dX6_reckon_0 rfl (lv_at hl 0 rfl) ?_
  refine r_get C hw 0 rfl cf_X6 2 (by decide) q2_2 (v := .ref (zr 2)) rfl dX6_reckon_1 ?_
  refine lv_iconst (v := (0 : Int32)) hx hb dX6_reckon_4 rfl ?_
  refine r_callSv C hw (c_fill (f := (Tr 2)) (n := 82) (a := zr 2) (v := (0 : Int32)) (by decide)) md_J7_fill_53178 [2] rfl rfl rfl q4_124 ⟨Nat.le_of_ble_eq_true rfl, Nat.le_of_ble_eq_true rfl⟩ ⟨Nat.zero_le _, Nat.zero_le _⟩ hl.1 rfl rfl (Nat.le_of_ble_eq_true rfl) dX6_reckon_5 (fun H locs hw => ?_)
  have hw : wl g A s.heap (gcR g zr (uc Tr 2 (ev_fill (Tr 2) 82 (0 : Int32)))) H locs := wl.eq hw gcR_u2
  refine lv_aload_n hx hb dX6_reckon_8 rfl (lv_at hl 0 rfl) ?_
  refine r_get C hw 0 rfl cf_X6 0 (by decide) q1_239 (v := .int (Tr 0 0)) rfl dX6_reckon_9 ?_
  refine lv_iconst (v := (1 : Int32)) hx hb dX6_reckon_12 rfl ?_
  refine lv_isub hx hb dX6_reckon_13 ?_
  refine lv_istore_n (lv' := [(3, .int ((Tr 0 0) - (1 : Int32))), (0, .ref (zr 0)), (1, .int x1), (2, .int x2)]) hx hb dX6_reckon_14 rfl hl (by decide) rfl (fun ls hl => ?_)
  exact klX6_reckon_15 (zr := zr) (r := r) (or := or) C fu _ _ _ _ _ _ _ hf hw (lv_sub hl [1, 2, 3, 0] rfl)
set_option maxRecDepth 100000 in
set_option maxHeartbeats 4000000 in
theorem c_X6_leastCost {l : Launch} {g : evG} {zr : Nat → Nat} {r : Int32} {or : Gp}  {Tr : Gp} {x1 : Int32} {x2 : Int32} (hf : fX6_leastCost Tr x1 x2 = some (r, or)) : CTi l g yX6_leastCost (Cond.code yX6_leastCost cX6_leastCost 3 (some .int)) 4 94 [.ref (zr 0), .int x1, .int x2] (gcR g zr Tr) (gcR g zr or) r := by
  refine ct_i rfl (Nat.le_of_ble_eq_true rfl) ?_
  intro p e s m args below meth c A ls C hw hl
  have C : ctx g p s m args meth c RX6 cX6_leastCost 3 (some .int) A := C
  have hl : lv_has ls 3 [(0, .ref (zr 0)), (1, .int x1), (2, .int x2)] := hl
  obtain ⟨hx, hb, hml, hown, hts, -⟩ := id C
  unfold fX6_leastCost at hf
  refine lv_aload_n hx hb dX6_leastCost_0 rfl (lv_at hl 0 rfl) ?_
  refine lv_iload_n hx hb dX6_leastCost_1 rfl (lv_at hl 1 rfl) ?_
  refine lv_iload_n hx hb dX6_leastCost_2 rfl (lv_at hl 2 rfl) ?_
  obtain ⟨r1, Tr_2, hc3, hf⟩ := bd2_e hf
  refine r_callViF C hw (c_X6_reckon (zr := zr) hc3) md_X6_reckon [0, 1, 2] rfl rfl rfl rfl q4_120 0 rfl cf_X6.1 ⟨Nat.le_of_ble_eq_true rfl, Nat.le_of_ble_eq_true rfl⟩ ⟨Nat.zero_le _, Nat.zero_le _⟩ hl.1 rfl rfl (Nat.le_of_ble_eq_true rfl) dX6_leastCost_3 (fun H locs hw => ?_)
  refine lv_bipush (v := (64 : Int32)) hx hb dX6_leastCost_6 rfl ?_
  refine lv_idiv hx hb dX6_leastCost_8 (by decide) ?_
  obtain ⟨rfl, rfl⟩ := so2 hf
  exact r_iret C hw rfl dX6_leastCost_9
set_option maxRecDepth 100000 in
set_option maxHeartbeats 4000000 in
theorem c_X6_fewestSlips {l : Launch} {g : evG} {zr : Nat → Nat} {r : Int32} {or : Gp}  {Tr : Gp} {x1 : Int32} {x2 : Int32} (hf : fX6_fewestSlips Tr x1 x2 = some (r, or)) : CTi l g yX6_fewestSlips (Cond.code yX6_fewestSlips cX6_fewestSlips 3 (some .int)) 4 94 [.ref (zr 0), .int x1, .int x2] (gcR g zr Tr) (gcR g zr or) r := by
  refine ct_i rfl (Nat.le_of_ble_eq_true rfl) ?_
  intro p e s m args below meth c A ls C hw hl
  have C : ctx g p s m args meth c RX6 cX6_fewestSlips 3 (some .int) A := C
  have hl : lv_has ls 3 [(0, .ref (zr 0)), (1, .int x1), (2, .int x2)] := hl
  obtain ⟨hx, hb, hml, hown, hts, -⟩ := id C
  unfold fX6_fewestSlips at hf
  refine lv_aload_n hx hb dX6_fewestSlips_0 rfl (lv_at hl 0 rfl) ?_
  refine lv_iload_n hx hb dX6_fewestSlips_1 rfl (lv_at hl 1 rfl) ?_
  refine lv_iload_n hx hb dX6_fewestSlips_2 rfl (lv_at hl 2 rfl) ?_
  obtain ⟨r1, Tr_2, hc3, hf⟩ := bd2_e hf
  refine r_callViF C hw (c_X6_reckon (zr := zr) hc3) md_X6_reckon [0, 1, 2] rfl rfl rfl rfl q4_120 0 rfl cf_X6.1 ⟨Nat.le_of_ble_eq_true rfl, Nat.le_of_ble_eq_true rfl⟩ ⟨Nat.zero_le _, Nat.zero_le _⟩ hl.1 rfl rfl (Nat.le_of_ble_eq_true rfl) dX6_fewestSlips_3 (fun H locs hw => ?_)
  refine lv_bipush (v := (64 : Int32)) hx hb dX6_fewestSlips_6 rfl ?_
  refine lv_irm hx hb dX6_fewestSlips_8 (by decide) ?_
  obtain ⟨rfl, rfl⟩ := so2 hf
  exact r_iret C hw rfl dX6_fewestSlips_9
set_option maxRecDepth 100000 in
set_option maxHeartbeats 4000000 in
theorem kX6_firstSlip_16 {l : Launch} {g : evG} {p : Program} {e : Env} {s : State} {m : MethodId} {args : Array Value} {below : List Frame} {meth : Method} {c : Code} {A : Nat → Prop} {zr : Nat → Nat} {r : Int32} {or : Gp} (C : ctx g p s m args meth c RX6 cX6_firstSlip 7 (some .int) A) {rec16 : Gp → Int32 → Int32 → Int32 → Int32 → Int32 → Int32 → Option (Int32 × Gp)} (hr16 : ∀ (Tr : Gp) (x1 : Int32) (x2 : Int32) (x3 : Int32) (x4 : Int32) (x5 : Int32) (x6 : Int32) (H : Heap) (locs : List Loc) (ls : Array Slot), rec16 Tr x1 x2 x3 x4 x5 x6 = some (r, or) → wl g A s.heap (gcR g zr Tr) H locs → lv_has ls 7 [(0, .ref (zr 0)), (1, .int x1), (2, .int x2), (3, .int x3), (4, .int x4), (5, .int x5), (6, .int x6)] → W p l e (rmK 4 94) s m args below meth c H locs 0 0 (MQ below (Qi g A (gcR g zr or) r) args s 0 0 A) (F0 m 16 ls [])) {Tr : Gp} {x1 : Int32} {x2 : Int32} {x3 : Int32} {x4 : Int32} {x5 : Int32} {x6 : Int32} {H : Heap} {locs : List Loc} {ls : Array Slot} (hf : fX6_firstSlip_16 rec16 Tr x1 x2 x3 x4 x5 x6 = some (r, or)) (hw : wl g A s.heap (gcR g zr Tr) H locs) (hl : lv_has ls 7 [(0, .ref (zr 0)), (1, .int x1), (2, .int x2), (3, .int x3), (4, .int x4), (5, .int x5), (6, .int x6)]) : W p l e (rmK 4 94) s m args below meth c H locs 0 0 (MQ below (Qi g A (gcR g zr or) r) args s 0 0 A) (F0 m 16 ls []) := by
  obtain ⟨hx, hb, hml, hown, hts, -⟩ := id C
  unfold fX6_firstSlip_16 at hf
  refine lv_iload hx hb dX6_firstSlip_16 (lv_at hl 6 rfl) ?_
  refine lv_aload_n hx hb dX6_firstSlip_18 rfl (lv_at hl 0 rfl) ?_
  refine r_get C hw 0 rfl cf_X6 0 (by decide) q1_239 (v := .int (Tr 0 0)) rfl dX6_firstSlip_19 ?_
  refine lv_icmp_ge (tgt := 65) hx hb dX6_firstSlip_22 (by decide) (fun hc6 => ?_) (fun hc6 => ?_)
  · have hf := it_p hf hc6
    refine lv_iload hx hb dX6_firstSlip_65 (lv_at hl 5 rfl) ?_
    obtain ⟨rfl, rfl⟩ := so2 hf
    exact r_iret C hw rfl dX6_firstSlip_67
  · have hf := it_n hf hc6
    refine lv_iload hx hb dX6_firstSlip_25 (lv_at hl 4 rfl) ?_
    refine lv_aload_n hx hb dX6_firstSlip_27 rfl (lv_at hl 0 rfl) ?_
    refine lv_iload hx hb dX6_firstSlip_28 (lv_at hl 6 rfl) ?_
    refine lv_iconst (v := (1 : Int32)) hx hb dX6_firstSlip_30 rfl ?_
    refine lv_isub hx hb dX6_firstSlip_31 ?_
    refine lv_iconst (v := (0 : Int32)) hx hb dX6_firstSlip_32 rfl ?_
    refine lv_iload_n hx hb dX6_firstSlip_33 rfl (lv_at hl 2 rfl) ?_
    obtain ⟨r1, hc2, hf⟩ := bd1_e hf
    refine r_callVi0 C hw (c_X6_costOf (zr := zr) hc2) md_X6_costOf [0, 1, 2] rfl rfl q4_135 0 rfl cf_X6.1 ⟨Nat.le_of_ble_eq_true rfl, Nat.le_of_ble_eq_true rfl⟩ ⟨Nat.zero_le _, Nat.zero_le _⟩ hl.1 rfl rfl (Nat.le_of_ble_eq_true rfl) dX6_firstSlip_34 (fun H locs hw => ?_)
    refine lv_iadd hx hb dX6_firstSlip_37 ?_
    refine lv_istore (lv' := [(4, .int (x4 + r1)), (0, .ref (zr 0)), (1, .int x1), (2, .int x2), (3, .int x3), (5, .int x5), (6, .int x6)]) hx hb dX6_firstSlip_38 hl (by decide) rfl (fun ls hl => ?_)
    refine lv_iload hx hb dX6_firstSlip_40 (lv_at hl 0 rfl) ?_
    refine lv_aload_n hx hb dX6_firstSlip_42 rfl (lv_at hl 1 rfl) ?_
    refine lv_iload hx hb dX6_firstSlip_43 (lv_at hl 6 rfl) ?_
    refine lv_iconst (v := (1 : Int32)) hx hb dX6_firstSlip_45 rfl ?_
    refine lv_iload_n hx hb dX6_firstSlip_46 rfl (lv_at hl 2 rfl) ?_
    obtain ⟨r3, hc4, hf⟩ := bd1_e hf
    refine r_callVi0 C hw (c_X6_slipTo (zr := zr) hc4) md_X6_slipTo [0, 1, 2] rfl rfl q4_130 0 rfl cf_X6.1 ⟨Nat.le_of_ble_eq_true rfl, Nat.le_of_ble_eq_true rfl⟩ ⟨Nat.zero_le _, Nat.zero_le _⟩ hl.1 rfl rfl (Nat.le_of_ble_eq_true rfl) dX6_firstSlip_47 (fun H locs hw => ?_)
    refine lv_iadd hx hb dX6_firstSlip_50 ?_
    refine lv_iload_n hx hb dX6_firstSlip_51 rfl (lv_at hl 4 rfl) ?_
    refine lv_icmp_ne (tgt := 59) hx hb dX6_firstSlip_52 (by decide) (fun hc5 => ?_) (fun hc5 => ?_)
    · have hf := it_n hf hc5
      refine lv_iinc (v := (x6 + (1 : Int32))) (lv' := [(6, .int (x6 + (1 : Int32))), (4, .int (x4 + r1)), (0, .ref (zr 0)), (1, .int x1), (2, .int x2), (3, .int x3), (5, .int x5)]) hx hb dX6_firstSlip_59 hl (k := 6) rfl rfl (by decide) rfl (fun ls hl => ?_)
      refine lv_goto (tgt := 16) hx hb dX6_firstSlip_62 (by decide) ?_
      exact hr16 _ _ _ _ _ _ _ _ _ _ hf hw (lv_sub hl [2, 3, 4, 5, 1, 6, 0] rfl)
    · have hf := it_p hf hc5
      refine lv_iload hx hb dX6_firstSlip_55 (lv_at hl 6 rfl) ?_
      refine lv_istore (lv' := [(5, .int x6), (4, .int (x4 + r1)), (0, .ref (zr 0)), (1, .int x1), (2, .int x2), (3, .int x3), (6, .int x6)]) hx hb dX6_firstSlip_57 hl (by decide) rfl (fun ls hl => ?_)
      refine lv_iinc (v := (x6 + (1 : Int32))) (lv' := [(6, .int (x6 + (1 : Int32))), (5, .int x6), (4, .int (x4 + r1)), (0, .ref (zr 0)), (1, .int x1), (2, .int x2), (3, .int x3)]) hx hb dX6_firstSlip_59 hl (k := 6) rfl rfl (by decide) rfl (fun ls hl => ?_)
      refine lv_goto (tgt := 16) hx hb dX6_firstSlip_62 (by decide) ?_
      exact hr16 _ _ _ _ _ _ _ _ _ _ hf hw (lv_sub hl [3, 4, 5, 6, 2, 1, 0] rfl)
set_option maxRecDepth 100000 in
set_option maxHeartbeats 4000000 in
theorem klX6_firstSlip_16 {l : Launch} {g : evG} {p : Program} {e : Env} {s : State} {m : MethodId} {args : Array Value} {below : List Frame} {meth : Method} {c : Code} {A : Nat → Prop} {zr : Nat → Nat} {r : Int32} {or : Gp} (C : ctx g p s m args meth c RX6 cX6_firstSlip 7 (some .int) A) : ∀ (n : Nat) (Tr : Gp) (x1 : Int32) (x2 : Int32) (x3 : Int32) (x4 : Int32) (x5 : Int32) (x6 : Int32) (H : Heap) (locs : List Loc) (ls : Array Slot), lX6_firstSlip_16 n Tr x1 x2 x3 x4 x5 x6 = some (r, or) → wl g A s.heap (gcR g zr Tr) H locs → lv_has ls 7 [(0, .ref (zr 0)), (1, .int x1), (2, .int x2), (3, .int x3), (4, .int x4), (5, .int x5), (6, .int x6)] → W p l e (rmK 4 94) s m args below meth c H locs 0 0 (MQ below (Qi g A (gcR g zr or) r) args s 0 0 A) (F0 m 16 ls []) := by
  intro n
  induction n with
  | zero => intro _ _ _ _ _ _ _ _ _ _ hf; exact no_f hf
  | succ n ih => intro _ _ _ _ _ _ _ _ _ _ hf hw hl; exact kX6_firstSlip_16 (zr := zr) (r := r) (or := or) C (rec16 := lX6_firstSlip_16 n) ih hf hw hl
set_option maxRecDepth 100000 in
set_option maxHeartbeats 4000000 in
theorem c_X6_firstSlip {l : Launch} {g : evG} {zr : Nat → Nat} {r : Int32} {or : Gp}  {Tr : Gp} {x1 : Int32} {x2 : Int32} (hf : fX6_firstSlip Tr x1 x2 = some (r, or)) : CTi l g yX6_firstSlip (Cond.code yX6_firstSlip cX6_firstSlip 7 (some .int)) 4 94 [.ref (zr 0), .int x1, .int x2] (gcR g zr Tr) (gcR g zr or) r := by
  refine ct_i rfl (Nat.le_of_ble_eq_true rfl) ?_
  intro p e s m args below meth c A ls C hw hl
  have C : ctx g p s m args meth c RX6 cX6_firstSlip 7 (some .int) A := C
  have hl : lv_has ls 7 [(0, .ref (zr 0)), (1, .int x1), (2, .int x2)] := hl
  obtain ⟨hx, hb, hml, hown, hts, -⟩ := id C
  unfold fX6_firstSlip at hf
  refine lv_aload_n hx hb dX6_firstSlip_0 rfl (lv_at hl 0 rfl) ?_
  refine lv_iload_n hx hb dX6_firstSlip_1 rfl (lv_at hl 1 rfl) ?_
  refine lv_iload_n hx hb dX6_firstSlip_2 rfl (lv_at hl 2 rfl) ?_
  obtain ⟨r1, Tr_2, hc3, hf⟩ := bd2_e hf
  refine r_callViF C hw (c_X6_reckon (zr := zr) hc3) md_X6_reckon [0, 1, 2] rfl rfl rfl rfl q4_120 0 rfl cf_X6.1 ⟨Nat.le_of_ble_eq_true rfl, Nat.le_of_ble_eq_true rfl⟩ ⟨Nat.zero_le _, Nat.zero_le _⟩ hl.1 rfl rfl (Nat.le_of_ble_eq_true rfl) dX6_firstSlip_3 (fun H locs hw => ?_)
  refine lv_istore_n (lv' := [(3, .int r1), (0, .ref (zr 0)), (1, .int x1), (2, .int x2)]) hx hb dX6_firstSlip_6 rfl hl (by decide) rfl (fun ls hl => ?_)
  refine lv_iconst (v := (0 : Int32)) hx hb dX6_firstSlip_7 rfl ?_
  refine lv_istore (lv' := [(4, .int (0 : Int32)), (3, .int r1), (0, .ref (zr 0)), (1, .int x1), (2, .int x2)]) hx hb dX6_firstSlip_8 hl (by decide) rfl (fun ls hl => ?_)
  refine lv_iconst (v := (-1 : Int32)) hx hb dX6_firstSlip_10 rfl ?_
  refine lv_istore (lv' := [(5, .int (-1 : Int32)), (4, .int (0 : Int32)), (3, .int r1), (0, .ref (zr 0)), (1, .int x1), (2, .int x2)]) hx hb dX6_firstSlip_11 hl (by decide) rfl (fun ls hl => ?_)
  refine lv_iconst (v := (1 : Int32)) hx hb dX6_firstSlip_13 rfl ?_
  refine lv_istore (lv' := [(6, .int (1 : Int32)), (5, .int (-1 : Int32)), (4, .int (0 : Int32)), (3, .int r1), (0, .ref (zr 0)), (1, .int x1), (2, .int x2)]) hx hb dX6_firstSlip_14 hl (by decide) rfl (fun ls hl => ?_)
  exact klX6_firstSlip_16 (zr := zr) (r := r) (or := or) C fu _ _ _ _ _ _ _ _ _ _ hf hw (lv_sub hl [4, 5, 6, 3, 2, 1, 0] rfl)
