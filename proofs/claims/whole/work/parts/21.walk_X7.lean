set_option maxRecDepth 100000 in
set_option maxHeartbeats 4000000 in
theorem c_X7_signAt {l : Launch} {g : evG} {zx : Nat → Nat} {r : Int32}  {Tx : Gp} {x1 : Int32} (hf : fX7_signAt Tx x1 = some (r)) : CTi l g yX7_signAt (Cond.code yX7_signAt cX7_signAt 2 (some .int)) 0 0 [.ref (zx 0), .int x1] (gcX g zx Tx) (gcX g zx Tx) r := by
  refine ct_i rfl (Nat.le_of_ble_eq_true rfl) ?_
  intro p e s m args below meth c A ls C hw hl
  have C : ctx g p s m args meth c RX7 cX7_signAt 2 (some .int) A := C
  have hl : lv_has ls 2 [(0, .ref (zx 0)), (1, .int x1)] := hl
  obtain ⟨hx, hb, hml, hown, hts, -⟩ := id C
  unfold fX7_signAt at hf
  refine lv_iload_n hx hb dX7_signAt_0 rfl (lv_at hl 1 rfl) ?_
  refine lv_if_lt (tgt := 28) hx hb dX7_signAt_1 (by decide) (fun hc4 => ?_) (fun hc4 => ?_)
  · have hf := it_p hf hc4
    refine lv_iconst (v := (-1 : Int32)) hx hb dX7_signAt_28 rfl ?_
    obtain rfl := so1 hf
    exact r_iret C hw rfl dX7_signAt_29
  · have hf := it_n hf hc4
    refine lv_iload_n hx hb dX7_signAt_4 rfl (lv_at hl 1 rfl) ?_
    refine lv_aload_n hx hb dX7_signAt_5 rfl (lv_at hl 0 rfl) ?_
    refine r_get C hw 0 rfl cf_X7 0 (by decide) q1_90 (v := .int (Tx 0 0)) rfl dX7_signAt_6 ?_
    refine lv_icmp_ge (tgt := 28) hx hb dX7_signAt_9 (by decide) (fun hc3 => ?_) (fun hc3 => ?_)
    · have hf := it_p hf hc3
      refine lv_iconst (v := (-1 : Int32)) hx hb dX7_signAt_28 rfl ?_
      obtain rfl := so1 hf
      exact r_iret C hw rfl dX7_signAt_29
    · have hf := it_n hf hc3
      refine lv_iload_n hx hb dX7_signAt_12 rfl (lv_at hl 1 rfl) ?_
      refine lv_sipush (v := (200 : Int32)) hx hb dX7_signAt_13 rfl ?_
      refine lv_icmp_ge (tgt := 28) hx hb dX7_signAt_16 (by decide) (fun hc2 => ?_) (fun hc2 => ?_)
      · have hf := it_p hf hc2
        refine lv_iconst (v := (-1 : Int32)) hx hb dX7_signAt_28 rfl ?_
        obtain rfl := so1 hf
        exact r_iret C hw rfl dX7_signAt_29
      · have hf := it_n hf hc2
        refine lv_aload_n hx hb dX7_signAt_19 rfl (lv_at hl 0 rfl) ?_
        refine r_get C hw 0 rfl cf_X7 1 (by decide) q1_93 (v := .ref (zx 1)) rfl dX7_signAt_20 ?_
        refine lv_iload_n hx hb dX7_signAt_23 rfl (lv_at hl 1 rfl) ?_
        obtain ⟨hi1, hf⟩ := it_g hf
        refine r_iald C hw 1 (f := (Tx 1)) rfl hi1 dX7_signAt_24 ?_
        refine lv_goto (tgt := 29) hx hb dX7_signAt_25 (by decide) ?_
        obtain rfl := so1 hf
        exact r_iret C hw rfl dX7_signAt_29
set_option maxRecDepth 100000 in
set_option maxHeartbeats 4000000 in
theorem kX7_append_3 {l : Launch} {g : evG} {p : Program} {e : Env} {s : State} {m : MethodId} {args : Array Value} {below : List Frame} {meth : Method} {c : Code} {A : Nat → Prop} {zx : Nat → Nat} {ox : Gp} (C : ctx g p s m args meth c RX7 cX7_append 5 none A) {rec3 : Gp → Int64 → Int32 → Int32 → Option (Gp)} (hr3 : ∀ (Tx : Gp) (x1 : Int64) (x3 : Int32) (x4 : Int32) (H : Heap) (locs : List Loc) (ls : Array Slot), rec3 Tx x1 x3 x4 = some (ox) → wl g A s.heap (gcX g zx Tx) H locs → lv_has ls 5 [(0, .ref (zx 0)), (1, .long x1), (3, .int x3), (4, .int x4)] → W p l e (rmK 1 22) s m args below meth c H locs 0 0 (MQ below (Qv g A (gcX g zx ox)) args s 0 0 A) (F0 m 3 ls [])) {Tx : Gp} {x1 : Int64} {x3 : Int32} {x4 : Int32} {H : Heap} {locs : List Loc} {ls : Array Slot} (hf : fX7_append_3 rec3 Tx x1 x3 x4 = some (ox)) (hw : wl g A s.heap (gcX g zx Tx) H locs) (hl : lv_has ls 5 [(0, .ref (zx 0)), (1, .long x1), (3, .int x3), (4, .int x4)]) : W p l e (rmK 1 22) s m args below meth c H locs 0 0 (MQ below (Qv g A (gcX g zx ox)) args s 0 0 A) (F0 m 3 ls []) := by
  obtain ⟨hx, hb, hml, hown, hts, -⟩ := id C
  unfold fX7_append_3 at hf
  refine lv_iload hx hb dX7_append_3 (lv_at hl 3 rfl) ?_
  refine lv_iload_n hx hb dX7_append_5 rfl (lv_at hl 2 rfl) ?_
  refine lv_icmp_ge (tgt := 60) hx hb dX7_append_6 (by decide) (fun hc5 => ?_) (fun hc5 => ?_)
  · have hf := it_p hf hc5
    obtain rfl := so1 hf
    exact r_vret C hw dX7_append_60
  · have hf := it_n hf hc5
    refine lv_aload_n hx hb dX7_append_9 rfl (lv_at hl 0 rfl) ?_
    refine r_get C hw 0 rfl cf_X7 0 (by decide) q1_90 (v := .int (Tx 0 0)) rfl dX7_append_10 ?_
    refine lv_iconst (v := (0 : Int32)) hx hb dX7_append_13 rfl ?_
    refine lv_sipush (v := (199 : Int32)) hx hb dX7_append_14 rfl ?_
    obtain ⟨r1, hc2, hf⟩ := bd1_e hf
    refine r_callNi0 C hw (c_X10_within hc2) md_X10_within [] rfl rfl nq_28 ⟨Nat.le_of_ble_eq_true rfl, Nat.le_of_ble_eq_true rfl⟩ ⟨Nat.zero_le _, Nat.zero_le _⟩ hl.1 rfl rfl (Nat.le_of_ble_eq_true rfl) dX7_append_17 (fun H locs hw => ?_)
    refine lv_if_eq (tgt := 60) hx hb dX7_append_20 (by decide) (fun hc4 => ?_) (fun hc4 => ?_)
    · have hf := it_p hf hc4
      obtain rfl := so1 hf
      exact r_vret C hw dX7_append_60
    · have hf := it_n hf hc4
      refine lv_aload_n hx hb dX7_append_23 rfl (lv_at hl 0 rfl) ?_
      refine r_get C hw 0 rfl cf_X7 1 (by decide) q1_93 (v := .ref (zx 1)) rfl dX7_append_24 ?_
      refine lv_aload_n hx hb dX7_append_27 rfl (lv_at hl 0 rfl) ?_
      refine r_get C hw 0 rfl cf_X7 0 (by decide) q1_90 (v := .int (Tx 0 0)) rfl dX7_append_28 ?_
      refine lv_lload_n hx hb dX7_append_31 rfl (lv_at hl 1 rfl) ?_
      refine lv_bipush (v := (8 : Int32)) hx hb dX7_append_32 rfl ?_
      refine lv_iload hx hb dX7_append_34 (lv_at hl 3 rfl) ?_
      refine lv_imul hx hb dX7_append_36 ?_
      refine lv_lshr hx hb dX7_append_37 rfl ?_
      refine lv_ldc2 (v := (255 : Int64)) hx hb hown (hts _ q2_59) dX7_append_38 ?_
      refine lv_land hx hb dX7_append_41 ?_
      refine lv_l2i hx hb dX7_append_42 rfl ?_
      obtain ⟨hi3, hf⟩ := it_g hf
      refine r_iast C hw 1 (f := (Tx 1)) rfl hi3 (ws' := (gcX g zx (u2 Tx 1 (Tx 0 0).toNatClampNeg ((x1 >>> (((8 : Int32) * x4).toInt64 &&& 63)) &&& (255 : Int64)).toInt32))) gcX_a1 dX7_append_43 (fun H locs hw => ?_)
      refine lv_aload_n hx hb dX7_append_44 rfl (lv_at hl 0 rfl) ?_
      refine lv_dup hx hb dX7_append_45 rfl ?_
      refine r_get C hw 0 rfl cf_X7 0 (by decide) q1_90 (v := .int (Tx 0 0)) rfl dX7_append_46 ?_
      refine lv_iconst (v := (1 : Int32)) hx hb dX7_append_49 rfl ?_
      refine lv_iadd hx hb dX7_append_50 ?_
      refine r_puti C hw 0 rfl cf_X7 0 (by decide) q1_90 rfl rfl (Nat.le_of_ble_eq_true rfl) (ws' := (gcX g zx (u2 (u2 Tx 1 (Tx 0 0).toNatClampNeg ((x1 >>> (((8 : Int32) * x4).toInt64 &&& 63)) &&& (255 : Int64)).toInt32) 0 0 ((Tx 0 0) + (1 : Int32))))) gcX_p0 dX7_append_51 (fun H locs hw => ?_)
      refine lv_iinc (v := (x4 + (1 : Int32))) (lv' := [(4, .int (x4 + (1 : Int32))), (0, .ref (zx 0)), (1, .long x1), (3, .int x3)]) hx hb dX7_append_54 hl (k := 3) rfl rfl (by decide) rfl (fun ls hl => ?_)
      refine lv_goto (tgt := 3) hx hb dX7_append_57 (by decide) ?_
      exact hr3 _ _ _ _ _ _ _ hf hw (lv_sub hl [1, 2, 3, 0] rfl)
set_option maxRecDepth 100000 in
set_option maxHeartbeats 4000000 in
theorem klX7_append_3 {l : Launch} {g : evG} {p : Program} {e : Env} {s : State} {m : MethodId} {args : Array Value} {below : List Frame} {meth : Method} {c : Code} {A : Nat → Prop} {zx : Nat → Nat} {ox : Gp} (C : ctx g p s m args meth c RX7 cX7_append 5 none A) : ∀ (n : Nat) (Tx : Gp) (x1 : Int64) (x3 : Int32) (x4 : Int32) (H : Heap) (locs : List Loc) (ls : Array Slot), lX7_append_3 n Tx x1 x3 x4 = some (ox) → wl g A s.heap (gcX g zx Tx) H locs → lv_has ls 5 [(0, .ref (zx 0)), (1, .long x1), (3, .int x3), (4, .int x4)] → W p l e (rmK 1 22) s m args below meth c H locs 0 0 (MQ below (Qv g A (gcX g zx ox)) args s 0 0 A) (F0 m 3 ls []) := by
  intro n
  induction n with
  | zero => intro _ _ _ _ _ _ _ hf; exact no_f hf
  | succ n ih => intro _ _ _ _ _ _ _ hf hw hl; exact kX7_append_3 (zx := zx) (ox := ox) C (rec3 := lX7_append_3 n) ih hf hw hl
set_option maxRecDepth 100000 in
set_option maxHeartbeats 4000000 in
theorem c_X7_append {l : Launch} {g : evG} {zx : Nat → Nat} {ox : Gp}  {Tx : Gp} {x1 : Int64} {x3 : Int32} (hf : fX7_append Tx x1 x3 = some (ox)) : CTv l g yX7_append (Cond.code yX7_append cX7_append 5 none) 1 22 [.ref (zx 0), .long x1, .int x3] (gcX g zx Tx) (gcX g zx ox) := by
  refine ct_v rfl (Nat.le_of_ble_eq_true rfl) ?_
  intro p e s m args below meth c A ls C hw hl
  have C : ctx g p s m args meth c RX7 cX7_append 5 none A := C
  have hl : lv_has ls 5 [(0, .ref (zx 0)), (1, .long x1), (3, .int x3)] := hl
  obtain ⟨hx, hb, hml, hown, hts, -⟩ := id C
  unfold fX7_append at hf
  refine lv_iconst (v := (0 : Int32)) hx hb dX7_append_0 rfl ?_
  refine lv_istore (lv' := [(4, .int (0 : Int32)), (0, .ref (zx 0)), (1, .long x1), (3, .int x3)]) hx hb dX7_append_1 hl (by decide) rfl (fun ls hl => ?_)
  exact klX7_append_3 (zx := zx) (ox := ox) C fu _ _ _ _ _ _ _ hf hw (lv_sub hl [1, 2, 3, 0] rfl)
