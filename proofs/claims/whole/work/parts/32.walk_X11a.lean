set_option maxRecDepth 100000 in
set_option maxHeartbeats 4000000 in
theorem kX11_begin_2 {l : Launch} {g : evG} {p : Program} {e : Env} {s : State} {m : MethodId} {args : Array Value} {below : List Frame} {meth : Method} {c : Code} {A : Nat → Prop} {zm : Nat → Nat} {om : Gp} (C : ctx g p s m args meth c RX11 cX11_begin 2 none A) {rec2 : Gp → Int32 → Option (Gp)} (hr2 : ∀ (Tm : Gp) (x1 : Int32) (H : Heap) (locs : List Loc) (ls : Array Slot), rec2 Tm x1 = some (om) → wl g A s.heap (gcM g zm Tm) H locs → lv_has ls 2 [(0, .ref (zm 0)), (1, .int x1)] → W p l e (rmK 0 0) s m args below meth c H locs 0 0 (MQ below (Qv g A (gcM g zm om)) args s 0 0 A) (F0 m 2 ls [])) {Tm : Gp} {x1 : Int32} {H : Heap} {locs : List Loc} {ls : Array Slot} (hf : fX11_begin_2 rec2 Tm x1 = some (om)) (hw : wl g A s.heap (gcM g zm Tm) H locs) (hl : lv_has ls 2 [(0, .ref (zm 0)), (1, .int x1)]) : W p l e (rmK 0 0) s m args below meth c H locs 0 0 (MQ below (Qv g A (gcM g zm om)) args s 0 0 A) (F0 m 2 ls []) := by
  obtain ⟨hx, hb, hml, hown, hts, -⟩ := id C
  unfold fX11_begin_2 at hf
  refine lv_iload_n hx hb dX11_begin_2 rfl (lv_at hl 1 rfl) ?_
  refine lv_bipush (v := (87 : Int32)) hx hb dX11_begin_3 rfl ?_
  refine lv_icmp_ge (tgt := 31) hx hb dX11_begin_5 (by decide) (fun hc4 => ?_) (fun hc4 => ?_)
  · have hf := it_p hf hc4
    obtain rfl := so1 hf
    exact r_vret C hw dX11_begin_31
  · have hf := it_n hf hc4
    refine lv_aload_n hx hb dX11_begin_8 rfl (lv_at hl 0 rfl) ?_
    refine r_get C hw 0 rfl cf_X11 0 (by decide) q4_173 (v := .ref (zm 1)) rfl dX11_begin_9 ?_
    refine lv_iload_n hx hb dX11_begin_12 rfl (lv_at hl 1 rfl) ?_
    refine lv_iload_n hx hb dX11_begin_13 rfl (lv_at hl 1 rfl) ?_
    refine lv_bipush (v := (39 : Int32)) hx hb dX11_begin_14 rfl ?_
    refine lv_icmp_ge (tgt := 23) hx hb dX11_begin_16 (by decide) (fun hc3 => ?_) (fun hc3 => ?_)
    · have hf := it_p hf hc3
      refine lv_iconst (v := (-1 : Int32)) hx hb dX11_begin_23 rfl ?_
      obtain ⟨hi1, hf⟩ := it_g hf
      refine r_iast C hw 1 (f := (Tm 1)) rfl hi1 (ws' := (gcM g zm (u2 Tm 1 x1.toNatClampNeg (-1 : Int32)))) gcM_a1 dX11_begin_24 (fun H locs hw => ?_)
      refine lv_iinc (v := (x1 + (1 : Int32))) (lv' := [(1, .int (x1 + (1 : Int32))), (0, .ref (zm 0))]) hx hb dX11_begin_25 hl (k := 1) rfl rfl (by decide) rfl (fun ls hl => ?_)
      refine lv_goto (tgt := 2) hx hb dX11_begin_28 (by decide) ?_
      exact hr2 _ _ _ _ _ hf hw (lv_sub hl [1, 0] rfl)
    · have hf := it_n hf hc3
      refine lv_iconst (v := (0 : Int32)) hx hb dX11_begin_19 rfl ?_
      refine lv_goto (tgt := 24) hx hb dX11_begin_20 (by decide) ?_
      obtain ⟨hi2, hf⟩ := it_g hf
      refine r_iast C hw 1 (f := (Tm 1)) rfl hi2 (ws' := (gcM g zm (u2 Tm 1 x1.toNatClampNeg (0 : Int32)))) gcM_a1 dX11_begin_24 (fun H locs hw => ?_)
      refine lv_iinc (v := (x1 + (1 : Int32))) (lv' := [(1, .int (x1 + (1 : Int32))), (0, .ref (zm 0))]) hx hb dX11_begin_25 hl (k := 1) rfl rfl (by decide) rfl (fun ls hl => ?_)
      refine lv_goto (tgt := 2) hx hb dX11_begin_28 (by decide) ?_
      exact hr2 _ _ _ _ _ hf hw (lv_sub hl [1, 0] rfl)
set_option maxRecDepth 100000 in
set_option maxHeartbeats 4000000 in
theorem klX11_begin_2 {l : Launch} {g : evG} {p : Program} {e : Env} {s : State} {m : MethodId} {args : Array Value} {below : List Frame} {meth : Method} {c : Code} {A : Nat → Prop} {zm : Nat → Nat} {om : Gp} (C : ctx g p s m args meth c RX11 cX11_begin 2 none A) : ∀ (n : Nat) (Tm : Gp) (x1 : Int32) (H : Heap) (locs : List Loc) (ls : Array Slot), lX11_begin_2 n Tm x1 = some (om) → wl g A s.heap (gcM g zm Tm) H locs → lv_has ls 2 [(0, .ref (zm 0)), (1, .int x1)] → W p l e (rmK 0 0) s m args below meth c H locs 0 0 (MQ below (Qv g A (gcM g zm om)) args s 0 0 A) (F0 m 2 ls []) := by
  intro n
  induction n with
  | zero => intro _ _ _ _ _ hf; exact no_f hf
  | succ n ih => intro _ _ _ _ _ hf hw hl; exact kX11_begin_2 (zm := zm) (om := om) C (rec2 := lX11_begin_2 n) ih hf hw hl
set_option maxRecDepth 100000 in
set_option maxHeartbeats 4000000 in
theorem c_X11_begin {l : Launch} {g : evG} {zm : Nat → Nat} {om : Gp}  {Tm : Gp} (hf : fX11_begin Tm = some (om)) : CTv l g yX11_begin (Cond.code yX11_begin cX11_begin 2 none) 0 0 [.ref (zm 0)] (gcM g zm Tm) (gcM g zm om) := by
  refine ct_v rfl (Nat.le_of_ble_eq_true rfl) ?_
  intro p e s m args below meth c A ls C hw hl
  have C : ctx g p s m args meth c RX11 cX11_begin 2 none A := C
  have hl : lv_has ls 2 [(0, .ref (zm 0))] := hl
  obtain ⟨hx, hb, hml, hown, hts, -⟩ := id C
  unfold fX11_begin at hf
  refine lv_iconst (v := (0 : Int32)) hx hb dX11_begin_0 rfl ?_
  refine lv_istore_n (lv' := [(1, .int (0 : Int32)), (0, .ref (zm 0))]) hx hb dX11_begin_1 rfl hl (by decide) rfl (fun ls hl => ?_)
  exact klX11_begin_2 (zm := zm) (om := om) C fu _ _ _ _ _ hf hw (lv_sub hl [1, 0] rfl)
set_option maxRecDepth 100000 in
set_option maxHeartbeats 4000000 in
theorem c_X11_in {l : Launch} {g : evG}  {r : Int32}  {x0 : Int64} {x2 : Int64} {x4 : Int64} (hf : fX11_in x0 x2 x4 = some (r)) : CTi l g yX11_in (Cond.code yX11_in cX11_in 6 (some .boolean)) 0 0 [.long x0, .long x2, .long x4] ([] : va_W) ([] : va_W) r := by
  refine ct_i rfl (Nat.le_of_ble_eq_true rfl) ?_
  intro p e s m args below meth c A ls C hw hl
  have C : ctx g p s m args meth c RX11 cX11_in 6 (some .boolean) A := C
  have hl : lv_has ls 6 [(0, .long x0), (2, .long x2), (4, .long x4)] := hl
  obtain ⟨hx, hb, hml, hown, hts, -⟩ := id C
  unfold fX11_in at hf
  refine lv_lload_n hx hb dX11_in_0 rfl (lv_at hl 0 rfl) ?_
  refine lv_lload_n hx hb dX11_in_1 rfl (lv_at hl 1 rfl) ?_
  refine W.lcmp hx hb dX11_in_2 ?_
  refine lv_if_lt (tgt := 17) hx hb dX11_in_3 (by decide) (fun hc2 => ?_) (fun hc2 => ?_)
  · have hf := it_p hf hc2
    refine lv_iconst (v := (0 : Int32)) hx hb dX11_in_17 rfl ?_
    obtain rfl := so1 hf
    exact r_zret C hw rfl rfl dX11_in_18
  · have hf := it_n hf hc2
    refine lv_lload_n hx hb dX11_in_6 rfl (lv_at hl 0 rfl) ?_
    refine lv_lload hx hb dX11_in_7 (lv_at hl 2 rfl) ?_
    refine W.lcmp hx hb dX11_in_9 ?_
    refine lv_if_gt (tgt := 17) hx hb dX11_in_10 (by decide) (fun hc1 => ?_) (fun hc1 => ?_)
    · have hf := it_p hf hc1
      refine lv_iconst (v := (0 : Int32)) hx hb dX11_in_17 rfl ?_
      obtain rfl := so1 hf
      exact r_zret C hw rfl rfl dX11_in_18
    · have hf := it_n hf hc1
      refine lv_iconst (v := (1 : Int32)) hx hb dX11_in_13 rfl ?_
      refine lv_goto (tgt := 18) hx hb dX11_in_14 (by decide) ?_
      obtain rfl := so1 hf
      exact r_zret C hw rfl rfl dX11_in_18
set_option maxRecDepth 100000 in
set_option maxHeartbeats 4000000 in
theorem kX11_write_33 {l : Launch} {g : evG} {p : Program} {e : Env} {s : State} {m : MethodId} {args : Array Value} {below : List Frame} {meth : Method} {c : Code} {A : Nat → Prop} {zm : Nat → Nat} {r : Int32} {om : Gp} (C : ctx g p s m args meth c RX11 cX11_write 5 (some .int) A) {rec33 : Gp → Int64 → Int32 → Int32 → Option (Int32 × Gp)} (hr33 : ∀ (Tm : Gp) (x1 : Int64) (x3 : Int32) (x4 : Int32) (H : Heap) (locs : List Loc) (ls : Array Slot), rec33 Tm x1 x3 x4 = some (r, om) → wl g A s.heap (gcM g zm Tm) H locs → lv_has ls 5 [(0, .ref (zm 0)), (1, .long x1), (3, .int x3), (4, .int x4)] → W p l e (rmK 1 25) s m args below meth c H locs 0 0 (MQ below (Qi g A (gcM g zm om) r) args s 0 0 A) (F0 m 33 ls [])) {Tm : Gp} {x1 : Int64} {x3 : Int32} {x4 : Int32} {H : Heap} {locs : List Loc} {ls : Array Slot} (hf : fX11_write_33 rec33 Tm x1 x3 x4 = some (r, om)) (hw : wl g A s.heap (gcM g zm Tm) H locs) (hl : lv_has ls 5 [(0, .ref (zm 0)), (1, .long x1), (3, .int x3), (4, .int x4)]) : W p l e (rmK 1 25) s m args below meth c H locs 0 0 (MQ below (Qi g A (gcM g zm om) r) args s 0 0 A) (F0 m 33 ls []) := by
  obtain ⟨hx, hb, hml, hown, hts, -⟩ := id C
  unfold fX11_write_33 at hf
  refine lv_iload hx hb dX11_write_33 (lv_at hl 3 rfl) ?_
  refine lv_iload_n hx hb dX11_write_35 rfl (lv_at hl 2 rfl) ?_
  refine lv_icmp_ge (tgt := 76) hx hb dX11_write_36 (by decide) (fun hc2 => ?_) (fun hc2 => ?_)
  · have hf := it_p hf hc2
    refine lv_aload_n hx hb dX11_write_76 rfl (lv_at hl 0 rfl) ?_
    refine r_get C hw 0 rfl cf_X11 3 (by decide) q4_176 (v := .int (Tm 0 3)) rfl dX11_write_77 ?_
    obtain ⟨rfl, rfl⟩ := so2 hf
    exact r_iret C hw rfl dX11_write_80
  · have hf := it_n hf hc2
    refine lv_aload_n hx hb dX11_write_39 rfl (lv_at hl 0 rfl) ?_
    refine r_get C hw 0 rfl cf_X11 2 (by decide) q4_175 (v := .ref (zm 3)) rfl dX11_write_40 ?_
    refine lv_aload_n hx hb dX11_write_43 rfl (lv_at hl 0 rfl) ?_
    refine r_get C hw 0 rfl cf_X11 3 (by decide) q4_176 (v := .int (Tm 0 3)) rfl dX11_write_44 ?_
    refine lv_lload_n hx hb dX11_write_47 rfl (lv_at hl 1 rfl) ?_
    refine lv_bipush (v := (8 : Int32)) hx hb dX11_write_48 rfl ?_
    refine lv_iload hx hb dX11_write_50 (lv_at hl 3 rfl) ?_
    refine lv_imul hx hb dX11_write_52 ?_
    refine lv_lshr hx hb dX11_write_53 rfl ?_
    refine lv_ldc2 (v := (255 : Int64)) hx hb hown (hts _ q5_35) dX11_write_54 ?_
    refine lv_land hx hb dX11_write_57 ?_
    refine lv_l2i hx hb dX11_write_58 rfl ?_
    obtain ⟨hi1, hf⟩ := it_g hf
    refine r_iast C hw 3 (f := (Tm 3)) rfl hi1 (ws' := (gcM g zm (u2 Tm 3 (Tm 0 3).toNatClampNeg ((x1 >>> (((8 : Int32) * x4).toInt64 &&& 63)) &&& (255 : Int64)).toInt32))) gcM_a3 dX11_write_59 (fun H locs hw => ?_)
    refine lv_aload_n hx hb dX11_write_60 rfl (lv_at hl 0 rfl) ?_
    refine lv_dup hx hb dX11_write_61 rfl ?_
    refine r_get C hw 0 rfl cf_X11 3 (by decide) q4_176 (v := .int (Tm 0 3)) rfl dX11_write_62 ?_
    refine lv_iconst (v := (1 : Int32)) hx hb dX11_write_65 rfl ?_
    refine lv_iadd hx hb dX11_write_66 ?_
    refine r_puti C hw 0 rfl cf_X11 3 (by decide) q4_176 rfl rfl (Nat.le_of_ble_eq_true rfl) (ws' := (gcM g zm (u2 (u2 Tm 3 (Tm 0 3).toNatClampNeg ((x1 >>> (((8 : Int32) * x4).toInt64 &&& 63)) &&& (255 : Int64)).toInt32) 0 3 ((Tm 0 3) + (1 : Int32))))) gcM_p3 dX11_write_67 (fun H locs hw => ?_)
    refine lv_iinc (v := (x4 + (1 : Int32))) (lv' := [(4, .int (x4 + (1 : Int32))), (0, .ref (zm 0)), (1, .long x1), (3, .int x3)]) hx hb dX11_write_70 hl (k := 3) rfl rfl (by decide) rfl (fun ls hl => ?_)
    refine lv_goto (tgt := 33) hx hb dX11_write_73 (by decide) ?_
    exact hr33 _ _ _ _ _ _ _ hf hw (lv_sub hl [1, 2, 3, 0] rfl)
set_option maxRecDepth 100000 in
set_option maxHeartbeats 4000000 in
theorem klX11_write_33 {l : Launch} {g : evG} {p : Program} {e : Env} {s : State} {m : MethodId} {args : Array Value} {below : List Frame} {meth : Method} {c : Code} {A : Nat → Prop} {zm : Nat → Nat} {r : Int32} {om : Gp} (C : ctx g p s m args meth c RX11 cX11_write 5 (some .int) A) : ∀ (n : Nat) (Tm : Gp) (x1 : Int64) (x3 : Int32) (x4 : Int32) (H : Heap) (locs : List Loc) (ls : Array Slot), lX11_write_33 n Tm x1 x3 x4 = some (r, om) → wl g A s.heap (gcM g zm Tm) H locs → lv_has ls 5 [(0, .ref (zm 0)), (1, .long x1), (3, .int x3), (4, .int x4)] → W p l e (rmK 1 25) s m args below meth c H locs 0 0 (MQ below (Qi g A (gcM g zm om) r) args s 0 0 A) (F0 m 33 ls []) := by
  intro n
  induction n with
  | zero => intro _ _ _ _ _ _ _ hf; exact no_f hf
  | succ n ih => intro _ _ _ _ _ _ _ hf hw hl; exact kX11_write_33 (zm := zm) (r := r) (om := om) C (rec33 := lX11_write_33 n) ih hf hw hl
set_option maxRecDepth 100000 in
set_option maxHeartbeats 4000000 in
theorem c_X11_write {l : Launch} {g : evG} {zm : Nat → Nat} {r : Int32} {om : Gp}  {Tm : Gp} {x1 : Int64} {x3 : Int32} (hf : fX11_write Tm x1 x3 = some (r, om)) : CTi l g yX11_write (Cond.code yX11_write cX11_write 5 (some .int)) 1 25 [.ref (zm 0), .long x1, .int x3] (gcM g zm Tm) (gcM g zm om) r := by
  refine ct_i rfl (Nat.le_of_ble_eq_true rfl) ?_
  intro p e s m args below meth c A ls C hw hl
  have C : ctx g p s m args meth c RX11 cX11_write 5 (some .int) A := C
  have hl : lv_has ls 5 [(0, .ref (zm 0)), (1, .long x1), (3, .int x3)] := hl
  obtain ⟨hx, hb, hml, hown, hts, -⟩ := id C
  unfold fX11_write at hf
  refine lv_iload_n hx hb dX11_write_0 rfl (lv_at hl 2 rfl) ?_
  refine lv_i2l hx hb dX11_write_1 rfl ?_
  refine lv_lconst (v := (1 : Int64)) hx hb dX11_write_2 rfl ?_
  refine lv_ldc2 (v := (8 : Int64)) hx hb hown (hts _ q5_31) dX11_write_3 ?_
  obtain ⟨r1, hc2, hf⟩ := bd1_e hf
  refine r_callSi0 C hw (c_X11_in hc2) md_X11_in [] rfl rfl q5_32 ⟨Nat.le_of_ble_eq_true rfl, Nat.le_of_ble_eq_true rfl⟩ ⟨Nat.zero_le _, Nat.zero_le _⟩ hl.1 rfl rfl (Nat.le_of_ble_eq_true rfl) dX11_write_6 (fun H locs hw => ?_)
  refine lv_if_ne (tgt := 15) hx hb dX11_write_9 (by decide) (fun hc4 => ?_) (fun hc4 => ?_)
  · have hf := it_n hf hc4
    refine lv_aload_n hx hb dX11_write_15 rfl (lv_at hl 0 rfl) ?_
    refine r_get C hw 0 rfl cf_X11 3 (by decide) q4_176 (v := .int (Tm 0 3)) rfl dX11_write_16 ?_
    refine lv_iload_n hx hb dX11_write_19 rfl (lv_at hl 2 rfl) ?_
    refine lv_iadd hx hb dX11_write_20 ?_
    refine lv_sipush (v := (200 : Int32)) hx hb dX11_write_21 rfl ?_
    refine lv_icmp_le (tgt := 30) hx hb dX11_write_24 (by decide) (fun hc3 => ?_) (fun hc3 => ?_)
    · have hf := it_p hf hc3
      refine lv_iconst (v := (0 : Int32)) hx hb dX11_write_30 rfl ?_
      refine lv_istore (lv' := [(4, .int (0 : Int32)), (0, .ref (zm 0)), (1, .long x1), (3, .int x3)]) hx hb dX11_write_31 hl (by decide) rfl (fun ls hl => ?_)
      exact klX11_write_33 (zm := zm) (r := r) (om := om) C fu _ _ _ _ _ _ _ hf hw (lv_sub hl [1, 2, 3, 0] rfl)
    · have hf := it_n hf hc3
      refine lv_bipush (v := (-5 : Int32)) hx hb dX11_write_27 rfl ?_
      obtain ⟨rfl, rfl⟩ := so2 hf
      exact r_iret C hw rfl dX11_write_29
  · have hf := it_p hf hc4
    refine lv_bipush (v := (-3 : Int32)) hx hb dX11_write_12 rfl ?_
    obtain ⟨rfl, rfl⟩ := so2 hf
    exact r_iret C hw rfl dX11_write_14
set_option maxRecDepth 100000 in
set_option maxHeartbeats 4000000 in
theorem c_X11_erase {l : Launch} {g : evG} {zm : Nat → Nat} {r : Int32} {om : Gp}  {Tm : Gp} (hf : fX11_erase Tm = some (r, om)) : CTi l g yX11_erase (Cond.code yX11_erase cX11_erase 2 (some .int)) 0 0 [.ref (zm 0)] (gcM g zm Tm) (gcM g zm om) r := by
  refine ct_i rfl (Nat.le_of_ble_eq_true rfl) ?_
  intro p e s m args below meth c A ls C hw hl
  have C : ctx g p s m args meth c RX11 cX11_erase 2 (some .int) A := C
  have hl : lv_has ls 2 [(0, .ref (zm 0))] := hl
  obtain ⟨hx, hb, hml, hown, hts, -⟩ := id C
  unfold fX11_erase at hf
  refine lv_aload_n hx hb dX11_erase_0 rfl (lv_at hl 0 rfl) ?_
  refine r_get C hw 0 rfl cf_X11 3 (by decide) q4_176 (v := .int (Tm 0 3)) rfl dX11_erase_1 ?_
  refine lv_istore_n (lv' := [(1, .int (Tm 0 3)), (0, .ref (zm 0))]) hx hb dX11_erase_4 rfl hl (by decide) rfl (fun ls hl => ?_)
  refine lv_aload_n hx hb dX11_erase_5 rfl (lv_at hl 1 rfl) ?_
  refine lv_iconst (v := (0 : Int32)) hx hb dX11_erase_6 rfl ?_
  refine r_puti C hw 0 rfl cf_X11 3 (by decide) q4_176 rfl rfl (Nat.le_of_ble_eq_true rfl) (ws' := (gcM g zm (u2 Tm 0 3 (0 : Int32)))) gcM_p3 dX11_erase_7 (fun H locs hw => ?_)
  refine lv_iload_n hx hb dX11_erase_10 rfl (lv_at hl 0 rfl) ?_
  obtain ⟨rfl, rfl⟩ := so2 hf
  exact r_iret C hw rfl dX11_erase_11
set_option maxRecDepth 100000 in
set_option maxHeartbeats 4000000 in
theorem kX11_sort_16 {l : Launch} {g : evG} {p : Program} {e : Env} {s : State} {m : MethodId} {args : Array Value} {below : List Frame} {meth : Method} {c : Code} {A : Nat → Prop}  {r : Int32} (C : ctx g p s m args meth c RX11 cX11_sort 1 (some .int) A) {x0 : Int32} {H : Heap} {locs : List Loc} {ls : Array Slot} (hf : fX11_sort_16 x0 = some (r)) (hw : wl g A s.heap ([] : va_W) H locs) (hl : lv_has ls 1 [(0, .int x0)]) : W p l e (rmK 0 0) s m args below meth c H locs 0 0 (MQ below (Qi g A ([] : va_W) r) args s 0 0 A) (F0 m 16 ls []) := by
  obtain ⟨hx, hb, hml, hown, hts, -⟩ := id C
  unfold fX11_sort_16 at hf
  refine lv_iload_n hx hb dX11_sort_16 rfl (lv_at hl 0 rfl) ?_
  refine lv_bipush (v := (48 : Int32)) hx hb dX11_sort_17 rfl ?_
  refine lv_icmp_lt (tgt := 32) hx hb dX11_sort_19 (by decide) (fun hc2 => ?_) (fun hc2 => ?_)
  · have hf := it_p hf hc2
    refine lv_iconst (v := (0 : Int32)) hx hb dX11_sort_32 rfl ?_
    obtain rfl := so1 hf
    exact r_iret C hw rfl dX11_sort_33
  · have hf := it_n hf hc2
    refine lv_iload_n hx hb dX11_sort_22 rfl (lv_at hl 0 rfl) ?_
    refine lv_bipush (v := (57 : Int32)) hx hb dX11_sort_23 rfl ?_
    refine lv_icmp_gt (tgt := 32) hx hb dX11_sort_25 (by decide) (fun hc1 => ?_) (fun hc1 => ?_)
    · have hf := it_p hf hc1
      refine lv_iconst (v := (0 : Int32)) hx hb dX11_sort_32 rfl ?_
      obtain rfl := so1 hf
      exact r_iret C hw rfl dX11_sort_33
    · have hf := it_n hf hc1
      refine lv_iconst (v := (2 : Int32)) hx hb dX11_sort_28 rfl ?_
      refine lv_goto (tgt := 33) hx hb dX11_sort_29 (by decide) ?_
      obtain rfl := so1 hf
      exact r_iret C hw rfl dX11_sort_33
set_option maxRecDepth 100000 in
set_option maxHeartbeats 4000000 in
theorem c_X11_sort {l : Launch} {g : evG}  {r : Int32}  {x0 : Int32} (hf : fX11_sort x0 = some (r)) : CTi l g yX11_sort (Cond.code yX11_sort cX11_sort 1 (some .int)) 0 0 [.int x0] ([] : va_W) ([] : va_W) r := by
  refine ct_i rfl (Nat.le_of_ble_eq_true rfl) ?_
  intro p e s m args below meth c A ls C hw hl
  have C : ctx g p s m args meth c RX11 cX11_sort 1 (some .int) A := C
  have hl : lv_has ls 1 [(0, .int x0)] := hl
  obtain ⟨hx, hb, hml, hown, hts, -⟩ := id C
  unfold fX11_sort at hf
  refine lv_iload_n hx hb dX11_sort_0 rfl (lv_at hl 0 rfl) ?_
  refine lv_bipush (v := (97 : Int32)) hx hb dX11_sort_1 rfl ?_
  refine lv_icmp_lt (tgt := 16) hx hb dX11_sort_3 (by decide) (fun hc2 => ?_) (fun hc2 => ?_)
  · have hf := it_p hf hc2
    exact kX11_sort_16 (r := r) C hf hw (lv_sub hl [0] rfl)
  · have hf := it_n hf hc2
    refine lv_iload_n hx hb dX11_sort_6 rfl (lv_at hl 0 rfl) ?_
    refine lv_bipush (v := (122 : Int32)) hx hb dX11_sort_7 rfl ?_
    refine lv_icmp_gt (tgt := 16) hx hb dX11_sort_9 (by decide) (fun hc1 => ?_) (fun hc1 => ?_)
    · have hf := it_p hf hc1
      exact kX11_sort_16 (r := r) C hf hw (lv_sub hl [0] rfl)
    · have hf := it_n hf hc1
      refine lv_iconst (v := (1 : Int32)) hx hb dX11_sort_12 rfl ?_
      refine lv_goto (tgt := 33) hx hb dX11_sort_13 (by decide) ?_
      obtain rfl := so1 hf
      exact r_iret C hw rfl dX11_sort_33
set_option maxRecDepth 100000 in
set_option maxHeartbeats 4000000 in
theorem kX11_token_71 {l : Launch} {g : evG} {p : Program} {e : Env} {s : State} {m : MethodId} {args : Array Value} {below : List Frame} {meth : Method} {c : Code} {A : Nat → Prop} {zm : Nat → Nat} {om : Gp} (C : ctx g p s m args meth c RX11 cX11_token 1 none A) {rec71 : Gp → Option (Gp)} (hr71 : ∀ (Tm : Gp) (H : Heap) (locs : List Loc) (ls : Array Slot), rec71 Tm = some (om) → wl g A s.heap (gcM g zm Tm) H locs → lv_has ls 1 [(0, .ref (zm 0))] → W p l e (rmK 1 20) s m args below meth c H locs 0 0 (MQ below (Qv g A (gcM g zm om)) args s 0 0 A) (F0 m 71 ls [])) {Tm : Gp} {H : Heap} {locs : List Loc} {ls : Array Slot} (hf : fX11_token_71 rec71 Tm = some (om)) (hw : wl g A s.heap (gcM g zm Tm) H locs) (hl : lv_has ls 1 [(0, .ref (zm 0))]) : W p l e (rmK 1 20) s m args below meth c H locs 0 0 (MQ below (Qv g A (gcM g zm om)) args s 0 0 A) (F0 m 71 ls []) := by
  obtain ⟨hx, hb, hml, hown, hts, -⟩ := id C
  unfold fX11_token_71 at hf
  refine lv_aload_n hx hb dX11_token_71 rfl (lv_at hl 0 rfl) ?_
  refine r_get C hw 0 rfl cf_X11 13 (by decide) q4_186 (v := .int (Tm 0 13)) rfl dX11_token_72 ?_
  refine lv_aload_n hx hb dX11_token_75 rfl (lv_at hl 0 rfl) ?_
  refine r_get C hw 0 rfl cf_X11 3 (by decide) q4_176 (v := .int (Tm 0 3)) rfl dX11_token_76 ?_
  refine lv_icmp_ge (tgt := 137) hx hb dX11_token_79 (by decide) (fun hc12 => ?_) (fun hc12 => ?_)
  · have hf := it_p hf hc12
    refine lv_aload_n hx hb dX11_token_137 rfl (lv_at hl 0 rfl) ?_
    refine lv_aload_n hx hb dX11_token_138 rfl (lv_at hl 0 rfl) ?_
    refine r_get C hw 0 rfl cf_X11 13 (by decide) q4_186 (v := .int (Tm 0 13)) rfl dX11_token_139 ?_
    refine r_puti C hw 0 rfl cf_X11 15 (by decide) q4_188 rfl rfl (Nat.le_of_ble_eq_true rfl) (ws' := (gcM g zm (u2 Tm 0 15 (Tm 0 13)))) gcM_p15 dX11_token_142 (fun H locs hw => ?_)
    obtain rfl := so1 hf
    exact r_vret C hw dX11_token_145
  · have hf := it_n hf hc12
    refine lv_aload_n hx hb dX11_token_82 rfl (lv_at hl 0 rfl) ?_
    refine r_get C hw 0 rfl cf_X11 2 (by decide) q4_175 (v := .ref (zm 3)) rfl dX11_token_83 ?_
    refine lv_aload_n hx hb dX11_token_86 rfl (lv_at hl 0 rfl) ?_
    refine r_get C hw 0 rfl cf_X11 14 (by decide) q4_187 (v := .int (Tm 0 14)) rfl dX11_token_87 ?_
    obtain ⟨hi1, hf⟩ := it_g hf
    refine r_iald C hw 3 (f := (Tm 3)) rfl hi1 dX11_token_90 ?_
    obtain ⟨r2, hc3, hf⟩ := bd1_e hf
    refine r_callSi0 C hw (c_X11_sort hc3) md_X11_sort [] rfl rfl q5_48 ⟨Nat.le_of_ble_eq_true rfl, Nat.le_of_ble_eq_true rfl⟩ ⟨Nat.zero_le _, Nat.zero_le _⟩ hl.1 rfl rfl (Nat.le_of_ble_eq_true rfl) dX11_token_91 (fun H locs hw => ?_)
    refine lv_if_le (tgt := 137) hx hb dX11_token_94 (by decide) (fun hc11 => ?_) (fun hc11 => ?_)
    · have hf := it_p hf hc11
      refine lv_aload_n hx hb dX11_token_137 rfl (lv_at hl 0 rfl) ?_
      refine lv_aload_n hx hb dX11_token_138 rfl (lv_at hl 0 rfl) ?_
      refine r_get C hw 0 rfl cf_X11 13 (by decide) q4_186 (v := .int (Tm 0 13)) rfl dX11_token_139 ?_
      refine r_puti C hw 0 rfl cf_X11 15 (by decide) q4_188 rfl rfl (Nat.le_of_ble_eq_true rfl) (ws' := (gcM g zm (u2 Tm 0 15 (Tm 0 13)))) gcM_p15 dX11_token_142 (fun H locs hw => ?_)
      obtain rfl := so1 hf
      exact r_vret C hw dX11_token_145
    · have hf := it_n hf hc11
      refine lv_aload_n hx hb dX11_token_97 rfl (lv_at hl 0 rfl) ?_
      refine r_get C hw 0 rfl cf_X11 2 (by decide) q4_175 (v := .ref (zm 3)) rfl dX11_token_98 ?_
      refine lv_aload_n hx hb dX11_token_101 rfl (lv_at hl 0 rfl) ?_
      refine r_get C hw 0 rfl cf_X11 13 (by decide) q4_186 (v := .int (Tm 0 13)) rfl dX11_token_102 ?_
      obtain ⟨hi4, hf⟩ := it_g hf
      refine r_iald C hw 3 (f := (Tm 3)) rfl hi4 dX11_token_105 ?_
      obtain ⟨r5, hc6, hf⟩ := bd1_e hf
      refine r_callSi0 C hw (c_X11_sort hc6) md_X11_sort [] rfl rfl q5_48 ⟨Nat.le_of_ble_eq_true rfl, Nat.le_of_ble_eq_true rfl⟩ ⟨Nat.zero_le _, Nat.zero_le _⟩ hl.1 rfl rfl (Nat.le_of_ble_eq_true rfl) dX11_token_106 (fun H locs hw => ?_)
      refine lv_aload_n hx hb dX11_token_109 rfl (lv_at hl 0 rfl) ?_
      refine r_get C hw 0 rfl cf_X11 2 (by decide) q4_175 (v := .ref (zm 3)) rfl dX11_token_110 ?_
      refine lv_aload_n hx hb dX11_token_113 rfl (lv_at hl 0 rfl) ?_
      refine r_get C hw 0 rfl cf_X11 14 (by decide) q4_187 (v := .int (Tm 0 14)) rfl dX11_token_114 ?_
      obtain ⟨hi7, hf⟩ := it_g hf
      refine r_iald C hw 3 (f := (Tm 3)) rfl hi7 dX11_token_117 ?_
      obtain ⟨r8, hc9, hf⟩ := bd1_e hf
      refine r_callSi0 C hw (c_X11_sort hc9) md_X11_sort [] rfl rfl q5_48 ⟨Nat.le_of_ble_eq_true rfl, Nat.le_of_ble_eq_true rfl⟩ ⟨Nat.zero_le _, Nat.zero_le _⟩ hl.1 rfl rfl (Nat.le_of_ble_eq_true rfl) dX11_token_118 (fun H locs hw => ?_)
      refine lv_icmp_ne (tgt := 137) hx hb dX11_token_121 (by decide) (fun hc10 => ?_) (fun hc10 => ?_)
      · have hf := it_n hf hc10
        refine lv_aload_n hx hb dX11_token_137 rfl (lv_at hl 0 rfl) ?_
        refine lv_aload_n hx hb dX11_token_138 rfl (lv_at hl 0 rfl) ?_
        refine r_get C hw 0 rfl cf_X11 13 (by decide) q4_186 (v := .int (Tm 0 13)) rfl dX11_token_139 ?_
        refine r_puti C hw 0 rfl cf_X11 15 (by decide) q4_188 rfl rfl (Nat.le_of_ble_eq_true rfl) (ws' := (gcM g zm (u2 Tm 0 15 (Tm 0 13)))) gcM_p15 dX11_token_142 (fun H locs hw => ?_)
        obtain rfl := so1 hf
        exact r_vret C hw dX11_token_145
      · have hf := it_p hf hc10
        refine lv_aload_n hx hb dX11_token_124 rfl (lv_at hl 0 rfl) ?_
        refine lv_dup hx hb dX11_token_125 rfl ?_
        refine r_get C hw 0 rfl cf_X11 13 (by decide) q4_186 (v := .int (Tm 0 13)) rfl dX11_token_126 ?_
        refine lv_iconst (v := (1 : Int32)) hx hb dX11_token_129 rfl ?_
        refine lv_iadd hx hb dX11_token_130 ?_
        refine r_puti C hw 0 rfl cf_X11 13 (by decide) q4_186 rfl rfl (Nat.le_of_ble_eq_true rfl) (ws' := (gcM g zm (u2 Tm 0 13 ((Tm 0 13) + (1 : Int32))))) gcM_p13 dX11_token_131 (fun H locs hw => ?_)
        refine lv_goto (tgt := 71) hx hb dX11_token_134 (by decide) ?_
        exact hr71 _ _ _ _ hf hw (lv_sub hl [0] rfl)
set_option maxRecDepth 100000 in
set_option maxHeartbeats 4000000 in
theorem klX11_token_71 {l : Launch} {g : evG} {p : Program} {e : Env} {s : State} {m : MethodId} {args : Array Value} {below : List Frame} {meth : Method} {c : Code} {A : Nat → Prop} {zm : Nat → Nat} {om : Gp} (C : ctx g p s m args meth c RX11 cX11_token 1 none A) : ∀ (n : Nat) (Tm : Gp) (H : Heap) (locs : List Loc) (ls : Array Slot), lX11_token_71 n Tm = some (om) → wl g A s.heap (gcM g zm Tm) H locs → lv_has ls 1 [(0, .ref (zm 0))] → W p l e (rmK 1 20) s m args below meth c H locs 0 0 (MQ below (Qv g A (gcM g zm om)) args s 0 0 A) (F0 m 71 ls []) := by
  intro n
  induction n with
  | zero => intro _ _ _ _ hf; exact no_f hf
  | succ n ih => intro _ _ _ _ hf hw hl; exact kX11_token_71 (zm := zm) (om := om) C (rec71 := lX11_token_71 n) ih hf hw hl
set_option maxRecDepth 100000 in
set_option maxHeartbeats 4000000 in
theorem kX11_token_38 {l : Launch} {g : evG} {p : Program} {e : Env} {s : State} {m : MethodId} {args : Array Value} {below : List Frame} {meth : Method} {c : Code} {A : Nat → Prop} {zm : Nat → Nat} {om : Gp} (C : ctx g p s m args meth c RX11 cX11_token 1 none A) {Tm : Gp} {H : Heap} {locs : List Loc} {ls : Array Slot} (hf : fX11_token_38 Tm = some (om)) (hw : wl g A s.heap (gcM g zm Tm) H locs) (hl : lv_has ls 1 [(0, .ref (zm 0))]) : W p l e (rmK 1 20) s m args below meth c H locs 0 0 (MQ below (Qv g A (gcM g zm om)) args s 0 0 A) (F0 m 38 ls []) := by
  obtain ⟨hx, hb, hml, hown, hts, -⟩ := id C
  unfold fX11_token_38 at hf
  refine lv_aload_n hx hb dX11_token_38 rfl (lv_at hl 0 rfl) ?_
  refine lv_aload_n hx hb dX11_token_39 rfl (lv_at hl 0 rfl) ?_
  refine r_get C hw 0 rfl cf_X11 13 (by decide) q4_186 (v := .int (Tm 0 13)) rfl dX11_token_40 ?_
  refine r_puti C hw 0 rfl cf_X11 14 (by decide) q4_187 rfl rfl (Nat.le_of_ble_eq_true rfl) (ws' := (gcM g zm (u2 Tm 0 14 (Tm 0 13)))) gcM_p14 dX11_token_43 (fun H locs hw => ?_)
  refine lv_aload_n hx hb dX11_token_46 rfl (lv_at hl 0 rfl) ?_
  refine lv_dup hx hb dX11_token_47 rfl ?_
  refine r_get C hw 0 rfl cf_X11 13 (by decide) q4_186 (v := .int (Tm 0 13)) rfl dX11_token_48 ?_
  refine lv_aload_n hx hb dX11_token_51 rfl (lv_at hl 0 rfl) ?_
  refine r_get C hw 0 rfl cf_X11 13 (by decide) q4_186 (v := .int (Tm 0 13)) rfl dX11_token_52 ?_
  refine lv_aload_n hx hb dX11_token_55 rfl (lv_at hl 0 rfl) ?_
  refine r_get C hw 0 rfl cf_X11 3 (by decide) q4_176 (v := .int (Tm 0 3)) rfl dX11_token_56 ?_
  refine lv_icmp_ge (tgt := 66) hx hb dX11_token_59 (by decide) (fun hc1 => ?_) (fun hc1 => ?_)
  · have hf := it_p hf hc1
    refine lv_iconst (v := (0 : Int32)) hx hb dX11_token_66 rfl ?_
    refine lv_iadd hx hb dX11_token_67 ?_
    refine r_puti C hw 0 rfl cf_X11 13 (by decide) q4_186 rfl rfl (Nat.le_of_ble_eq_true rfl) (ws' := (gcM g zm (u2 (u2 Tm 0 14 (Tm 0 13)) 0 13 ((Tm 0 13) + (0 : Int32))))) gcM_p13 dX11_token_68 (fun H locs hw => ?_)
    exact klX11_token_71 (zm := zm) (om := om) C fu _ _ _ _ hf hw (lv_sub hl [0] rfl)
  · have hf := it_n hf hc1
    refine lv_iconst (v := (1 : Int32)) hx hb dX11_token_62 rfl ?_
    refine lv_goto (tgt := 67) hx hb dX11_token_63 (by decide) ?_
    refine lv_iadd hx hb dX11_token_67 ?_
    refine r_puti C hw 0 rfl cf_X11 13 (by decide) q4_186 rfl rfl (Nat.le_of_ble_eq_true rfl) (ws' := (gcM g zm (u2 (u2 Tm 0 14 (Tm 0 13)) 0 13 ((Tm 0 13) + (1 : Int32))))) gcM_p13 dX11_token_68 (fun H locs hw => ?_)
    exact klX11_token_71 (zm := zm) (om := om) C fu _ _ _ _ hf hw (lv_sub hl [0] rfl)
set_option maxRecDepth 100000 in
set_option maxHeartbeats 4000000 in
theorem kX11_token_0 {l : Launch} {g : evG} {p : Program} {e : Env} {s : State} {m : MethodId} {args : Array Value} {below : List Frame} {meth : Method} {c : Code} {A : Nat → Prop} {zm : Nat → Nat} {om : Gp} (C : ctx g p s m args meth c RX11 cX11_token 1 none A) {rec0 : Gp → Option (Gp)} (hr0 : ∀ (Tm : Gp) (H : Heap) (locs : List Loc) (ls : Array Slot), rec0 Tm = some (om) → wl g A s.heap (gcM g zm Tm) H locs → lv_has ls 1 [(0, .ref (zm 0))] → W p l e (rmK 1 20) s m args below meth c H locs 0 0 (MQ below (Qv g A (gcM g zm om)) args s 0 0 A) (F0 m 0 ls [])) {Tm : Gp} {H : Heap} {locs : List Loc} {ls : Array Slot} (hf : fX11_token_0 rec0 Tm = some (om)) (hw : wl g A s.heap (gcM g zm Tm) H locs) (hl : lv_has ls 1 [(0, .ref (zm 0))]) : W p l e (rmK 1 20) s m args below meth c H locs 0 0 (MQ below (Qv g A (gcM g zm om)) args s 0 0 A) (F0 m 0 ls []) := by
  obtain ⟨hx, hb, hml, hown, hts, -⟩ := id C
  unfold fX11_token_0 at hf
  refine lv_aload_n hx hb dX11_token_0 rfl (lv_at hl 0 rfl) ?_
  refine r_get C hw 0 rfl cf_X11 13 (by decide) q4_186 (v := .int (Tm 0 13)) rfl dX11_token_1 ?_
  refine lv_aload_n hx hb dX11_token_4 rfl (lv_at hl 0 rfl) ?_
  refine r_get C hw 0 rfl cf_X11 3 (by decide) q4_176 (v := .int (Tm 0 3)) rfl dX11_token_5 ?_
  refine lv_icmp_ge (tgt := 38) hx hb dX11_token_8 (by decide) (fun hc3 => ?_) (fun hc3 => ?_)
  · have hf := it_p hf hc3
    exact kX11_token_38 (zm := zm) (om := om) C hf hw (lv_sub hl [0] rfl)
  · have hf := it_n hf hc3
    refine lv_aload_n hx hb dX11_token_11 rfl (lv_at hl 0 rfl) ?_
    refine r_get C hw 0 rfl cf_X11 2 (by decide) q4_175 (v := .ref (zm 3)) rfl dX11_token_12 ?_
    refine lv_aload_n hx hb dX11_token_15 rfl (lv_at hl 0 rfl) ?_
    refine r_get C hw 0 rfl cf_X11 13 (by decide) q4_186 (v := .int (Tm 0 13)) rfl dX11_token_16 ?_
    obtain ⟨hi1, hf⟩ := it_g hf
    refine r_iald C hw 3 (f := (Tm 3)) rfl hi1 dX11_token_19 ?_
    refine lv_bipush (v := (32 : Int32)) hx hb dX11_token_20 rfl ?_
    refine lv_icmp_ne (tgt := 38) hx hb dX11_token_22 (by decide) (fun hc2 => ?_) (fun hc2 => ?_)
    · have hf := it_n hf hc2
      exact kX11_token_38 (zm := zm) (om := om) C hf hw (lv_sub hl [0] rfl)
    · have hf := it_p hf hc2
      refine lv_aload_n hx hb dX11_token_25 rfl (lv_at hl 0 rfl) ?_
      refine lv_dup hx hb dX11_token_26 rfl ?_
      refine r_get C hw 0 rfl cf_X11 13 (by decide) q4_186 (v := .int (Tm 0 13)) rfl dX11_token_27 ?_
      refine lv_iconst (v := (1 : Int32)) hx hb dX11_token_30 rfl ?_
      refine lv_iadd hx hb dX11_token_31 ?_
      refine r_puti C hw 0 rfl cf_X11 13 (by decide) q4_186 rfl rfl (Nat.le_of_ble_eq_true rfl) (ws' := (gcM g zm (u2 Tm 0 13 ((Tm 0 13) + (1 : Int32))))) gcM_p13 dX11_token_32 (fun H locs hw => ?_)
      refine lv_goto (tgt := 0) hx hb dX11_token_35 (by decide) ?_
      exact hr0 _ _ _ _ hf hw (lv_sub hl [0] rfl)
set_option maxRecDepth 100000 in
set_option maxHeartbeats 4000000 in
theorem klX11_token_0 {l : Launch} {g : evG} {p : Program} {e : Env} {s : State} {m : MethodId} {args : Array Value} {below : List Frame} {meth : Method} {c : Code} {A : Nat → Prop} {zm : Nat → Nat} {om : Gp} (C : ctx g p s m args meth c RX11 cX11_token 1 none A) : ∀ (n : Nat) (Tm : Gp) (H : Heap) (locs : List Loc) (ls : Array Slot), lX11_token_0 n Tm = some (om) → wl g A s.heap (gcM g zm Tm) H locs → lv_has ls 1 [(0, .ref (zm 0))] → W p l e (rmK 1 20) s m args below meth c H locs 0 0 (MQ below (Qv g A (gcM g zm om)) args s 0 0 A) (F0 m 0 ls []) := by
  intro n
  induction n with
  | zero => intro _ _ _ _ hf; exact no_f hf
  | succ n ih => intro _ _ _ _ hf hw hl; exact kX11_token_0 (zm := zm) (om := om) C (rec0 := lX11_token_0 n) ih hf hw hl
set_option maxRecDepth 100000 in
set_option maxHeartbeats 4000000 in
theorem c_X11_token {l : Launch} {g : evG} {zm : Nat → Nat} {om : Gp}  {Tm : Gp} (hf : fX11_token Tm = some (om)) : CTv l g yX11_token (Cond.code yX11_token cX11_token 1 none) 1 20 [.ref (zm 0)] (gcM g zm Tm) (gcM g zm om) := by
  refine ct_v rfl (Nat.le_of_ble_eq_true rfl) ?_
  intro p e s m args below meth c A ls C hw hl
  have C : ctx g p s m args meth c RX11 cX11_token 1 none A := C
  have hl : lv_has ls 1 [(0, .ref (zm 0))] := hl
  obtain ⟨hx, hb, hml, hown, hts, -⟩ := id C
  unfold fX11_token at hf
  exact klX11_token_0 (zm := zm) (om := om) C fu _ _ _ _ hf hw (lv_sub hl [0] rfl)
set_option maxRecDepth 100000 in
set_option maxHeartbeats 4000000 in
theorem kX11_isWord_22 {l : Launch} {g : evG} {p : Program} {e : Env} {s : State} {m : MethodId} {args : Array Value} {below : List Frame} {meth : Method} {c : Code} {A : Nat → Prop} {zm : Nat → Nat} {r : Int32} (C : ctx g p s m args meth c RX11 cX11_isWord 5 (some .boolean) A) {Tm : Gp} {rec22 : Int32 → Int32 → Int32 → Int32 → Option (Int32)} (hr22 : ∀ (x1 : Int32) (x2 : Int32) (x3 : Int32) (x4 : Int32) (H : Heap) (locs : List Loc) (ls : Array Slot), rec22 x1 x2 x3 x4 = some (r) → wl g A s.heap (gcM g zm Tm) H locs → lv_has ls 5 [(0, .ref (zm 0)), (1, .int x1), (2, .int x2), (3, .int x3), (4, .int x4)] → W p l e (rmK 0 0) s m args below meth c H locs 0 0 (MQ below (Qi g A (gcM g zm Tm) r) args s 0 0 A) (F0 m 22 ls [])) {x1 : Int32} {x2 : Int32} {x3 : Int32} {x4 : Int32} {H : Heap} {locs : List Loc} {ls : Array Slot} (hf : fX11_isWord_22 Tm rec22 x1 x2 x3 x4 = some (r)) (hw : wl g A s.heap (gcM g zm Tm) H locs) (hl : lv_has ls 5 [(0, .ref (zm 0)), (1, .int x1), (2, .int x2), (3, .int x3), (4, .int x4)]) : W p l e (rmK 0 0) s m args below meth c H locs 0 0 (MQ below (Qi g A (gcM g zm Tm) r) args s 0 0 A) (F0 m 22 ls []) := by
  obtain ⟨hx, hb, hml, hown, hts, -⟩ := id C
  unfold fX11_isWord_22 at hf
  refine lv_iload_n hx hb dX11_isWord_22 rfl (lv_at hl 3 rfl) ?_
  refine lv_if_eq (tgt := 71) hx hb dX11_isWord_23 (by decide) (fun hc4 => ?_) (fun hc4 => ?_)
  · have hf := it_p hf hc4
    refine lv_iload_n hx hb dX11_isWord_71 rfl (lv_at hl 3 rfl) ?_
    obtain ⟨hn, hf⟩ := it_g hf
    obtain rfl := so1 hf
    exact r_zret C hw rfl hn dX11_isWord_72
  · have hf := it_n hf hc4
    refine lv_iload hx hb dX11_isWord_26 (lv_at hl 4 rfl) ?_
    refine lv_iload_n hx hb dX11_isWord_28 rfl (lv_at hl 2 rfl) ?_
    refine lv_icmp_ge (tgt := 71) hx hb dX11_isWord_29 (by decide) (fun hc3 => ?_) (fun hc3 => ?_)
    · have hf := it_p hf hc3
      refine lv_iload_n hx hb dX11_isWord_71 rfl (lv_at hl 3 rfl) ?_
      obtain ⟨hn, hf⟩ := it_g hf
      obtain rfl := so1 hf
      exact r_zret C hw rfl hn dX11_isWord_72
    · have hf := it_n hf hc3
      refine lv_aload_n hx hb dX11_isWord_32 rfl (lv_at hl 0 rfl) ?_
      refine r_get C hw 0 rfl cf_X11 2 (by decide) q4_175 (v := .ref (zm 3)) rfl dX11_isWord_33 ?_
      refine lv_aload_n hx hb dX11_isWord_36 rfl (lv_at hl 0 rfl) ?_
      refine r_get C hw 0 rfl cf_X11 14 (by decide) q4_187 (v := .int (Tm 0 14)) rfl dX11_isWord_37 ?_
      refine lv_iload hx hb dX11_isWord_40 (lv_at hl 4 rfl) ?_
      refine lv_iadd hx hb dX11_isWord_42 ?_
      obtain ⟨hi1, hf⟩ := it_g hf
      refine r_iald C hw 3 (f := (Tm 3)) rfl hi1 dX11_isWord_43 ?_
      refine lv_bipush (v := (96 : Int32)) hx hb dX11_isWord_44 rfl ?_
      refine lv_iload_n hx hb dX11_isWord_46 rfl (lv_at hl 1 rfl) ?_
      refine lv_iconst (v := (5 : Int32)) hx hb dX11_isWord_47 rfl ?_
      refine lv_iload hx hb dX11_isWord_48 (lv_at hl 4 rfl) ?_
      refine lv_imul hx hb dX11_isWord_50 ?_
      refine lv_ishr hx hb dX11_isWord_51 ?_
      refine lv_bipush (v := (31 : Int32)) hx hb dX11_isWord_52 rfl ?_
      refine lv_iand hx hb dX11_isWord_54 ?_
      refine lv_iadd hx hb dX11_isWord_55 ?_
      refine lv_icmp_ne (tgt := 63) hx hb dX11_isWord_56 (by decide) (fun hc2 => ?_) (fun hc2 => ?_)
      · have hf := it_n hf hc2
        refine lv_iconst (v := (0 : Int32)) hx hb dX11_isWord_63 rfl ?_
        refine lv_istore_n (lv' := [(3, .int (0 : Int32)), (0, .ref (zm 0)), (1, .int x1), (2, .int x2), (4, .int x4)]) hx hb dX11_isWord_64 rfl hl (by decide) rfl (fun ls hl => ?_)
        refine lv_iinc (v := (x4 + (1 : Int32))) (lv' := [(4, .int (x4 + (1 : Int32))), (3, .int (0 : Int32)), (0, .ref (zm 0)), (1, .int x1), (2, .int x2)]) hx hb dX11_isWord_65 hl (k := 4) rfl rfl (by decide) rfl (fun ls hl => ?_)
        refine lv_goto (tgt := 22) hx hb dX11_isWord_68 (by decide) ?_
        exact hr22 _ _ _ _ _ _ _ hf hw (lv_sub hl [2, 3, 4, 1, 0] rfl)
      · have hf := it_p hf hc2
        refine lv_iconst (v := (1 : Int32)) hx hb dX11_isWord_59 rfl ?_
        refine lv_goto (tgt := 64) hx hb dX11_isWord_60 (by decide) ?_
        refine lv_istore_n (lv' := [(3, .int (1 : Int32)), (0, .ref (zm 0)), (1, .int x1), (2, .int x2), (4, .int x4)]) hx hb dX11_isWord_64 rfl hl (by decide) rfl (fun ls hl => ?_)
        refine lv_iinc (v := (x4 + (1 : Int32))) (lv' := [(4, .int (x4 + (1 : Int32))), (3, .int (1 : Int32)), (0, .ref (zm 0)), (1, .int x1), (2, .int x2)]) hx hb dX11_isWord_65 hl (k := 4) rfl rfl (by decide) rfl (fun ls hl => ?_)
        refine lv_goto (tgt := 22) hx hb dX11_isWord_68 (by decide) ?_
        exact hr22 _ _ _ _ _ _ _ hf hw (lv_sub hl [2, 3, 4, 1, 0] rfl)
set_option maxRecDepth 100000 in
set_option maxHeartbeats 4000000 in
theorem klX11_isWord_22 {l : Launch} {g : evG} {p : Program} {e : Env} {s : State} {m : MethodId} {args : Array Value} {below : List Frame} {meth : Method} {c : Code} {A : Nat → Prop} {zm : Nat → Nat} {r : Int32} (C : ctx g p s m args meth c RX11 cX11_isWord 5 (some .boolean) A) {Tm : Gp} : ∀ (n : Nat) (x1 : Int32) (x2 : Int32) (x3 : Int32) (x4 : Int32) (H : Heap) (locs : List Loc) (ls : Array Slot), lX11_isWord_22 Tm n x1 x2 x3 x4 = some (r) → wl g A s.heap (gcM g zm Tm) H locs → lv_has ls 5 [(0, .ref (zm 0)), (1, .int x1), (2, .int x2), (3, .int x3), (4, .int x4)] → W p l e (rmK 0 0) s m args below meth c H locs 0 0 (MQ below (Qi g A (gcM g zm Tm) r) args s 0 0 A) (F0 m 22 ls []) := by
  intro n
  induction n with
  | zero => intro _ _ _ _ _ _ _ hf; exact no_f hf
  | succ n ih => intro _ _ _ _ _ _ _ hf hw hl; exact kX11_isWord_22 (zm := zm) (r := r) C (rec22 := lX11_isWord_22 Tm n) ih hf hw hl
set_option maxRecDepth 100000 in
set_option maxHeartbeats 4000000 in
theorem c_X11_isWord {l : Launch} {g : evG} {zm : Nat → Nat} {r : Int32}  {Tm : Gp} {x1 : Int32} {x2 : Int32} (hf : fX11_isWord Tm x1 x2 = some (r)) : CTi l g yX11_isWord (Cond.code yX11_isWord cX11_isWord 5 (some .boolean)) 0 0 [.ref (zm 0), .int x1, .int x2] (gcM g zm Tm) (gcM g zm Tm) r := by
  refine ct_i rfl (Nat.le_of_ble_eq_true rfl) ?_
  intro p e s m args below meth c A ls C hw hl
  have C : ctx g p s m args meth c RX11 cX11_isWord 5 (some .boolean) A := C
  have hl : lv_has ls 5 [(0, .ref (zm 0)), (1, .int x1), (2, .int x2)] := hl
  obtain ⟨hx, hb, hml, hown, hts, -⟩ := id C
  unfold fX11_isWord at hf
  refine lv_aload_n hx hb dX11_isWord_0 rfl (lv_at hl 0 rfl) ?_
  refine r_get C hw 0 rfl cf_X11 15 (by decide) q4_188 (v := .int (Tm 0 15)) rfl dX11_isWord_1 ?_
  refine lv_aload_n hx hb dX11_isWord_4 rfl (lv_at hl 0 rfl) ?_
  refine r_get C hw 0 rfl cf_X11 14 (by decide) q4_187 (v := .int (Tm 0 14)) rfl dX11_isWord_5 ?_
  refine lv_isub hx hb dX11_isWord_8 ?_
  refine lv_iload_n hx hb dX11_isWord_9 rfl (lv_at hl 2 rfl) ?_
  refine lv_icmp_ne (tgt := 17) hx hb dX11_isWord_10 (by decide) (fun hc1 => ?_) (fun hc1 => ?_)
  · have hf := it_n hf hc1
    refine lv_iconst (v := (0 : Int32)) hx hb dX11_isWord_17 rfl ?_
    refine lv_istore_n (lv' := [(3, .int (0 : Int32)), (0, .ref (zm 0)), (1, .int x1), (2, .int x2)]) hx hb dX11_isWord_18 rfl hl (by decide) rfl (fun ls hl => ?_)
    refine lv_iconst (v := (0 : Int32)) hx hb dX11_isWord_19 rfl ?_
    refine lv_istore (lv' := [(4, .int (0 : Int32)), (3, .int (0 : Int32)), (0, .ref (zm 0)), (1, .int x1), (2, .int x2)]) hx hb dX11_isWord_20 hl (by decide) rfl (fun ls hl => ?_)
    exact klX11_isWord_22 (zm := zm) (r := r) C fu _ _ _ _ _ _ _ hf hw (lv_sub hl [2, 3, 4, 1, 0] rfl)
  · have hf := it_p hf hc1
    refine lv_iconst (v := (1 : Int32)) hx hb dX11_isWord_13 rfl ?_
    refine lv_goto (tgt := 18) hx hb dX11_isWord_14 (by decide) ?_
    refine lv_istore_n (lv' := [(3, .int (1 : Int32)), (0, .ref (zm 0)), (1, .int x1), (2, .int x2)]) hx hb dX11_isWord_18 rfl hl (by decide) rfl (fun ls hl => ?_)
    refine lv_iconst (v := (0 : Int32)) hx hb dX11_isWord_19 rfl ?_
    refine lv_istore (lv' := [(4, .int (0 : Int32)), (3, .int (1 : Int32)), (0, .ref (zm 0)), (1, .int x1), (2, .int x2)]) hx hb dX11_isWord_20 hl (by decide) rfl (fun ls hl => ?_)
    exact klX11_isWord_22 (zm := zm) (r := r) C fu _ _ _ _ _ _ _ hf hw (lv_sub hl [2, 3, 4, 1, 0] rfl)
set_option maxRecDepth 100000 in
set_option maxHeartbeats 4000000 in
theorem c_X11_wordOf {l : Launch} {g : evG} {zm : Nat → Nat} {r : Int32}  {Tm : Gp} (hf : fX11_wordOf Tm = some (r)) : CTi l g yX11_wordOf (Cond.code yX11_wordOf cX11_wordOf 1 (some .int)) 1 24 [.ref (zm 0)] (gcM g zm Tm) (gcM g zm Tm) r := by
  refine ct_i rfl (Nat.le_of_ble_eq_true rfl) ?_
  intro p e s m args below meth c A ls C hw hl
  have C : ctx g p s m args meth c RX11 cX11_wordOf 1 (some .int) A := C
  have hl : lv_has ls 1 [(0, .ref (zm 0))] := hl
  obtain ⟨hx, hb, hml, hown, hts, -⟩ := id C
  unfold fX11_wordOf at hf
  refine lv_aload_n hx hb dX11_wordOf_0 rfl (lv_at hl 0 rfl) ?_
  refine lv_ldc (v := (859870804 : Int32)) hx hb hown (hts _ q5_59) dX11_wordOf_1 ?_
  refine lv_bipush (v := (6 : Int32)) hx hb dX11_wordOf_3 rfl ?_
  obtain ⟨r1, hc2, hf⟩ := bd1_e hf
  refine r_callVi0 C hw (c_X11_isWord (zm := zm) hc2) md_X11_isWord [0, 1, 2, 3, 4, 5, 6, 7, 8, 9, 10, 11, 12, 13, 14, 15, 16, 17, 18] rfl rfl q5_60 0 rfl cf_X11.1 ⟨Nat.le_of_ble_eq_true rfl, Nat.le_of_ble_eq_true rfl⟩ ⟨Nat.zero_le _, Nat.zero_le _⟩ hl.1 rfl rfl (Nat.le_of_ble_eq_true rfl) dX11_wordOf_5 (fun H locs hw => ?_)
  refine lv_if_eq (tgt := 15) hx hb dX11_wordOf_8 (by decide) (fun hc18 => ?_) (fun hc18 => ?_)
  · have hf := it_p hf hc18
    refine lv_aload_n hx hb dX11_wordOf_15 rfl (lv_at hl 0 rfl) ?_
    refine lv_ldc (v := (379383 : Int32)) hx hb hown (hts _ q5_64) dX11_wordOf_16 ?_
    refine lv_iconst (v := (4 : Int32)) hx hb dX11_wordOf_18 rfl ?_
    obtain ⟨r3, hc4, hf⟩ := bd1_e hf
    refine r_callVi0 C hw (c_X11_isWord (zm := zm) hc4) md_X11_isWord [0, 1, 2, 3, 4, 5, 6, 7, 8, 9, 10, 11, 12, 13, 14, 15, 16, 17, 18] rfl rfl q5_60 0 rfl cf_X11.1 ⟨Nat.le_of_ble_eq_true rfl, Nat.le_of_ble_eq_true rfl⟩ ⟨Nat.zero_le _, Nat.zero_le _⟩ hl.1 rfl rfl (Nat.le_of_ble_eq_true rfl) dX11_wordOf_19 (fun H locs hw => ?_)
    refine lv_if_eq (tgt := 29) hx hb dX11_wordOf_22 (by decide) (fun hc17 => ?_) (fun hc17 => ?_)
    · have hf := it_p hf hc17
      refine lv_aload_n hx hb dX11_wordOf_29 rfl (lv_at hl 0 rfl) ?_
      refine lv_ldc (v := (145707 : Int32)) hx hb hown (hts _ q5_65) dX11_wordOf_30 ?_
      refine lv_iconst (v := (4 : Int32)) hx hb dX11_wordOf_32 rfl ?_
      obtain ⟨r5, hc6, hf⟩ := bd1_e hf
      refine r_callVi0 C hw (c_X11_isWord (zm := zm) hc6) md_X11_isWord [0, 1, 2, 3, 4, 5, 6, 7, 8, 9, 10, 11, 12, 13, 14, 15, 16, 17, 18] rfl rfl q5_60 0 rfl cf_X11.1 ⟨Nat.le_of_ble_eq_true rfl, Nat.le_of_ble_eq_true rfl⟩ ⟨Nat.zero_le _, Nat.zero_le _⟩ hl.1 rfl rfl (Nat.le_of_ble_eq_true rfl) dX11_wordOf_33 (fun H locs hw => ?_)
      refine lv_if_eq (tgt := 43) hx hb dX11_wordOf_36 (by decide) (fun hc16 => ?_) (fun hc16 => ?_)
      · have hf := it_p hf hc16
        refine lv_aload_n hx hb dX11_wordOf_43 rfl (lv_at hl 0 rfl) ?_
        refine lv_ldc (v := (21431469 : Int32)) hx hb hown (hts _ q5_66) dX11_wordOf_44 ?_
        refine lv_iconst (v := (5 : Int32)) hx hb dX11_wordOf_46 rfl ?_
        obtain ⟨r7, hc8, hf⟩ := bd1_e hf
        refine r_callVi0 C hw (c_X11_isWord (zm := zm) hc8) md_X11_isWord [0, 1, 2, 3, 4, 5, 6, 7, 8, 9, 10, 11, 12, 13, 14, 15, 16, 17, 18] rfl rfl q5_60 0 rfl cf_X11.1 ⟨Nat.le_of_ble_eq_true rfl, Nat.le_of_ble_eq_true rfl⟩ ⟨Nat.zero_le _, Nat.zero_le _⟩ hl.1 rfl rfl (Nat.le_of_ble_eq_true rfl) dX11_wordOf_47 (fun H locs hw => ?_)
        refine lv_if_eq (tgt := 57) hx hb dX11_wordOf_50 (by decide) (fun hc15 => ?_) (fun hc15 => ?_)
        · have hf := it_p hf hc15
          refine lv_aload_n hx hb dX11_wordOf_57 rfl (lv_at hl 0 rfl) ?_
          refine lv_ldc (v := (643109 : Int32)) hx hb hown (hts _ q5_67) dX11_wordOf_58 ?_
          refine lv_iconst (v := (4 : Int32)) hx hb dX11_wordOf_60 rfl ?_
          obtain ⟨r9, hc10, hf⟩ := bd1_e hf
          refine r_callVi0 C hw (c_X11_isWord (zm := zm) hc10) md_X11_isWord [0, 1, 2, 3, 4, 5, 6, 7, 8, 9, 10, 11, 12, 13, 14, 15, 16, 17, 18] rfl rfl q5_60 0 rfl cf_X11.1 ⟨Nat.le_of_ble_eq_true rfl, Nat.le_of_ble_eq_true rfl⟩ ⟨Nat.zero_le _, Nat.zero_le _⟩ hl.1 rfl rfl (Nat.le_of_ble_eq_true rfl) dX11_wordOf_61 (fun H locs hw => ?_)
          refine lv_if_eq (tgt := 71) hx hb dX11_wordOf_64 (by decide) (fun hc14 => ?_) (fun hc14 => ?_)
          · have hf := it_p hf hc14
            refine lv_aload_n hx hb dX11_wordOf_71 rfl (lv_at hl 0 rfl) ?_
            refine lv_ldc (v := (178470 : Int32)) hx hb hown (hts _ q5_68) dX11_wordOf_72 ?_
            refine lv_iconst (v := (4 : Int32)) hx hb dX11_wordOf_74 rfl ?_
            obtain ⟨r11, hc12, hf⟩ := bd1_e hf
            refine r_callVi0 C hw (c_X11_isWord (zm := zm) hc12) md_X11_isWord [0, 1, 2, 3, 4, 5, 6, 7, 8, 9, 10, 11, 12, 13, 14, 15, 16, 17, 18] rfl rfl q5_60 0 rfl cf_X11.1 ⟨Nat.le_of_ble_eq_true rfl, Nat.le_of_ble_eq_true rfl⟩ ⟨Nat.zero_le _, Nat.zero_le _⟩ hl.1 rfl rfl (Nat.le_of_ble_eq_true rfl) dX11_wordOf_75 (fun H locs hw => ?_)
            refine lv_if_eq (tgt := 85) hx hb dX11_wordOf_78 (by decide) (fun hc13 => ?_) (fun hc13 => ?_)
            · have hf := it_p hf hc13
              refine lv_iconst (v := (-1 : Int32)) hx hb dX11_wordOf_85 rfl ?_
              obtain rfl := so1 hf
              exact r_iret C hw rfl dX11_wordOf_86
            · have hf := it_n hf hc13
              refine lv_iconst (v := (5 : Int32)) hx hb dX11_wordOf_81 rfl ?_
              refine lv_goto (tgt := 86) hx hb dX11_wordOf_82 (by decide) ?_
              obtain rfl := so1 hf
              exact r_iret C hw rfl dX11_wordOf_86
          · have hf := it_n hf hc14
            refine lv_iconst (v := (4 : Int32)) hx hb dX11_wordOf_67 rfl ?_
            refine lv_goto (tgt := 86) hx hb dX11_wordOf_68 (by decide) ?_
            obtain rfl := so1 hf
            exact r_iret C hw rfl dX11_wordOf_86
        · have hf := it_n hf hc15
          refine lv_iconst (v := (3 : Int32)) hx hb dX11_wordOf_53 rfl ?_
          refine lv_goto (tgt := 86) hx hb dX11_wordOf_54 (by decide) ?_
          obtain rfl := so1 hf
          exact r_iret C hw rfl dX11_wordOf_86
      · have hf := it_n hf hc16
        refine lv_iconst (v := (2 : Int32)) hx hb dX11_wordOf_39 rfl ?_
        refine lv_goto (tgt := 86) hx hb dX11_wordOf_40 (by decide) ?_
        obtain rfl := so1 hf
        exact r_iret C hw rfl dX11_wordOf_86
    · have hf := it_n hf hc17
      refine lv_iconst (v := (1 : Int32)) hx hb dX11_wordOf_25 rfl ?_
      refine lv_goto (tgt := 86) hx hb dX11_wordOf_26 (by decide) ?_
      obtain rfl := so1 hf
      exact r_iret C hw rfl dX11_wordOf_86
  · have hf := it_n hf hc18
    refine lv_iconst (v := (0 : Int32)) hx hb dX11_wordOf_11 rfl ?_
    refine lv_goto (tgt := 86) hx hb dX11_wordOf_12 (by decide) ?_
    obtain rfl := so1 hf
    exact r_iret C hw rfl dX11_wordOf_86
set_option maxRecDepth 100000 in
set_option maxHeartbeats 4000000 in
theorem kX11_reads_51 {l : Launch} {g : evG} {p : Program} {e : Env} {s : State} {m : MethodId} {args : Array Value} {below : List Frame} {meth : Method} {c : Code} {A : Nat → Prop} {zm : Nat → Nat} {r : Int32} {om : Gp} (C : ctx g p s m args meth c RX11 cX11_reads 6 (some .boolean) A) {rec51 : Gp → Int32 → Int32 → Int32 → Int32 → Int32 → Option (Int32 × Gp)} (hr51 : ∀ (Tm : Gp) (x1 : Int32) (x2 : Int32) (x3 : Int32) (x4 : Int32) (x5 : Int32) (H : Heap) (locs : List Loc) (ls : Array Slot), rec51 Tm x1 x2 x3 x4 x5 = some (r, om) → wl g A s.heap (gcM g zm Tm) H locs → lv_has ls 6 [(0, .ref (zm 0)), (1, .int x1), (2, .int x2), (3, .int x3), (4, .int x4), (5, .int x5)] → W p l e (rmK 2 40) s m args below meth c H locs 0 0 (MQ below (Qi g A (gcM g zm om) r) args s 0 0 A) (F0 m 51 ls [])) {Tm : Gp} {x1 : Int32} {x2 : Int32} {x3 : Int32} {x4 : Int32} {x5 : Int32} {H : Heap} {locs : List Loc} {ls : Array Slot} (hf : fX11_reads_51 rec51 Tm x1 x2 x3 x4 x5 = some (r, om)) (hw : wl g A s.heap (gcM g zm Tm) H locs) (hl : lv_has ls 6 [(0, .ref (zm 0)), (1, .int x1), (2, .int x2), (3, .int x3), (4, .int x4), (5, .int x5)]) : W p l e (rmK 2 40) s m args below meth c H locs 0 0 (MQ below (Qi g A (gcM g zm om) r) args s 0 0 A) (F0 m 51 ls []) := by
  obtain ⟨hx, hb, hml, hown, hts, -⟩ := id C
  unfold fX11_reads_51 at hf
  refine lv_iload hx hb dX11_reads_51 (lv_at hl 5 rfl) ?_
  refine lv_aload_n hx hb dX11_reads_53 rfl (lv_at hl 0 rfl) ?_
  refine r_get C hw 0 rfl cf_X11 15 (by decide) q4_188 (v := .int (Tm 0 15)) rfl dX11_reads_54 ?_
  refine lv_icmp_ge (tgt := 84) hx hb dX11_reads_57 (by decide) (fun hc8 => ?_) (fun hc8 => ?_)
  · have hf := it_p hf hc8
    refine lv_iload hx hb dX11_reads_84 (lv_at hl 4 rfl) ?_
    refine lv_i2l hx hb dX11_reads_86 rfl ?_
    refine lv_iload_n hx hb dX11_reads_87 rfl (lv_at hl 2 rfl) ?_
    refine lv_i2l hx hb dX11_reads_88 rfl ?_
    refine lv_iload_n hx hb dX11_reads_89 rfl (lv_at hl 3 rfl) ?_
    refine lv_i2l hx hb dX11_reads_90 rfl ?_
    obtain ⟨r1, hc2, hf⟩ := bd1_e hf
    refine r_callSi0 C hw (c_X11_in hc2) md_X11_in [] rfl rfl q5_32 ⟨Nat.le_of_ble_eq_true rfl, Nat.le_of_ble_eq_true rfl⟩ ⟨Nat.zero_le _, Nat.zero_le _⟩ hl.1 rfl rfl (Nat.le_of_ble_eq_true rfl) dX11_reads_91 (fun H locs hw => ?_)
    refine lv_if_ne (tgt := 99) hx hb dX11_reads_94 (by decide) (fun hc6 => ?_) (fun hc6 => ?_)
    · have hf := it_n hf hc6
      refine lv_aload_n hx hb dX11_reads_99 rfl (lv_at hl 0 rfl) ?_
      refine r_get C hw 0 rfl cf_X11 4 (by decide) q4_177 (v := .ref (zm 4)) rfl dX11_reads_100 ?_
      refine lv_bipush (v := (6 : Int32)) hx hb dX11_reads_103 rfl ?_
      refine lv_aload_n hx hb dX11_reads_105 rfl (lv_at hl 0 rfl) ?_
      refine r_get C hw 0 rfl cf_X11 5 (by decide) q4_178 (v := .int (Tm 0 5)) rfl dX11_reads_106 ?_
      refine lv_imul hx hb dX11_reads_109 ?_
      refine lv_iconst (v := (1 : Int32)) hx hb dX11_reads_110 rfl ?_
      refine lv_iadd hx hb dX11_reads_111 ?_
      refine lv_iload_n hx hb dX11_reads_112 rfl (lv_at hl 1 rfl) ?_
      refine lv_iadd hx hb dX11_reads_113 ?_
      refine lv_iload hx hb dX11_reads_114 (lv_at hl 4 rfl) ?_
      obtain ⟨hi3, hf⟩ := it_g hf
      refine r_iast C hw 4 (f := (Tm 4)) rfl hi3 (ws' := (gcM g zm (u2 Tm 4 ((((6 : Int32) * (Tm 0 5)) + (1 : Int32)) + x1).toNatClampNeg x4))) gcM_a4 dX11_reads_116 (fun H locs hw => ?_)
      refine lv_aload_n hx hb dX11_reads_117 rfl (lv_at hl 0 rfl) ?_
      obtain ⟨Tm_4, hc5, hf⟩ := bd1_e hf
      refine r_callVvF C hw (c_X11_token (zm := zm) hc5) md_X11_token [0, 1, 2, 3, 4, 5, 6, 7, 8, 9, 10, 11, 12, 13, 14, 15, 16, 17, 18] rfl rfl rfl rfl q5_44 0 rfl cf_X11.1 ⟨Nat.le_of_ble_eq_true rfl, Nat.le_of_ble_eq_true rfl⟩ ⟨Nat.zero_le _, Nat.zero_le _⟩ hl.1 rfl rfl (Nat.le_of_ble_eq_true rfl) dX11_reads_118 (fun H locs hw => ?_)
      refine lv_iconst (v := (1 : Int32)) hx hb dX11_reads_121 rfl ?_
      obtain ⟨rfl, rfl⟩ := so2 hf
      exact r_zret C hw rfl rfl dX11_reads_122
    · have hf := it_p hf hc6
      refine lv_iconst (v := (0 : Int32)) hx hb dX11_reads_97 rfl ?_
      obtain ⟨rfl, rfl⟩ := so2 hf
      exact r_zret C hw rfl rfl dX11_reads_98
  · have hf := it_n hf hc8
    refine lv_bipush (v := (10 : Int32)) hx hb dX11_reads_60 rfl ?_
    refine lv_iload hx hb dX11_reads_62 (lv_at hl 4 rfl) ?_
    refine lv_imul hx hb dX11_reads_64 ?_
    refine lv_aload_n hx hb dX11_reads_65 rfl (lv_at hl 0 rfl) ?_
    refine r_get C hw 0 rfl cf_X11 2 (by decide) q4_175 (v := .ref (zm 3)) rfl dX11_reads_66 ?_
    refine lv_iload hx hb dX11_reads_69 (lv_at hl 5 rfl) ?_
    obtain ⟨hi7, hf⟩ := it_g hf
    refine r_iald C hw 3 (f := (Tm 3)) rfl hi7 dX11_reads_71 ?_
    refine lv_iadd hx hb dX11_reads_72 ?_
    refine lv_bipush (v := (48 : Int32)) hx hb dX11_reads_73 rfl ?_
    refine lv_isub hx hb dX11_reads_75 ?_
    refine lv_istore (lv' := [(4, .int ((((10 : Int32) * x4) + (Tm 3 x5.toNatClampNeg)) - (48 : Int32))), (0, .ref (zm 0)), (1, .int x1), (2, .int x2), (3, .int x3), (5, .int x5)]) hx hb dX11_reads_76 hl (by decide) rfl (fun ls hl => ?_)
    refine lv_iinc (v := (x5 + (1 : Int32))) (lv' := [(5, .int (x5 + (1 : Int32))), (4, .int ((((10 : Int32) * x4) + (Tm 3 x5.toNatClampNeg)) - (48 : Int32))), (0, .ref (zm 0)), (1, .int x1), (2, .int x2), (3, .int x3)]) hx hb dX11_reads_78 hl (k := 5) rfl rfl (by decide) rfl (fun ls hl => ?_)
    refine lv_goto (tgt := 51) hx hb dX11_reads_81 (by decide) ?_
    exact hr51 _ _ _ _ _ _ _ _ _ hf hw (lv_sub hl [2, 3, 4, 5, 1, 0] rfl)
set_option maxRecDepth 100000 in
set_option maxHeartbeats 4000000 in
theorem klX11_reads_51 {l : Launch} {g : evG} {p : Program} {e : Env} {s : State} {m : MethodId} {args : Array Value} {below : List Frame} {meth : Method} {c : Code} {A : Nat → Prop} {zm : Nat → Nat} {r : Int32} {om : Gp} (C : ctx g p s m args meth c RX11 cX11_reads 6 (some .boolean) A) : ∀ (n : Nat) (Tm : Gp) (x1 : Int32) (x2 : Int32) (x3 : Int32) (x4 : Int32) (x5 : Int32) (H : Heap) (locs : List Loc) (ls : Array Slot), lX11_reads_51 n Tm x1 x2 x3 x4 x5 = some (r, om) → wl g A s.heap (gcM g zm Tm) H locs → lv_has ls 6 [(0, .ref (zm 0)), (1, .int x1), (2, .int x2), (3, .int x3), (4, .int x4), (5, .int x5)] → W p l e (rmK 2 40) s m args below meth c H locs 0 0 (MQ below (Qi g A (gcM g zm om) r) args s 0 0 A) (F0 m 51 ls []) := by
  intro n
  induction n with
  | zero => intro _ _ _ _ _ _ _ _ _ hf; exact no_f hf
  | succ n ih => intro _ _ _ _ _ _ _ _ _ hf hw hl; exact kX11_reads_51 (zm := zm) (r := r) (om := om) C (rec51 := lX11_reads_51 n) ih hf hw hl
set_option maxRecDepth 100000 in
set_option maxHeartbeats 4000000 in
theorem c_X11_reads {l : Launch} {g : evG} {zm : Nat → Nat} {r : Int32} {om : Gp}  {Tm : Gp} {x1 : Int32} {x2 : Int32} {x3 : Int32} (hf : fX11_reads Tm x1 x2 x3 = some (r, om)) : CTi l g yX11_reads (Cond.code yX11_reads cX11_reads 6 (some .boolean)) 2 40 [.ref (zm 0), .int x1, .int x2, .int x3] (gcM g zm Tm) (gcM g zm om) r := by
  refine ct_i rfl (Nat.le_of_ble_eq_true rfl) ?_
  intro p e s m args below meth c A ls C hw hl
  have C : ctx g p s m args meth c RX11 cX11_reads 6 (some .boolean) A := C
  have hl : lv_has ls 6 [(0, .ref (zm 0)), (1, .int x1), (2, .int x2), (3, .int x3)] := hl
  obtain ⟨hx, hb, hml, hown, hts, -⟩ := id C
  unfold fX11_reads at hf
  refine lv_aload_n hx hb dX11_reads_0 rfl (lv_at hl 0 rfl) ?_
  refine r_get C hw 0 rfl cf_X11 14 (by decide) q4_187 (v := .int (Tm 0 14)) rfl dX11_reads_1 ?_
  refine lv_aload_n hx hb dX11_reads_4 rfl (lv_at hl 0 rfl) ?_
  refine r_get C hw 0 rfl cf_X11 3 (by decide) q4_176 (v := .int (Tm 0 3)) rfl dX11_reads_5 ?_
  refine lv_icmp_eq (tgt := 40) hx hb dX11_reads_8 (by decide) (fun hc6 => ?_) (fun hc6 => ?_)
  · have hf := it_p hf hc6
    refine lv_iconst (v := (0 : Int32)) hx hb dX11_reads_40 rfl ?_
    obtain ⟨rfl, rfl⟩ := so2 hf
    exact r_zret C hw rfl rfl dX11_reads_41
  · have hf := it_n hf hc6
    refine lv_aload_n hx hb dX11_reads_11 rfl (lv_at hl 0 rfl) ?_
    refine r_get C hw 0 rfl cf_X11 2 (by decide) q4_175 (v := .ref (zm 3)) rfl dX11_reads_12 ?_
    refine lv_aload_n hx hb dX11_reads_15 rfl (lv_at hl 0 rfl) ?_
    refine r_get C hw 0 rfl cf_X11 14 (by decide) q4_187 (v := .int (Tm 0 14)) rfl dX11_reads_16 ?_
    obtain ⟨hi1, hf⟩ := it_g hf
    refine r_iald C hw 3 (f := (Tm 3)) rfl hi1 dX11_reads_19 ?_
    obtain ⟨r2, hc3, hf⟩ := bd1_e hf
    refine r_callSi0 C hw (c_X11_sort hc3) md_X11_sort [] rfl rfl q5_48 ⟨Nat.le_of_ble_eq_true rfl, Nat.le_of_ble_eq_true rfl⟩ ⟨Nat.zero_le _, Nat.zero_le _⟩ hl.1 rfl rfl (Nat.le_of_ble_eq_true rfl) dX11_reads_20 (fun H locs hw => ?_)
    refine lv_iconst (v := (2 : Int32)) hx hb dX11_reads_23 rfl ?_
    refine lv_icmp_ne (tgt := 40) hx hb dX11_reads_24 (by decide) (fun hc5 => ?_) (fun hc5 => ?_)
    · have hf := it_n hf hc5
      refine lv_iconst (v := (0 : Int32)) hx hb dX11_reads_40 rfl ?_
      obtain ⟨rfl, rfl⟩ := so2 hf
      exact r_zret C hw rfl rfl dX11_reads_41
    · have hf := it_p hf hc5
      refine lv_aload_n hx hb dX11_reads_27 rfl (lv_at hl 0 rfl) ?_
      refine r_get C hw 0 rfl cf_X11 15 (by decide) q4_188 (v := .int (Tm 0 15)) rfl dX11_reads_28 ?_
      refine lv_aload_n hx hb dX11_reads_31 rfl (lv_at hl 0 rfl) ?_
      refine r_get C hw 0 rfl cf_X11 14 (by decide) q4_187 (v := .int (Tm 0 14)) rfl dX11_reads_32 ?_
      refine lv_isub hx hb dX11_reads_35 ?_
      refine lv_iconst (v := (2 : Int32)) hx hb dX11_reads_36 rfl ?_
      refine lv_icmp_le (tgt := 42) hx hb dX11_reads_37 (by decide) (fun hc4 => ?_) (fun hc4 => ?_)
      · have hf := it_p hf hc4
        refine lv_iconst (v := (0 : Int32)) hx hb dX11_reads_42 rfl ?_
        refine lv_istore (lv' := [(4, .int (0 : Int32)), (0, .ref (zm 0)), (1, .int x1), (2, .int x2), (3, .int x3)]) hx hb dX11_reads_43 hl (by decide) rfl (fun ls hl => ?_)
        refine lv_aload_n hx hb dX11_reads_45 rfl (lv_at hl 1 rfl) ?_
        refine r_get C hw 0 rfl cf_X11 14 (by decide) q4_187 (v := .int (Tm 0 14)) rfl dX11_reads_46 ?_
        refine lv_istore (lv' := [(5, .int (Tm 0 14)), (4, .int (0 : Int32)), (0, .ref (zm 0)), (1, .int x1), (2, .int x2), (3, .int x3)]) hx hb dX11_reads_49 hl (by decide) rfl (fun ls hl => ?_)
        exact klX11_reads_51 (zm := zm) (r := r) (om := om) C fu _ _ _ _ _ _ _ _ _ hf hw (lv_sub hl [2, 3, 4, 5, 1, 0] rfl)
      · have hf := it_n hf hc4
        refine lv_iconst (v := (0 : Int32)) hx hb dX11_reads_40 rfl ?_
        obtain ⟨rfl, rfl⟩ := so2 hf
        exact r_zret C hw rfl rfl dX11_reads_41
set_option maxRecDepth 100000 in
set_option maxHeartbeats 4000000 in
theorem kX11_readsBread_48 {l : Launch} {g : evG} {p : Program} {e : Env} {s : State} {m : MethodId} {args : Array Value} {below : List Frame} {meth : Method} {c : Code} {A : Nat → Prop} {zm : Nat → Nat} {r : Int32} {om : Gp} (C : ctx g p s m args meth c RX11 cX11_readsBread 2 (some .boolean) A) {Tm : Gp} {x1 : Int32} {H : Heap} {locs : List Loc} {ls : Array Slot} (hf : fX11_readsBread_48 Tm x1 = some (r, om)) (hw : wl g A s.heap (gcM g zm Tm) H locs) (hl : lv_has ls 2 [(0, .ref (zm 0)), (1, .int x1)]) : W p l e (rmK 3 65) s m args below meth c H locs 0 0 (MQ below (Qi g A (gcM g zm om) r) args s 0 0 A) (F0 m 48 ls []) := by
  obtain ⟨hx, hb, hml, hown, hts, -⟩ := id C
  unfold fX11_readsBread_48 at hf
  refine lv_aload_n hx hb dX11_readsBread_48 rfl (lv_at hl 0 rfl) ?_
  refine lv_iload_n hx hb dX11_readsBread_49 rfl (lv_at hl 1 rfl) ?_
  refine lv_iconst (v := (0 : Int32)) hx hb dX11_readsBread_50 rfl ?_
  refine lv_bipush (v := (20 : Int32)) hx hb dX11_readsBread_51 rfl ?_
  obtain ⟨r1, Tm_2, hc3, hf⟩ := bd2_e hf
  refine r_callViF C hw (c_X11_reads (zm := zm) hc3) md_X11_reads [0, 1, 2, 3, 4, 5, 6, 7, 8, 9, 10, 11, 12, 13, 14, 15, 16, 17, 18] rfl rfl rfl rfl q5_73 0 rfl cf_X11.1 ⟨Nat.le_of_ble_eq_true rfl, Nat.le_of_ble_eq_true rfl⟩ ⟨Nat.zero_le _, Nat.zero_le _⟩ hl.1 rfl rfl (Nat.le_of_ble_eq_true rfl) dX11_readsBread_53 (fun H locs hw => ?_)
  obtain ⟨hn, hf⟩ := it_g hf
  obtain ⟨rfl, rfl⟩ := so2 hf
  exact r_zret C hw rfl hn dX11_readsBread_56
set_option maxRecDepth 100000 in
set_option maxHeartbeats 4000000 in
theorem c_X11_readsBread {l : Launch} {g : evG} {zm : Nat → Nat} {r : Int32} {om : Gp}  {Tm : Gp} {x1 : Int32} (hf : fX11_readsBread Tm x1 = some (r, om)) : CTi l g yX11_readsBread (Cond.code yX11_readsBread cX11_readsBread 2 (some .boolean)) 3 65 [.ref (zm 0), .int x1] (gcM g zm Tm) (gcM g zm om) r := by
  refine ct_i rfl (Nat.le_of_ble_eq_true rfl) ?_
  intro p e s m args below meth c A ls C hw hl
  have C : ctx g p s m args meth c RX11 cX11_readsBread 2 (some .boolean) A := C
  have hl : lv_has ls 2 [(0, .ref (zm 0)), (1, .int x1)] := hl
  obtain ⟨hx, hb, hml, hown, hts, -⟩ := id C
  unfold fX11_readsBread at hf
  refine lv_aload_n hx hb dX11_readsBread_0 rfl (lv_at hl 0 rfl) ?_
  refine r_get C hw 0 rfl cf_X11 14 (by decide) q4_187 (v := .int (Tm 0 14)) rfl dX11_readsBread_1 ?_
  refine lv_aload_n hx hb dX11_readsBread_4 rfl (lv_at hl 0 rfl) ?_
  refine r_get C hw 0 rfl cf_X11 3 (by decide) q4_176 (v := .int (Tm 0 3)) rfl dX11_readsBread_5 ?_
  refine lv_icmp_ge (tgt := 48) hx hb dX11_readsBread_8 (by decide) (fun hc6 => ?_) (fun hc6 => ?_)
  · have hf := it_p hf hc6
    exact kX11_readsBread_48 (zm := zm) (r := r) (om := om) C hf hw (lv_sub hl [0, 1] rfl)
  · have hf := it_n hf hc6
    refine lv_aload_n hx hb dX11_readsBread_11 rfl (lv_at hl 0 rfl) ?_
    refine r_get C hw 0 rfl cf_X11 2 (by decide) q4_175 (v := .ref (zm 3)) rfl dX11_readsBread_12 ?_
    refine lv_aload_n hx hb dX11_readsBread_15 rfl (lv_at hl 0 rfl) ?_
    refine r_get C hw 0 rfl cf_X11 14 (by decide) q4_187 (v := .int (Tm 0 14)) rfl dX11_readsBread_16 ?_
    obtain ⟨hi1, hf⟩ := it_g hf
    refine r_iald C hw 3 (f := (Tm 3)) rfl hi1 dX11_readsBread_19 ?_
    refine lv_bipush (v := (45 : Int32)) hx hb dX11_readsBread_20 rfl ?_
    refine lv_icmp_ne (tgt := 48) hx hb dX11_readsBread_22 (by decide) (fun hc5 => ?_) (fun hc5 => ?_)
    · have hf := it_n hf hc5
      exact kX11_readsBread_48 (zm := zm) (r := r) (om := om) C hf hw (lv_sub hl [0, 1] rfl)
    · have hf := it_p hf hc5
      refine lv_aload_n hx hb dX11_readsBread_25 rfl (lv_at hl 0 rfl) ?_
      refine r_get C hw 0 rfl cf_X11 4 (by decide) q4_177 (v := .ref (zm 4)) rfl dX11_readsBread_26 ?_
      refine lv_bipush (v := (6 : Int32)) hx hb dX11_readsBread_29 rfl ?_
      refine lv_aload_n hx hb dX11_readsBread_31 rfl (lv_at hl 0 rfl) ?_
      refine r_get C hw 0 rfl cf_X11 5 (by decide) q4_178 (v := .int (Tm 0 5)) rfl dX11_readsBread_32 ?_
      refine lv_imul hx hb dX11_readsBread_35 ?_
      refine lv_iconst (v := (1 : Int32)) hx hb dX11_readsBread_36 rfl ?_
      refine lv_iadd hx hb dX11_readsBread_37 ?_
      refine lv_iload_n hx hb dX11_readsBread_38 rfl (lv_at hl 1 rfl) ?_
      refine lv_iadd hx hb dX11_readsBread_39 ?_
      refine lv_iconst (v := (-1 : Int32)) hx hb dX11_readsBread_40 rfl ?_
      obtain ⟨hi2, hf⟩ := it_g hf
      refine r_iast C hw 4 (f := (Tm 4)) rfl hi2 (ws' := (gcM g zm (u2 Tm 4 ((((6 : Int32) * (Tm 0 5)) + (1 : Int32)) + x1).toNatClampNeg (-1 : Int32)))) gcM_a4 dX11_readsBread_41 (fun H locs hw => ?_)
      refine lv_aload_n hx hb dX11_readsBread_42 rfl (lv_at hl 0 rfl) ?_
      obtain ⟨Tm_3, hc4, hf⟩ := bd1_e hf
      refine r_callVvF C hw (c_X11_token (zm := zm) hc4) md_X11_token [0, 1, 2, 3, 4, 5, 6, 7, 8, 9, 10, 11, 12, 13, 14, 15, 16, 17, 18] rfl rfl rfl rfl q5_44 0 rfl cf_X11.1 ⟨Nat.le_of_ble_eq_true rfl, Nat.le_of_ble_eq_true rfl⟩ ⟨Nat.zero_le _, Nat.zero_le _⟩ hl.1 rfl rfl (Nat.le_of_ble_eq_true rfl) dX11_readsBread_43 (fun H locs hw => ?_)
      refine lv_iconst (v := (1 : Int32)) hx hb dX11_readsBread_46 rfl ?_
      obtain ⟨rfl, rfl⟩ := so2 hf
      exact r_zret C hw rfl rfl dX11_readsBread_47
set_option maxRecDepth 100000 in
set_option maxHeartbeats 4000000 in
theorem c_X11_readsWork {l : Launch} {g : evG} {zm : Nat → Nat} {r : Int32} {om : Gp}  {Tm : Gp} (hf : fX11_readsWork Tm = some (r, om)) : CTi l g yX11_readsWork (Cond.code yX11_readsWork cX11_readsWork 4 (some .boolean)) 3 65 [.ref (zm 0)] (gcM g zm Tm) (gcM g zm om) r := by
  refine ct_i rfl (Nat.le_of_ble_eq_true rfl) ?_
  intro p e s m args below meth c A ls C hw hl
  have C : ctx g p s m args meth c RX11 cX11_readsWork 4 (some .boolean) A := C
  have hl : lv_has ls 4 [(0, .ref (zm 0))] := hl
  obtain ⟨hx, hb, hml, hown, hts, -⟩ := id C
  unfold fX11_readsWork at hf
  refine lv_bipush (v := (6 : Int32)) hx hb dX11_readsWork_0 rfl ?_
  refine lv_aload_n hx hb dX11_readsWork_2 rfl (lv_at hl 0 rfl) ?_
  refine r_get C hw 0 rfl cf_X11 5 (by decide) q4_178 (v := .int (Tm 0 5)) rfl dX11_readsWork_3 ?_
  refine lv_imul hx hb dX11_readsWork_6 ?_
  refine lv_iconst (v := (1 : Int32)) hx hb dX11_readsWork_7 rfl ?_
  refine lv_iadd hx hb dX11_readsWork_8 ?_
  refine lv_istore_n (lv' := [(1, .int (((6 : Int32) * (Tm 0 5)) + (1 : Int32))), (0, .ref (zm 0))]) hx hb dX11_readsWork_9 rfl hl (by decide) rfl (fun ls hl => ?_)
  refine lv_aload_n hx hb dX11_readsWork_10 rfl (lv_at hl 1 rfl) ?_
  refine r_get C hw 0 rfl cf_X11 14 (by decide) q4_187 (v := .int (Tm 0 14)) rfl dX11_readsWork_11 ?_
  refine lv_istore_n (lv' := [(2, .int (Tm 0 14)), (1, .int (((6 : Int32) * (Tm 0 5)) + (1 : Int32))), (0, .ref (zm 0))]) hx hb dX11_readsWork_14 rfl hl (by decide) rfl (fun ls hl => ?_)
  refine lv_aload_n hx hb dX11_readsWork_15 rfl (lv_at hl 2 rfl) ?_
  refine lv_iconst (v := (4 : Int32)) hx hb dX11_readsWork_16 rfl ?_
  refine lv_iconst (v := (0 : Int32)) hx hb dX11_readsWork_17 rfl ?_
  refine lv_iconst (v := (5 : Int32)) hx hb dX11_readsWork_18 rfl ?_
  obtain ⟨r1, Tm_2, hc3, hf⟩ := bd2_e hf
  refine r_callViF C hw (c_X11_reads (zm := zm) hc3) md_X11_reads [0, 1, 2, 3, 4, 5, 6, 7, 8, 9, 10, 11, 12, 13, 14, 15, 16, 17, 18] rfl rfl rfl rfl q5_73 0 rfl cf_X11.1 ⟨Nat.le_of_ble_eq_true rfl, Nat.le_of_ble_eq_true rfl⟩ ⟨Nat.zero_le _, Nat.zero_le _⟩ hl.1 rfl rfl (Nat.le_of_ble_eq_true rfl) dX11_readsWork_19 (fun H locs hw => ?_)
  refine lv_if_ne (tgt := 27) hx hb dX11_readsWork_22 (by decide) (fun hc9 => ?_) (fun hc9 => ?_)
  · have hf := it_n hf hc9
    refine lv_aload_n hx hb dX11_readsWork_27 rfl (lv_at hl 2 rfl) ?_
    refine r_get C hw 0 rfl cf_X11 4 (by decide) q4_177 (v := .ref (zm 4)) rfl dX11_readsWork_28 ?_
    refine lv_iload_n hx hb dX11_readsWork_31 rfl (lv_at hl 1 rfl) ?_
    refine lv_iconst (v := (4 : Int32)) hx hb dX11_readsWork_32 rfl ?_
    refine lv_iadd hx hb dX11_readsWork_33 ?_
    obtain ⟨hi4, hf⟩ := it_g hf
    refine r_iald C hw 4 (f := (Tm_2 4)) rfl hi4 dX11_readsWork_34 ?_
    refine lv_istore_n (lv' := [(3, .int (Tm_2 4 ((((6 : Int32) * (Tm 0 5)) + (1 : Int32)) + (4 : Int32)).toNatClampNeg)), (2, .int (Tm 0 14)), (1, .int (((6 : Int32) * (Tm 0 5)) + (1 : Int32))), (0, .ref (zm 0))]) hx hb dX11_readsWork_35 rfl hl (by decide) rfl (fun ls hl => ?_)
    refine lv_iload_n hx hb dX11_readsWork_36 rfl (lv_at hl 0 rfl) ?_
    refine lv_iconst (v := (5 : Int32)) hx hb dX11_readsWork_37 rfl ?_
    refine lv_icmp_ge (tgt := 68) hx hb dX11_readsWork_38 (by decide) (fun hc8 => ?_) (fun hc8 => ?_)
    · have hf := it_p hf hc8
      refine lv_iconst (v := (1 : Int32)) hx hb dX11_readsWork_68 rfl ?_
      obtain ⟨rfl, rfl⟩ := so2 hf
      exact r_zret C hw rfl rfl dX11_readsWork_69
    · have hf := it_n hf hc8
      refine lv_aload_n hx hb dX11_readsWork_41 rfl (lv_at hl 3 rfl) ?_
      refine r_get C hw 0 rfl cf_X11 18 (by decide) q4_191 (v := .ref (zm 8)) rfl dX11_readsWork_42 ?_
      refine lv_iconst (v := (2 : Int32)) hx hb dX11_readsWork_45 rfl ?_
      refine lv_iload_n hx hb dX11_readsWork_46 rfl (lv_at hl 0 rfl) ?_
      refine lv_imul hx hb dX11_readsWork_47 ?_
      refine lv_aload_n hx hb dX11_readsWork_48 rfl (lv_at hl 3 rfl) ?_
      refine r_get C hw 0 rfl cf_X11 4 (by decide) q4_177 (v := .ref (zm 4)) rfl dX11_readsWork_49 ?_
      refine lv_iload_n hx hb dX11_readsWork_52 rfl (lv_at hl 2 rfl) ?_
      refine lv_iconst (v := (1 : Int32)) hx hb dX11_readsWork_53 rfl ?_
      refine lv_iadd hx hb dX11_readsWork_54 ?_
      obtain ⟨hi5, hf⟩ := it_g hf
      refine r_iald C hw 4 (f := (Tm_2 4)) rfl hi5 dX11_readsWork_55 ?_
      refine lv_iadd hx hb dX11_readsWork_56 ?_
      obtain ⟨hi6, hf⟩ := it_g hf
      refine r_zald C hw 8 (f := (Tm_2 8)) rfl hi6 dX11_readsWork_57 ?_
      refine lv_if_ne (tgt := 68) hx hb dX11_readsWork_58 (by decide) (fun hc7 => ?_) (fun hc7 => ?_)
      · have hf := it_n hf hc7
        refine lv_iconst (v := (1 : Int32)) hx hb dX11_readsWork_68 rfl ?_
        obtain ⟨rfl, rfl⟩ := so2 hf
        exact r_zret C hw rfl rfl dX11_readsWork_69
      · have hf := it_p hf hc7
        refine lv_aload_n hx hb dX11_readsWork_61 rfl (lv_at hl 3 rfl) ?_
        refine lv_iload_n hx hb dX11_readsWork_62 rfl (lv_at hl 1 rfl) ?_
        refine r_puti C hw 0 rfl cf_X11 14 (by decide) q4_187 rfl rfl (Nat.le_of_ble_eq_true rfl) (ws' := (gcM g zm (u2 Tm_2 0 14 (Tm 0 14)))) gcM_p14 dX11_readsWork_63 (fun H locs hw => ?_)
        refine lv_iconst (v := (0 : Int32)) hx hb dX11_readsWork_66 rfl ?_
        obtain ⟨rfl, rfl⟩ := so2 hf
        exact r_zret C hw rfl rfl dX11_readsWork_67
  · have hf := it_p hf hc9
    refine lv_iconst (v := (0 : Int32)) hx hb dX11_readsWork_25 rfl ?_
    obtain ⟨rfl, rfl⟩ := so2 hf
    exact r_zret C hw rfl rfl dX11_readsWork_26
