set_option maxRecDepth 100000 in
set_option maxHeartbeats 4000000 in
theorem c_X5_forget {l : Launch} {g : evG} {zp : Nat → Nat} {zt : Nat → Nat} {op : Gp}  {Tp : Gp} (hf : fX5_forget Tp = some (op)) : CTv l g yX5_forget (Cond.code yX5_forget cX5_forget 1 none) 0 0 [.ref (zp 0)] (gcP g zp zt Tp) (gcP g zp zt op) := by
  refine ct_v rfl (Nat.le_of_ble_eq_true rfl) ?_
  intro p e s m args below meth c A ls C hw hl
  have C : ctx g p s m args meth c RX5 cX5_forget 1 none A := C
  have hl : lv_has ls 1 [(0, .ref (zp 0))] := hl
  obtain ⟨hx, hb, hml, hown, hts, -⟩ := id C
  unfold fX5_forget at hf
  refine lv_aload_n hx hb dX5_forget_0 rfl (lv_at hl 0 rfl) ?_
  refine r_get C hw 0 rfl cf_X5 3 (by decide) q1_178 (v := .ref (zp 3)) rfl dX5_forget_1 ?_
  refine lv_iconst (v := (0 : Int32)) hx hb dX5_forget_4 rfl ?_
  refine lv_iconst (v := (0 : Int32)) hx hb dX5_forget_5 rfl ?_
  refine r_zast C hw 3 (f := (Tp 3)) rfl (by decide) (ws' := (gcP g zp zt (u2 Tp 3 (0 : Int32).toNatClampNeg (vp_nar .boolean (0 : Int32))))) gcP_a3 dX5_forget_6 (fun H locs hw => ?_)
  refine lv_aload_n hx hb dX5_forget_7 rfl (lv_at hl 0 rfl) ?_
  refine r_get C hw 0 rfl cf_X5 3 (by decide) q1_178 (v := .ref (zp 3)) rfl dX5_forget_8 ?_
  refine lv_iconst (v := (1 : Int32)) hx hb dX5_forget_11 rfl ?_
  refine lv_iconst (v := (0 : Int32)) hx hb dX5_forget_12 rfl ?_
  refine r_zast C hw 3 (f := ((u2 Tp 3 (0 : Int32).toNatClampNeg (vp_nar .boolean (0 : Int32))) 3)) rfl (by decide) (ws' := (gcP g zp zt (u2 (u2 Tp 3 (0 : Int32).toNatClampNeg (vp_nar .boolean (0 : Int32))) 3 (1 : Int32).toNatClampNeg (vp_nar .boolean (0 : Int32))))) gcP_a3 dX5_forget_13 (fun H locs hw => ?_)
  obtain rfl := so1 hf
  exact r_vret C hw dX5_forget_14
set_option maxRecDepth 100000 in
set_option maxHeartbeats 4000000 in
theorem c_X5_bestFrom {l : Launch} {g : evG} {zp : Nat → Nat} {zt : Nat → Nat} {r : Int32}  {Tp : Gp} {x1 : Int32} {x2 : Int32} (hf : fX5_bestFrom Tp x1 x2 = some (r)) : CTi l g yX5_bestFrom (Cond.code yX5_bestFrom cX5_bestFrom 4 (some .int)) 1 22 [.ref (zp 0), .int x1, .int x2] (gcP g zp zt Tp) (gcP g zp zt Tp) r := by
  refine ct_i rfl (Nat.le_of_ble_eq_true rfl) ?_
  intro p e s m args below meth c A ls C hw hl
  have C : ctx g p s m args meth c RX5 cX5_bestFrom 4 (some .int) A := C
  have hl : lv_has ls 4 [(0, .ref (zp 0)), (1, .int x1), (2, .int x2)] := hl
  obtain ⟨hx, hb, hml, hown, hts, -⟩ := id C
  unfold fX5_bestFrom at hf
  refine lv_iload_n hx hb dX5_bestFrom_0 rfl (lv_at hl 1 rfl) ?_
  refine lv_iload_n hx hb dX5_bestFrom_1 rfl (lv_at hl 2 rfl) ?_
  refine lv_iconst (v := (0 : Int32)) hx hb dX5_bestFrom_2 rfl ?_
  refine r_mmax C hl.1 q3_205 q3_206 q1_18 q3_207 (Nat.le_of_ble_eq_true rfl) (Nat.le_of_ble_eq_true rfl) (Nat.zero_le _) (Nat.zero_le _) dX5_bestFrom_3 ?_
  refine lv_iadd hx hb dX5_bestFrom_6 ?_
  refine lv_istore_n (lv' := [(3, .int (x1 + (imx x2 (0 : Int32)))), (0, .ref (zp 0)), (1, .int x1), (2, .int x2)]) hx hb dX5_bestFrom_7 rfl hl (by decide) rfl (fun ls hl => ?_)
  refine lv_iload_n hx hb dX5_bestFrom_8 rfl (lv_at hl 0 rfl) ?_
  refine lv_iconst (v := (0 : Int32)) hx hb dX5_bestFrom_9 rfl ?_
  refine lv_aload_n hx hb dX5_bestFrom_10 rfl (lv_at hl 1 rfl) ?_
  refine r_get C hw 0 rfl cf_X5 1 (by decide) q1_176 (v := .ref (zp 1)) rfl dX5_bestFrom_11 ?_
  refine r_alen C hw 1 0 rfl rfl (v := (10050 : Int32)) rfl dX5_bestFrom_14 ?_
  refine lv_iconst (v := (1 : Int32)) hx hb dX5_bestFrom_15 rfl ?_
  refine lv_isub hx hb dX5_bestFrom_16 ?_
  obtain ⟨r1, hc2, hf⟩ := bd1_e hf
  refine r_callNi0 C hw (c_X10_within hc2) md_X10_within [] rfl rfl nq_36 ⟨Nat.le_of_ble_eq_true rfl, Nat.le_of_ble_eq_true rfl⟩ ⟨Nat.zero_le _, Nat.zero_le _⟩ hl.1 rfl rfl (Nat.le_of_ble_eq_true rfl) dX5_bestFrom_17 (fun H locs hw => ?_)
  refine lv_if_eq (tgt := 32) hx hb dX5_bestFrom_20 (by decide) (fun hc4 => ?_) (fun hc4 => ?_)
  · have hf := it_p hf hc4
    refine lv_iconst (v := (-1 : Int32)) hx hb dX5_bestFrom_32 rfl ?_
    obtain rfl := so1 hf
    exact r_iret C hw rfl dX5_bestFrom_33
  · have hf := it_n hf hc4
    refine lv_aload_n hx hb dX5_bestFrom_23 rfl (lv_at hl 1 rfl) ?_
    refine r_get C hw 0 rfl cf_X5 1 (by decide) q1_176 (v := .ref (zp 1)) rfl dX5_bestFrom_24 ?_
    refine lv_iload_n hx hb dX5_bestFrom_27 rfl (lv_at hl 0 rfl) ?_
    obtain ⟨hi3, hf⟩ := it_g hf
    refine r_iald C hw 1 (f := (Tp 1)) rfl hi3 dX5_bestFrom_28 ?_
    refine lv_goto (tgt := 33) hx hb dX5_bestFrom_29 (by decide) ?_
    obtain rfl := so1 hf
    exact r_iret C hw rfl dX5_bestFrom_33
set_option maxRecDepth 100000 in
set_option maxHeartbeats 4000000 in
theorem kX5_clearRow_2 {l : Launch} {g : evG} {p : Program} {e : Env} {s : State} {m : MethodId} {args : Array Value} {below : List Frame} {meth : Method} {c : Code} {A : Nat → Prop} {zp : Nat → Nat} {zt : Nat → Nat} {op : Gp} (C : ctx g p s m args meth c RX5 cX5_clearRow 4 none A) {rec2 : Gp → Int32 → Int32 → Option (Gp)} (hr2 : ∀ (Tp : Gp) (x1 : Int32) (x2 : Int32) (H : Heap) (locs : List Loc) (ls : Array Slot), rec2 Tp x1 x2 = some (op) → wl g A s.heap (gcP g zp zt Tp) H locs → lv_has ls 4 [(0, .ref (zp 0)), (1, .int x1), (2, .int x2)] → W p l e (rmK 1 22) s m args below meth c H locs 0 0 (MQ below (Qv g A (gcP g zp zt op)) args s 0 0 A) (F0 m 2 ls [])) {Tp : Gp} {x1 : Int32} {x2 : Int32} {H : Heap} {locs : List Loc} {ls : Array Slot} (hf : fX5_clearRow_2 rec2 Tp x1 x2 = some (op)) (hw : wl g A s.heap (gcP g zp zt Tp) H locs) (hl : lv_has ls 4 [(0, .ref (zp 0)), (1, .int x1), (2, .int x2)]) : W p l e (rmK 1 22) s m args below meth c H locs 0 0 (MQ below (Qv g A (gcP g zp zt op)) args s 0 0 A) (F0 m 2 ls []) := by
  obtain ⟨hx, hb, hml, hown, hts, -⟩ := id C
  unfold fX5_clearRow_2 at hf
  refine lv_iload_n hx hb dX5_clearRow_2 rfl (lv_at hl 2 rfl) ?_
  refine lv_sipush (v := (201 : Int32)) hx hb dX5_clearRow_3 rfl ?_
  refine lv_icmp_ge (tgt := 41) hx hb dX5_clearRow_6 (by decide) (fun hc5 => ?_) (fun hc5 => ?_)
  · have hf := it_p hf hc5
    obtain rfl := so1 hf
    exact r_vret C hw dX5_clearRow_41
  · have hf := it_n hf hc5
    refine lv_iload_n hx hb dX5_clearRow_9 rfl (lv_at hl 1 rfl) ?_
    refine lv_iload_n hx hb dX5_clearRow_10 rfl (lv_at hl 2 rfl) ?_
    refine lv_iadd hx hb dX5_clearRow_11 ?_
    refine lv_istore_n (lv' := [(3, .int (x1 + x2)), (0, .ref (zp 0)), (1, .int x1), (2, .int x2)]) hx hb dX5_clearRow_12 rfl hl (by decide) rfl (fun ls hl => ?_)
    refine lv_iload_n hx hb dX5_clearRow_13 rfl (lv_at hl 0 rfl) ?_
    refine lv_iconst (v := (0 : Int32)) hx hb dX5_clearRow_14 rfl ?_
    refine lv_aload_n hx hb dX5_clearRow_15 rfl (lv_at hl 1 rfl) ?_
    refine r_get C hw 0 rfl cf_X5 1 (by decide) q1_176 (v := .ref (zp 1)) rfl dX5_clearRow_16 ?_
    refine r_alen C hw 1 0 rfl rfl (v := (10050 : Int32)) rfl dX5_clearRow_19 ?_
    refine lv_iconst (v := (1 : Int32)) hx hb dX5_clearRow_20 rfl ?_
    refine lv_isub hx hb dX5_clearRow_21 ?_
    obtain ⟨r1, hc2, hf⟩ := bd1_e hf
    refine r_callNi0 C hw (c_X10_within hc2) md_X10_within [] rfl rfl nq_36 ⟨Nat.le_of_ble_eq_true rfl, Nat.le_of_ble_eq_true rfl⟩ ⟨Nat.zero_le _, Nat.zero_le _⟩ hl.1 rfl rfl (Nat.le_of_ble_eq_true rfl) dX5_clearRow_22 (fun H locs hw => ?_)
    refine lv_if_eq (tgt := 35) hx hb dX5_clearRow_25 (by decide) (fun hc4 => ?_) (fun hc4 => ?_)
    · have hf := it_p hf hc4
      refine lv_iinc (v := (x2 + (1 : Int32))) (lv' := [(2, .int (x2 + (1 : Int32))), (3, .int (x1 + x2)), (0, .ref (zp 0)), (1, .int x1)]) hx hb dX5_clearRow_35 hl (k := 3) rfl rfl (by decide) rfl (fun ls hl => ?_)
      refine lv_goto (tgt := 2) hx hb dX5_clearRow_38 (by decide) ?_
      exact hr2 _ _ _ _ _ _ hf hw (lv_sub hl [2, 3, 0] rfl)
    · have hf := it_n hf hc4
      refine lv_aload_n hx hb dX5_clearRow_28 rfl (lv_at hl 1 rfl) ?_
      refine r_get C hw 0 rfl cf_X5 1 (by decide) q1_176 (v := .ref (zp 1)) rfl dX5_clearRow_29 ?_
      refine lv_iload_n hx hb dX5_clearRow_32 rfl (lv_at hl 0 rfl) ?_
      refine lv_iconst (v := (-1 : Int32)) hx hb dX5_clearRow_33 rfl ?_
      obtain ⟨hi3, hf⟩ := it_g hf
      refine r_iast C hw 1 (f := (Tp 1)) rfl hi3 (ws' := (gcP g zp zt (u2 Tp 1 (x1 + x2).toNatClampNeg (-1 : Int32)))) gcP_a1 dX5_clearRow_34 (fun H locs hw => ?_)
      refine lv_iinc (v := (x2 + (1 : Int32))) (lv' := [(2, .int (x2 + (1 : Int32))), (3, .int (x1 + x2)), (0, .ref (zp 0)), (1, .int x1)]) hx hb dX5_clearRow_35 hl (k := 3) rfl rfl (by decide) rfl (fun ls hl => ?_)
      refine lv_goto (tgt := 2) hx hb dX5_clearRow_38 (by decide) ?_
      exact hr2 _ _ _ _ _ _ hf hw (lv_sub hl [2, 3, 0] rfl)
set_option maxRecDepth 100000 in
set_option maxHeartbeats 4000000 in
theorem klX5_clearRow_2 {l : Launch} {g : evG} {p : Program} {e : Env} {s : State} {m : MethodId} {args : Array Value} {below : List Frame} {meth : Method} {c : Code} {A : Nat → Prop} {zp : Nat → Nat} {zt : Nat → Nat} {op : Gp} (C : ctx g p s m args meth c RX5 cX5_clearRow 4 none A) : ∀ (n : Nat) (Tp : Gp) (x1 : Int32) (x2 : Int32) (H : Heap) (locs : List Loc) (ls : Array Slot), lX5_clearRow_2 n Tp x1 x2 = some (op) → wl g A s.heap (gcP g zp zt Tp) H locs → lv_has ls 4 [(0, .ref (zp 0)), (1, .int x1), (2, .int x2)] → W p l e (rmK 1 22) s m args below meth c H locs 0 0 (MQ below (Qv g A (gcP g zp zt op)) args s 0 0 A) (F0 m 2 ls []) := by
  intro n
  induction n with
  | zero => intro _ _ _ _ _ _ hf; exact no_f hf
  | succ n ih => intro _ _ _ _ _ _ hf hw hl; exact kX5_clearRow_2 (zp := zp) (zt := zt) (op := op) C (rec2 := lX5_clearRow_2 n) ih hf hw hl
set_option maxRecDepth 100000 in
set_option maxHeartbeats 4000000 in
theorem c_X5_clearRow {l : Launch} {g : evG} {zp : Nat → Nat} {zt : Nat → Nat} {op : Gp}  {Tp : Gp} {x1 : Int32} (hf : fX5_clearRow Tp x1 = some (op)) : CTv l g yX5_clearRow (Cond.code yX5_clearRow cX5_clearRow 4 none) 1 22 [.ref (zp 0), .int x1] (gcP g zp zt Tp) (gcP g zp zt op) := by
  refine ct_v rfl (Nat.le_of_ble_eq_true rfl) ?_
  intro p e s m args below meth c A ls C hw hl
  have C : ctx g p s m args meth c RX5 cX5_clearRow 4 none A := C
  have hl : lv_has ls 4 [(0, .ref (zp 0)), (1, .int x1)] := hl
  obtain ⟨hx, hb, hml, hown, hts, -⟩ := id C
  unfold fX5_clearRow at hf
  refine lv_iconst (v := (0 : Int32)) hx hb dX5_clearRow_0 rfl ?_
  refine lv_istore_n (lv' := [(2, .int (0 : Int32)), (0, .ref (zp 0)), (1, .int x1)]) hx hb dX5_clearRow_1 rfl hl (by decide) rfl (fun ls hl => ?_)
  exact klX5_clearRow_2 (zp := zp) (zt := zt) (op := op) C fu _ _ _ _ _ _ hf hw (lv_sub hl [1, 2, 0] rfl)
set_option maxRecDepth 100000 in
set_option maxHeartbeats 4000000 in
theorem c_X5_isAllowed {l : Launch} {g : evG} {zp : Nat → Nat} {zt : Nat → Nat} {r : Int32}  {Tp : Gp} {Tt : Gp} {x1 : Int32} {x2 : Int32} {x3 : Int32} {x4 : Int32} {x5 : Int32} (hf : fX5_isAllowed Tp Tt x1 x2 x3 x4 x5 = some (r)) : CTi l g yX5_isAllowed (Cond.code yX5_isAllowed cX5_isAllowed 6 (some .boolean)) 2 48 [.ref (zp 0), .int x1, .int x2, .int x3, .int x4, .int x5] (gcP g zp zt Tp ++ (gcT g zt Tt)) (gcP g zp zt Tp ++ (gcT g zt Tt)) r := by
  refine ct_i rfl (Nat.le_of_ble_eq_true rfl) ?_
  intro p e s m args below meth c A ls C hw hl
  have C : ctx g p s m args meth c RX5 cX5_isAllowed 6 (some .boolean) A := C
  have hl : lv_has ls 6 [(0, .ref (zp 0)), (1, .int x1), (2, .int x2), (3, .int x3), (4, .int x4), (5, .int x5)] := hl
  obtain ⟨hx, hb, hml, hown, hts, -⟩ := id C
  unfold fX5_isAllowed at hf
  refine lv_aload_n hx hb dX5_isAllowed_0 rfl (lv_at hl 0 rfl) ?_
  refine r_get C hw 0 rfl cf_X5 0 (by decide) q1_175 (v := .ref (zt 0)) rfl dX5_isAllowed_1 ?_
  refine lv_iconst (v := (0 : Int32)) hx hb dX5_isAllowed_4 rfl ?_
  refine lv_iload_n hx hb dX5_isAllowed_5 rfl (lv_at hl 2 rfl) ?_
  refine lv_iload_n hx hb dX5_isAllowed_6 rfl (lv_at hl 3 rfl) ?_
  refine lv_iload hx hb dX5_isAllowed_7 (lv_at hl 4 rfl) ?_
  obtain ⟨r1, hc2, hf⟩ := bd1_e hf
  refine r_callVi0 C hw (c_X9_mayDo (zt := zt) hc2) md_X9_mayDo [4, 5, 6, 7, 8, 9] rfl rfl q3_193 4 rfl cf_X9.1 ⟨Nat.le_of_ble_eq_true rfl, Nat.le_of_ble_eq_true rfl⟩ ⟨Nat.zero_le _, Nat.zero_le _⟩ hl.1 rfl rfl (Nat.le_of_ble_eq_true rfl) dX5_isAllowed_9 (fun H locs hw => ?_)
  refine lv_if_eq (tgt := 50) hx hb dX5_isAllowed_12 (by decide) (fun hc9 => ?_) (fun hc9 => ?_)
  · have hf := it_p hf hc9
    refine lv_iconst (v := (0 : Int32)) hx hb dX5_isAllowed_50 rfl ?_
    obtain rfl := so1 hf
    exact r_zret C hw rfl rfl dX5_isAllowed_51
  · have hf := it_n hf hc9
    refine lv_aload_n hx hb dX5_isAllowed_15 rfl (lv_at hl 0 rfl) ?_
    refine r_get C hw 0 rfl cf_X5 0 (by decide) q1_175 (v := .ref (zt 0)) rfl dX5_isAllowed_16 ?_
    refine lv_iconst (v := (1 : Int32)) hx hb dX5_isAllowed_19 rfl ?_
    refine lv_iload_n hx hb dX5_isAllowed_20 rfl (lv_at hl 2 rfl) ?_
    refine lv_iload_n hx hb dX5_isAllowed_21 rfl (lv_at hl 3 rfl) ?_
    refine lv_iload hx hb dX5_isAllowed_22 (lv_at hl 5 rfl) ?_
    obtain ⟨r3, hc4, hf⟩ := bd1_e hf
    refine r_callVi0 C hw (c_X9_mayDo (zt := zt) hc4) md_X9_mayDo [4, 5, 6, 7, 8, 9] rfl rfl q3_193 4 rfl cf_X9.1 ⟨Nat.le_of_ble_eq_true rfl, Nat.le_of_ble_eq_true rfl⟩ ⟨Nat.zero_le _, Nat.zero_le _⟩ hl.1 rfl rfl (Nat.le_of_ble_eq_true rfl) dX5_isAllowed_24 (fun H locs hw => ?_)
    refine lv_if_eq (tgt := 50) hx hb dX5_isAllowed_27 (by decide) (fun hc8 => ?_) (fun hc8 => ?_)
    · have hf := it_p hf hc8
      refine lv_iconst (v := (0 : Int32)) hx hb dX5_isAllowed_50 rfl ?_
      obtain rfl := so1 hf
      exact r_zret C hw rfl rfl dX5_isAllowed_51
    · have hf := it_n hf hc8
      refine lv_aload_n hx hb dX5_isAllowed_30 rfl (lv_at hl 0 rfl) ?_
      refine r_get C hw 0 rfl cf_X5 0 (by decide) q1_175 (v := .ref (zt 0)) rfl dX5_isAllowed_31 ?_
      refine lv_iload_n hx hb dX5_isAllowed_34 rfl (lv_at hl 1 rfl) ?_
      refine lv_iload_n hx hb dX5_isAllowed_35 rfl (lv_at hl 2 rfl) ?_
      refine lv_iload hx hb dX5_isAllowed_36 (lv_at hl 4 rfl) ?_
      refine lv_iload hx hb dX5_isAllowed_38 (lv_at hl 5 rfl) ?_
      obtain ⟨r5, hc6, hf⟩ := bd1_e hf
      refine r_callVi0 C hw (c_X9_keepsTreaty (zt := zt) hc6) md_X9_keepsTreaty [4, 5, 6, 7, 8, 9] rfl rfl q3_194 4 rfl cf_X9.1 ⟨Nat.le_of_ble_eq_true rfl, Nat.le_of_ble_eq_true rfl⟩ ⟨Nat.zero_le _, Nat.zero_le _⟩ hl.1 rfl rfl (Nat.le_of_ble_eq_true rfl) dX5_isAllowed_40 (fun H locs hw => ?_)
      refine lv_if_eq (tgt := 50) hx hb dX5_isAllowed_43 (by decide) (fun hc7 => ?_) (fun hc7 => ?_)
      · have hf := it_p hf hc7
        refine lv_iconst (v := (0 : Int32)) hx hb dX5_isAllowed_50 rfl ?_
        obtain rfl := so1 hf
        exact r_zret C hw rfl rfl dX5_isAllowed_51
      · have hf := it_n hf hc7
        refine lv_iconst (v := (1 : Int32)) hx hb dX5_isAllowed_46 rfl ?_
        refine lv_goto (tgt := 51) hx hb dX5_isAllowed_47 (by decide) ?_
        obtain rfl := so1 hf
        exact r_zret C hw rfl rfl dX5_isAllowed_51
set_option maxRecDepth 100000 in
set_option maxHeartbeats 4000000 in
theorem c_X5_madeBy {l : Launch} {g : evG} {zp : Nat → Nat} {zt : Nat → Nat} {r : Int32}  {Tp : Gp} {Tt : Gp} {x1 : Int32} {x2 : Int32} {x3 : Int32} (hf : fX5_madeBy Tp Tt x1 x2 x3 = some (r)) : CTi l g yX5_madeBy (Cond.code yX5_madeBy cX5_madeBy 4 (some .int)) 2 47 [.ref (zp 0), .int x1, .int x2, .int x3] (gcP g zp zt Tp ++ (gcT g zt Tt)) (gcP g zp zt Tp ++ (gcT g zt Tt)) r := by
  refine ct_i rfl (Nat.le_of_ble_eq_true rfl) ?_
  intro p e s m args below meth c A ls C hw hl
  have C : ctx g p s m args meth c RX5 cX5_madeBy 4 (some .int) A := C
  have hl : lv_has ls 4 [(0, .ref (zp 0)), (1, .int x1), (2, .int x2), (3, .int x3)] := hl
  obtain ⟨hx, hb, hml, hown, hts, -⟩ := id C
  unfold fX5_madeBy at hf
  refine lv_aload_n hx hb dX5_madeBy_0 rfl (lv_at hl 0 rfl) ?_
  refine r_get C hw 0 rfl cf_X5 0 (by decide) q1_175 (v := .ref (zt 0)) rfl dX5_madeBy_1 ?_
  refine lv_iconst (v := (0 : Int32)) hx hb dX5_madeBy_4 rfl ?_
  refine lv_iload_n hx hb dX5_madeBy_5 rfl (lv_at hl 1 rfl) ?_
  refine lv_iload_n hx hb dX5_madeBy_6 rfl (lv_at hl 2 rfl) ?_
  obtain ⟨r1, hc2, hf⟩ := bd1_e hf
  refine r_callVi0 C hw (c_X9_breadMade (zt := zt) hc2) md_X9_breadMade [4, 5, 6, 7, 8, 9] rfl rfl q3_199 4 rfl cf_X9.1 ⟨Nat.le_of_ble_eq_true rfl, Nat.le_of_ble_eq_true rfl⟩ ⟨Nat.zero_le _, Nat.zero_le _⟩ hl.1 rfl rfl (Nat.le_of_ble_eq_true rfl) dX5_madeBy_7 (fun H locs hw => ?_)
  refine lv_aload_n hx hb dX5_madeBy_10 rfl (lv_at hl 0 rfl) ?_
  refine r_get C hw 0 rfl cf_X5 0 (by decide) q1_175 (v := .ref (zt 0)) rfl dX5_madeBy_11 ?_
  refine lv_iconst (v := (1 : Int32)) hx hb dX5_madeBy_14 rfl ?_
  refine lv_iload_n hx hb dX5_madeBy_15 rfl (lv_at hl 1 rfl) ?_
  refine lv_iload_n hx hb dX5_madeBy_16 rfl (lv_at hl 3 rfl) ?_
  obtain ⟨r3, hc4, hf⟩ := bd1_e hf
  refine r_callVi0 C hw (c_X9_breadMade (zt := zt) hc4) md_X9_breadMade [4, 5, 6, 7, 8, 9] rfl rfl q3_199 4 rfl cf_X9.1 ⟨Nat.le_of_ble_eq_true rfl, Nat.le_of_ble_eq_true rfl⟩ ⟨Nat.zero_le _, Nat.zero_le _⟩ hl.1 rfl rfl (Nat.le_of_ble_eq_true rfl) dX5_madeBy_17 (fun H locs hw => ?_)
  refine lv_iadd hx hb dX5_madeBy_20 ?_
  obtain rfl := so1 hf
  exact r_iret C hw rfl dX5_madeBy_21
set_option maxRecDepth 100000 in
set_option maxHeartbeats 4000000 in
theorem c_X5_worthOf {l : Launch} {g : evG} {zp : Nat → Nat} {zt : Nat → Nat} {r : Int32}  {Tp : Gp} {Tt : Gp} {x1 : Int32} {x2 : Int32} (hf : fX5_worthOf Tp Tt x1 x2 = some (r)) : CTi l g yX5_worthOf (Cond.code yX5_worthOf cX5_worthOf 3 (some .int)) 1 21 [.ref (zp 0), .int x1, .int x2] (gcP g zp zt Tp ++ (gcT g zt Tt)) (gcP g zp zt Tp ++ (gcT g zt Tt)) r := by
  refine ct_i rfl (Nat.le_of_ble_eq_true rfl) ?_
  intro p e s m args below meth c A ls C hw hl
  have C : ctx g p s m args meth c RX5 cX5_worthOf 3 (some .int) A := C
  have hl : lv_has ls 3 [(0, .ref (zp 0)), (1, .int x1), (2, .int x2)] := hl
  obtain ⟨hx, hb, hml, hown, hts, -⟩ := id C
  unfold fX5_worthOf at hf
  refine lv_aload_n hx hb dX5_worthOf_0 rfl (lv_at hl 0 rfl) ?_
  refine r_get C hw 0 rfl cf_X5 0 (by decide) q1_175 (v := .ref (zt 0)) rfl dX5_worthOf_1 ?_
  refine lv_iload_n hx hb dX5_worthOf_4 rfl (lv_at hl 1 rfl) ?_
  obtain ⟨r1, hc2, hf⟩ := bd1_e hf
  refine r_callVi0 C hw (c_X9_worthOf (zt := zt) hc2) md_X9_worthOf [4, 5, 6, 7, 8, 9] rfl rfl q3_204 4 rfl cf_X9.1 ⟨Nat.le_of_ble_eq_true rfl, Nat.le_of_ble_eq_true rfl⟩ ⟨Nat.zero_le _, Nat.zero_le _⟩ hl.1 rfl rfl (Nat.le_of_ble_eq_true rfl) dX5_worthOf_5 (fun H locs hw => ?_)
  refine lv_aload_n hx hb dX5_worthOf_8 rfl (lv_at hl 0 rfl) ?_
  refine r_get C hw 0 rfl cf_X5 0 (by decide) q1_175 (v := .ref (zt 0)) rfl dX5_worthOf_9 ?_
  refine lv_iload_n hx hb dX5_worthOf_12 rfl (lv_at hl 2 rfl) ?_
  obtain ⟨r3, hc4, hf⟩ := bd1_e hf
  refine r_callVi0 C hw (c_X9_worthOf (zt := zt) hc4) md_X9_worthOf [4, 5, 6, 7, 8, 9] rfl rfl q3_204 4 rfl cf_X9.1 ⟨Nat.le_of_ble_eq_true rfl, Nat.le_of_ble_eq_true rfl⟩ ⟨Nat.zero_le _, Nat.zero_le _⟩ hl.1 rfl rfl (Nat.le_of_ble_eq_true rfl) dX5_worthOf_13 (fun H locs hw => ?_)
  refine lv_iadd hx hb dX5_worthOf_16 ?_
  obtain rfl := so1 hf
  exact r_iret C hw rfl dX5_worthOf_17
set_option maxRecDepth 100000 in
set_option maxHeartbeats 4000000 in
theorem kX5_findWorths_20 {l : Launch} {g : evG} {p : Program} {e : Env} {s : State} {m : MethodId} {args : Array Value} {below : List Frame} {meth : Method} {c : Code} {A : Nat → Prop} {zp : Nat → Nat} {zt : Nat → Nat} {op : Gp} (C : ctx g p s m args meth c RX5 cX5_findWorths 7 none A) {Tt : Gp} {rec11 : Gp → Int32 → Int32 → Int32 → Int32 → Option (Gp)} {rec20 : Gp → Int32 → Int32 → Int32 → Int32 → Int32 → Option (Gp)} (hr11 : ∀ (Tp : Gp) (x1 : Int32) (x2 : Int32) (x3 : Int32) (x4 : Int32) (H : Heap) (locs : List Loc) (ls : Array Slot), rec11 Tp x1 x2 x3 x4 = some (op) → wl g A s.heap (gcP g zp zt Tp ++ (gcT g zt Tt)) H locs → lv_has ls 7 [(0, .ref (zp 0)), (1, .int x1), (2, .int x2), (3, .int x3), (4, .int x4)] → W p l e (rmK 3 73) s m args below meth c H locs 0 0 (MQ below (Qv g A (gcP g zp zt op ++ (gcT g zt Tt))) args s 0 0 A) (F0 m 11 ls [])) (hr20 : ∀ (Tp : Gp) (x1 : Int32) (x2 : Int32) (x3 : Int32) (x4 : Int32) (x5 : Int32) (H : Heap) (locs : List Loc) (ls : Array Slot), rec20 Tp x1 x2 x3 x4 x5 = some (op) → wl g A s.heap (gcP g zp zt Tp ++ (gcT g zt Tt)) H locs → lv_has ls 7 [(0, .ref (zp 0)), (1, .int x1), (2, .int x2), (3, .int x3), (4, .int x4), (5, .int x5)] → W p l e (rmK 3 73) s m args below meth c H locs 0 0 (MQ below (Qv g A (gcP g zp zt op ++ (gcT g zt Tt))) args s 0 0 A) (F0 m 20 ls [])) {Tp : Gp} {x1 : Int32} {x2 : Int32} {x3 : Int32} {x4 : Int32} {x5 : Int32} {H : Heap} {locs : List Loc} {ls : Array Slot} (hf : fX5_findWorths_20 Tt rec11 rec20 Tp x1 x2 x3 x4 x5 = some (op)) (hw : wl g A s.heap (gcP g zp zt Tp ++ (gcT g zt Tt)) H locs) (hl : lv_has ls 7 [(0, .ref (zp 0)), (1, .int x1), (2, .int x2), (3, .int x3), (4, .int x4), (5, .int x5)]) : W p l e (rmK 3 73) s m args below meth c H locs 0 0 (MQ below (Qv g A (gcP g zp zt op ++ (gcT g zt Tt))) args s 0 0 A) (F0 m 20 ls []) := by
  obtain ⟨hx, hb, hml, hown, hts, -⟩ := id C
  unfold fX5_findWorths_20 at hf
  refine lv_iload hx hb dX5_findWorths_20 (lv_at hl 5 rfl) ?_
  refine lv_iconst (v := (5 : Int32)) hx hb dX5_findWorths_22 rfl ?_
  refine lv_icmp_gt (tgt := 99) hx hb dX5_findWorths_23 (by decide) (fun hc13 => ?_) (fun hc13 => ?_)
  · have hf := it_p hf hc13
    refine lv_iinc (v := (x4 + (1 : Int32))) (lv' := [(4, .int (x4 + (1 : Int32))), (0, .ref (zp 0)), (1, .int x1), (2, .int x2), (3, .int x3), (5, .int x5)]) hx hb dX5_findWorths_99 hl (k := 4) rfl rfl (by decide) rfl (fun ls hl => ?_)
    refine lv_goto (tgt := 11) hx hb dX5_findWorths_102 (by decide) ?_
    exact hr11 _ _ _ _ _ _ _ _ hf hw (lv_sub hl [1, 2, 3, 4, 0] rfl)
  · have hf := it_n hf hc13
    refine lv_aload_n hx hb dX5_findWorths_26 rfl (lv_at hl 0 rfl) ?_
    refine lv_iload_n hx hb dX5_findWorths_27 rfl (lv_at hl 1 rfl) ?_
    refine lv_iload_n hx hb dX5_findWorths_28 rfl (lv_at hl 2 rfl) ?_
    refine lv_iload_n hx hb dX5_findWorths_29 rfl (lv_at hl 3 rfl) ?_
    refine lv_iload hx hb dX5_findWorths_30 (lv_at hl 4 rfl) ?_
    refine lv_iload hx hb dX5_findWorths_32 (lv_at hl 5 rfl) ?_
    obtain ⟨r1, hc2, hf⟩ := bd1_e hf
    refine r_callVi0 C hw (c_X5_isAllowed (zp := zp) (zt := zt) hc2) md_X5_isAllowed [0, 1, 2, 3, 4, 5, 6, 7, 8, 9] rfl rfl q3_189 0 rfl cf_X5.1 ⟨Nat.le_of_ble_eq_true rfl, Nat.le_of_ble_eq_true rfl⟩ ⟨Nat.zero_le _, Nat.zero_le _⟩ hl.1 rfl rfl (Nat.le_of_ble_eq_true rfl) dX5_findWorths_34 (fun H locs hw => ?_)
    refine lv_if_ne (tgt := 43) hx hb dX5_findWorths_37 (by decide) (fun hc12 => ?_) (fun hc12 => ?_)
    · have hf := it_n hf hc12
      refine lv_aload_n hx hb dX5_findWorths_43 rfl (lv_at hl 0 rfl) ?_
      refine lv_iload_n hx hb dX5_findWorths_44 rfl (lv_at hl 2 rfl) ?_
      refine lv_iload hx hb dX5_findWorths_45 (lv_at hl 4 rfl) ?_
      refine lv_iload hx hb dX5_findWorths_47 (lv_at hl 5 rfl) ?_
      obtain ⟨r3, hc4, hf⟩ := bd1_e hf
      refine r_callVi0 C hw (c_X5_madeBy (zp := zp) (zt := zt) hc4) md_X5_madeBy [0, 1, 2, 3, 4, 5, 6, 7, 8, 9] rfl rfl q3_195 0 rfl cf_X5.1 ⟨Nat.le_of_ble_eq_true rfl, Nat.le_of_ble_eq_true rfl⟩ ⟨Nat.zero_le _, Nat.zero_le _⟩ hl.1 rfl rfl (Nat.le_of_ble_eq_true rfl) dX5_findWorths_49 (fun H locs hw => ?_)
      refine lv_istore (lv' := [(6, .int r3), (0, .ref (zp 0)), (1, .int x1), (2, .int x2), (3, .int x3), (4, .int x4), (5, .int x5)]) hx hb dX5_findWorths_52 hl (by decide) rfl (fun ls hl => ?_)
      refine lv_iload hx hb dX5_findWorths_54 (lv_at hl 0 rfl) ?_
      refine lv_iconst (v := (0 : Int32)) hx hb dX5_findWorths_56 rfl ?_
      refine lv_bipush (v := (40 : Int32)) hx hb dX5_findWorths_57 rfl ?_
      obtain ⟨r5, hc6, hf⟩ := bd1_e hf
      refine r_callNi0 C hw (c_X10_within hc6) md_X10_within [] rfl rfl nq_36 ⟨Nat.le_of_ble_eq_true rfl, Nat.le_of_ble_eq_true rfl⟩ ⟨Nat.zero_le _, Nat.zero_le _⟩ hl.1 rfl rfl (Nat.le_of_ble_eq_true rfl) dX5_findWorths_59 (fun H locs hw => ?_)
      refine lv_if_ne (tgt := 68) hx hb dX5_findWorths_62 (by decide) (fun hc11 => ?_) (fun hc11 => ?_)
      · have hf := it_n hf hc11
        refine lv_aload_n hx hb dX5_findWorths_68 rfl (lv_at hl 1 rfl) ?_
        refine r_get C hw 0 rfl cf_X5 2 (by decide) q1_177 (v := .ref (zp 2)) rfl dX5_findWorths_69 ?_
        refine lv_iload hx hb dX5_findWorths_72 (lv_at hl 0 rfl) ?_
        refine lv_aload_n hx hb dX5_findWorths_74 rfl (lv_at hl 1 rfl) ?_
        refine r_get C hw 0 rfl cf_X5 2 (by decide) q1_177 (v := .ref (zp 2)) rfl dX5_findWorths_75 ?_
        refine lv_iload hx hb dX5_findWorths_78 (lv_at hl 0 rfl) ?_
        obtain ⟨hi7, hf⟩ := it_g hf
        refine r_iald C hw 2 (f := (Tp 2)) rfl hi7 dX5_findWorths_80 ?_
        refine lv_aload_n hx hb dX5_findWorths_81 rfl (lv_at hl 1 rfl) ?_
        refine lv_iload hx hb dX5_findWorths_82 (lv_at hl 5 rfl) ?_
        refine lv_iload hx hb dX5_findWorths_84 (lv_at hl 6 rfl) ?_
        obtain ⟨r8, hc9, hf⟩ := bd1_e hf
        refine r_callVi0 C hw (c_X5_worthOf (zp := zp) (zt := zt) hc9) md_X5_worthOf [0, 1, 2, 3, 4, 5, 6, 7, 8, 9] rfl rfl q3_200 0 rfl cf_X5.1 ⟨Nat.le_of_ble_eq_true rfl, Nat.le_of_ble_eq_true rfl⟩ ⟨Nat.zero_le _, Nat.zero_le _⟩ hl.1 rfl rfl (Nat.le_of_ble_eq_true rfl) dX5_findWorths_86 (fun H locs hw => ?_)
        refine r_mmax C hl.1 q3_205 q3_206 q1_18 q3_207 (Nat.le_of_ble_eq_true rfl) (Nat.le_of_ble_eq_true rfl) (Nat.zero_le _) (Nat.zero_le _) dX5_findWorths_89 ?_
        obtain ⟨hi10, hf⟩ := it_g hf
        refine r_iast C hw 2 (f := (Tp 2)) rfl hi10 (ws' := (gcP g zp zt (u2 Tp 2 r3.toNatClampNeg (imx (Tp 2 r3.toNatClampNeg) r8)) ++ (gcT g zt Tt))) (set_l (Nat.le_of_ble_eq_true rfl) gcP_a2) dX5_findWorths_92 (fun H locs hw => ?_)
        refine lv_iinc (v := (x5 + (1 : Int32))) (lv' := [(5, .int (x5 + (1 : Int32))), (6, .int r3), (0, .ref (zp 0)), (1, .int x1), (2, .int x2), (3, .int x3), (4, .int x4)]) hx hb dX5_findWorths_93 hl (k := 6) rfl rfl (by decide) rfl (fun ls hl => ?_)
        refine lv_goto (tgt := 20) hx hb dX5_findWorths_96 (by decide) ?_
        exact hr20 _ _ _ _ _ _ _ _ _ hf hw (lv_sub hl [2, 3, 4, 5, 6, 0] rfl)
      · have hf := it_p hf hc11
        refine lv_goto (tgt := 93) hx hb dX5_findWorths_65 (by decide) ?_
        refine lv_iinc (v := (x5 + (1 : Int32))) (lv' := [(5, .int (x5 + (1 : Int32))), (6, .int r3), (0, .ref (zp 0)), (1, .int x1), (2, .int x2), (3, .int x3), (4, .int x4)]) hx hb dX5_findWorths_93 hl (k := 6) rfl rfl (by decide) rfl (fun ls hl => ?_)
        refine lv_goto (tgt := 20) hx hb dX5_findWorths_96 (by decide) ?_
        exact hr20 _ _ _ _ _ _ _ _ _ hf hw (lv_sub hl [2, 3, 4, 5, 6, 0] rfl)
    · have hf := it_p hf hc12
      refine lv_goto (tgt := 93) hx hb dX5_findWorths_40 (by decide) ?_
      refine lv_iinc (v := (x5 + (1 : Int32))) (lv' := [(5, .int (x5 + (1 : Int32))), (0, .ref (zp 0)), (1, .int x1), (2, .int x2), (3, .int x3), (4, .int x4)]) hx hb dX5_findWorths_93 hl (k := 5) rfl rfl (by decide) rfl (fun ls hl => ?_)
      refine lv_goto (tgt := 20) hx hb dX5_findWorths_96 (by decide) ?_
      exact hr20 _ _ _ _ _ _ _ _ _ hf hw (lv_sub hl [1, 2, 3, 4, 5, 0] rfl)
set_option maxRecDepth 100000 in
set_option maxHeartbeats 4000000 in
theorem klX5_findWorths_20 {l : Launch} {g : evG} {p : Program} {e : Env} {s : State} {m : MethodId} {args : Array Value} {below : List Frame} {meth : Method} {c : Code} {A : Nat → Prop} {zp : Nat → Nat} {zt : Nat → Nat} {op : Gp} (C : ctx g p s m args meth c RX5 cX5_findWorths 7 none A) {Tt : Gp} {rec11 : Gp → Int32 → Int32 → Int32 → Int32 → Option (Gp)} (hr11 : ∀ (Tp : Gp) (x1 : Int32) (x2 : Int32) (x3 : Int32) (x4 : Int32) (H : Heap) (locs : List Loc) (ls : Array Slot), rec11 Tp x1 x2 x3 x4 = some (op) → wl g A s.heap (gcP g zp zt Tp ++ (gcT g zt Tt)) H locs → lv_has ls 7 [(0, .ref (zp 0)), (1, .int x1), (2, .int x2), (3, .int x3), (4, .int x4)] → W p l e (rmK 3 73) s m args below meth c H locs 0 0 (MQ below (Qv g A (gcP g zp zt op ++ (gcT g zt Tt))) args s 0 0 A) (F0 m 11 ls [])) : ∀ (n : Nat) (Tp : Gp) (x1 : Int32) (x2 : Int32) (x3 : Int32) (x4 : Int32) (x5 : Int32) (H : Heap) (locs : List Loc) (ls : Array Slot), lX5_findWorths_20 Tt rec11 n Tp x1 x2 x3 x4 x5 = some (op) → wl g A s.heap (gcP g zp zt Tp ++ (gcT g zt Tt)) H locs → lv_has ls 7 [(0, .ref (zp 0)), (1, .int x1), (2, .int x2), (3, .int x3), (4, .int x4), (5, .int x5)] → W p l e (rmK 3 73) s m args below meth c H locs 0 0 (MQ below (Qv g A (gcP g zp zt op ++ (gcT g zt Tt))) args s 0 0 A) (F0 m 20 ls []) := by
  intro n
  induction n with
  | zero => intro _ _ _ _ _ _ _ _ _ hf; exact no_f hf
  | succ n ih => intro _ _ _ _ _ _ _ _ _ hf hw hl; exact kX5_findWorths_20 (zp := zp) (zt := zt) (op := op) C hr11 (rec20 := lX5_findWorths_20 Tt rec11 n) ih hf hw hl
set_option maxRecDepth 100000 in
set_option maxHeartbeats 4000000 in
theorem kX5_findWorths_11 {l : Launch} {g : evG} {p : Program} {e : Env} {s : State} {m : MethodId} {args : Array Value} {below : List Frame} {meth : Method} {c : Code} {A : Nat → Prop} {zp : Nat → Nat} {zt : Nat → Nat} {op : Gp} (C : ctx g p s m args meth c RX5 cX5_findWorths 7 none A) {Tt : Gp} {rec11 : Gp → Int32 → Int32 → Int32 → Int32 → Option (Gp)} (hr11 : ∀ (Tp : Gp) (x1 : Int32) (x2 : Int32) (x3 : Int32) (x4 : Int32) (H : Heap) (locs : List Loc) (ls : Array Slot), rec11 Tp x1 x2 x3 x4 = some (op) → wl g A s.heap (gcP g zp zt Tp ++ (gcT g zt Tt)) H locs → lv_has ls 7 [(0, .ref (zp 0)), (1, .int x1), (2, .int x2), (3, .int x3), (4, .int x4)] → W p l e (rmK 3 73) s m args below meth c H locs 0 0 (MQ below (Qv g A (gcP g zp zt op ++ (gcT g zt Tt))) args s 0 0 A) (F0 m 11 ls [])) {Tp : Gp} {x1 : Int32} {x2 : Int32} {x3 : Int32} {x4 : Int32} {H : Heap} {locs : List Loc} {ls : Array Slot} (hf : fX5_findWorths_11 Tt rec11 Tp x1 x2 x3 x4 = some (op)) (hw : wl g A s.heap (gcP g zp zt Tp ++ (gcT g zt Tt)) H locs) (hl : lv_has ls 7 [(0, .ref (zp 0)), (1, .int x1), (2, .int x2), (3, .int x3), (4, .int x4)]) : W p l e (rmK 3 73) s m args below meth c H locs 0 0 (MQ below (Qv g A (gcP g zp zt op ++ (gcT g zt Tt))) args s 0 0 A) (F0 m 11 ls []) := by
  obtain ⟨hx, hb, hml, hown, hts, -⟩ := id C
  unfold fX5_findWorths_11 at hf
  refine lv_iload hx hb dX5_findWorths_11 (lv_at hl 4 rfl) ?_
  refine lv_iconst (v := (5 : Int32)) hx hb dX5_findWorths_13 rfl ?_
  refine lv_icmp_gt (tgt := 105) hx hb dX5_findWorths_14 (by decide) (fun hc1 => ?_) (fun hc1 => ?_)
  · have hf := it_p hf hc1
    obtain rfl := so1 hf
    exact r_vret C hw dX5_findWorths_105
  · have hf := it_n hf hc1
    refine lv_iconst (v := (0 : Int32)) hx hb dX5_findWorths_17 rfl ?_
    refine lv_istore (lv' := [(5, .int (0 : Int32)), (0, .ref (zp 0)), (1, .int x1), (2, .int x2), (3, .int x3), (4, .int x4)]) hx hb dX5_findWorths_18 hl (by decide) rfl (fun ls hl => ?_)
    exact klX5_findWorths_20 (zp := zp) (zt := zt) (op := op) C hr11 fu _ _ _ _ _ _ _ _ _ hf hw (lv_sub hl [1, 2, 3, 4, 5, 0] rfl)
set_option maxRecDepth 100000 in
set_option maxHeartbeats 4000000 in
theorem klX5_findWorths_11 {l : Launch} {g : evG} {p : Program} {e : Env} {s : State} {m : MethodId} {args : Array Value} {below : List Frame} {meth : Method} {c : Code} {A : Nat → Prop} {zp : Nat → Nat} {zt : Nat → Nat} {op : Gp} (C : ctx g p s m args meth c RX5 cX5_findWorths 7 none A) {Tt : Gp} : ∀ (n : Nat) (Tp : Gp) (x1 : Int32) (x2 : Int32) (x3 : Int32) (x4 : Int32) (H : Heap) (locs : List Loc) (ls : Array Slot), lX5_findWorths_11 Tt n Tp x1 x2 x3 x4 = some (op) → wl g A s.heap (gcP g zp zt Tp ++ (gcT g zt Tt)) H locs → lv_has ls 7 [(0, .ref (zp 0)), (1, .int x1), (2, .int x2), (3, .int x3), (4, .int x4)] → W p l e (rmK 3 73) s m args below meth c H locs 0 0 (MQ below (Qv g A (gcP g zp zt op ++ (gcT g zt Tt))) args s 0 0 A) (F0 m 11 ls []) := by
  intro n
  induction n with
  | zero => intro _ _ _ _ _ _ _ _ hf; exact no_f hf
  | succ n ih => intro _ _ _ _ _ _ _ _ hf hw hl; exact kX5_findWorths_11 (zp := zp) (zt := zt) (op := op) C (rec11 := lX5_findWorths_11 Tt n) ih hf hw hl
set_option maxRecDepth 100000 in
set_option maxHeartbeats 4000000 in
theorem c_X5_findWorths {l : Launch} {g : evG} {zp : Nat → Nat} {zt : Nat → Nat} {op : Gp}  {Tp : Gp} {Tt : Gp} {x1 : Int32} {x2 : Int32} {x3 : Int32} (hf : fX5_findWorths Tp Tt x1 x2 x3 = some (op)) : CTv l g yX5_findWorths (Cond.code yX5_findWorths cX5_findWorths 7 none) 3 73 [.ref (zp 0), .int x1, .int x2, .int x3] (gcP g zp zt Tp ++ (gcT g zt Tt)) (gcP g zp zt op ++ (gcT g zt Tt)) := by
  refine ct_v rfl (Nat.le_of_ble_eq_true rfl) ?_
  intro p e s m args below meth c A ls C hw hl
  have C : ctx g p s m args meth c RX5 cX5_findWorths 7 none A := C
  have hl : lv_has ls 7 [(0, .ref (zp 0)), (1, .int x1), (2, .int x2), (3, .int x3)] := hl
  obtain ⟨hx, hb, hml, hown, hts, -⟩ := id C
  unfold fX5_findWorths at hf
  refine lv_aload_n hx hb dX5_findWorths_0 rfl (lv_at hl 0 rfl) ?_
  refine r_get C hw 0 rfl cf_X5 2 (by decide) q1_177 (v := .ref (zp 2)) rfl dX5_findWorths_1 ?_
  refine lv_iconst (v := (-1 : Int32)) hx hb dX5_findWorths_4 rfl ?_
  refine r_callSv C hw (c_fill (f := (Tp 2)) (n := 41) (a := zp 2) (v := (-1 : Int32)) (by decide)) md_J7_fill_53178 [2] rfl rfl rfl q3_188 ⟨Nat.le_of_ble_eq_true rfl, Nat.le_of_ble_eq_true rfl⟩ ⟨Nat.zero_le _, Nat.zero_le _⟩ hl.1 rfl rfl (Nat.le_of_ble_eq_true rfl) dX5_findWorths_5 (fun H locs hw => ?_)
  have hw : wl g A s.heap (gcP g zp zt (uc Tp 2 (ev_fill (Tp 2) 41 (-1 : Int32))) ++ (gcT g zt Tt)) H locs := wl.eq hw (set_l (Nat.le_of_ble_eq_true rfl) gcP_u2)
  refine lv_iconst (v := (0 : Int32)) hx hb dX5_findWorths_8 rfl ?_
  refine lv_istore (lv' := [(4, .int (0 : Int32)), (0, .ref (zp 0)), (1, .int x1), (2, .int x2), (3, .int x3)]) hx hb dX5_findWorths_9 hl (by decide) rfl (fun ls hl => ?_)
  exact klX5_findWorths_11 (zp := zp) (zt := zt) (op := op) C fu _ _ _ _ _ _ _ _ hf hw (lv_sub hl [1, 2, 3, 4, 0] rfl)
set_option maxRecDepth 100000 in
set_option maxHeartbeats 4000000 in
theorem c_X5_offer {l : Launch} {g : evG} {zp : Nat → Nat} {zt : Nat → Nat} {op : Gp}  {Tp : Gp} {x1 : Int32} {x2 : Int32} {x3 : Int32} (hf : fX5_offer Tp x1 x2 x3 = some (op)) : CTv l g yX5_offer (Cond.code yX5_offer cX5_offer 5 none) 1 22 [.ref (zp 0), .int x1, .int x2, .int x3] (gcP g zp zt Tp) (gcP g zp zt op) := by
  refine ct_v rfl (Nat.le_of_ble_eq_true rfl) ?_
  intro p e s m args below meth c A ls C hw hl
  have C : ctx g p s m args meth c RX5 cX5_offer 5 none A := C
  have hl : lv_has ls 5 [(0, .ref (zp 0)), (1, .int x1), (2, .int x2), (3, .int x3)] := hl
  obtain ⟨hx, hb, hml, hown, hts, -⟩ := id C
  unfold fX5_offer at hf
  refine lv_iload_n hx hb dX5_offer_0 rfl (lv_at hl 1 rfl) ?_
  refine lv_iload_n hx hb dX5_offer_1 rfl (lv_at hl 2 rfl) ?_
  refine lv_iadd hx hb dX5_offer_2 ?_
  refine lv_istore (lv' := [(4, .int (x1 + x2)), (0, .ref (zp 0)), (1, .int x1), (2, .int x2), (3, .int x3)]) hx hb dX5_offer_3 hl (by decide) rfl (fun ls hl => ?_)
  refine lv_iload hx hb dX5_offer_5 (lv_at hl 0 rfl) ?_
  refine lv_iconst (v := (0 : Int32)) hx hb dX5_offer_7 rfl ?_
  refine lv_aload_n hx hb dX5_offer_8 rfl (lv_at hl 1 rfl) ?_
  refine r_get C hw 0 rfl cf_X5 1 (by decide) q1_176 (v := .ref (zp 1)) rfl dX5_offer_9 ?_
  refine r_alen C hw 1 0 rfl rfl (v := (10050 : Int32)) rfl dX5_offer_12 ?_
  refine lv_iconst (v := (1 : Int32)) hx hb dX5_offer_13 rfl ?_
  refine lv_isub hx hb dX5_offer_14 ?_
  obtain ⟨r1, hc2, hf⟩ := bd1_e hf
  refine r_callNi0 C hw (c_X10_within hc2) md_X10_within [] rfl rfl nq_36 ⟨Nat.le_of_ble_eq_true rfl, Nat.le_of_ble_eq_true rfl⟩ ⟨Nat.zero_le _, Nat.zero_le _⟩ hl.1 rfl rfl (Nat.le_of_ble_eq_true rfl) dX5_offer_15 (fun H locs hw => ?_)
  refine lv_if_eq (tgt := 40) hx hb dX5_offer_18 (by decide) (fun hc6 => ?_) (fun hc6 => ?_)
  · have hf := it_p hf hc6
    obtain rfl := so1 hf
    exact r_vret C hw dX5_offer_40
  · have hf := it_n hf hc6
    refine lv_aload_n hx hb dX5_offer_21 rfl (lv_at hl 1 rfl) ?_
    refine r_get C hw 0 rfl cf_X5 1 (by decide) q1_176 (v := .ref (zp 1)) rfl dX5_offer_22 ?_
    refine lv_iload hx hb dX5_offer_25 (lv_at hl 0 rfl) ?_
    obtain ⟨hi3, hf⟩ := it_g hf
    refine r_iald C hw 1 (f := (Tp 1)) rfl hi3 dX5_offer_27 ?_
    refine lv_iload_n hx hb dX5_offer_28 rfl (lv_at hl 4 rfl) ?_
    refine lv_icmp_ge (tgt := 40) hx hb dX5_offer_29 (by decide) (fun hc5 => ?_) (fun hc5 => ?_)
    · have hf := it_p hf hc5
      obtain rfl := so1 hf
      exact r_vret C hw dX5_offer_40
    · have hf := it_n hf hc5
      refine lv_aload_n hx hb dX5_offer_32 rfl (lv_at hl 1 rfl) ?_
      refine r_get C hw 0 rfl cf_X5 1 (by decide) q1_176 (v := .ref (zp 1)) rfl dX5_offer_33 ?_
      refine lv_iload hx hb dX5_offer_36 (lv_at hl 0 rfl) ?_
      refine lv_iload_n hx hb dX5_offer_38 rfl (lv_at hl 4 rfl) ?_
      obtain ⟨hi4, hf⟩ := it_g hf
      refine r_iast C hw 1 (f := (Tp 1)) rfl hi4 (ws' := (gcP g zp zt (u2 Tp 1 (x1 + x2).toNatClampNeg x3))) gcP_a1 dX5_offer_39 (fun H locs hw => ?_)
      obtain rfl := so1 hf
      exact r_vret C hw dX5_offer_40
set_option maxRecDepth 100000 in
set_option maxHeartbeats 4000000 in
theorem kX5_offerAll_3 {l : Launch} {g : evG} {p : Program} {e : Env} {s : State} {m : MethodId} {args : Array Value} {below : List Frame} {meth : Method} {c : Code} {A : Nat → Prop} {zp : Nat → Nat} {zt : Nat → Nat} {op : Gp} (C : ctx g p s m args meth c RX5 cX5_offerAll 6 none A) {rec3 : Gp → Int32 → Int32 → Int32 → Int32 → Option (Gp)} (hr3 : ∀ (Tp : Gp) (x1 : Int32) (x2 : Int32) (x3 : Int32) (x4 : Int32) (H : Heap) (locs : List Loc) (ls : Array Slot), rec3 Tp x1 x2 x3 x4 = some (op) → wl g A s.heap (gcP g zp zt Tp) H locs → lv_has ls 6 [(0, .ref (zp 0)), (1, .int x1), (2, .int x2), (3, .int x3), (4, .int x4)] → W p l e (rmK 2 46) s m args below meth c H locs 0 0 (MQ below (Qv g A (gcP g zp zt op)) args s 0 0 A) (F0 m 3 ls [])) {Tp : Gp} {x1 : Int32} {x2 : Int32} {x3 : Int32} {x4 : Int32} {H : Heap} {locs : List Loc} {ls : Array Slot} (hf : fX5_offerAll_3 rec3 Tp x1 x2 x3 x4 = some (op)) (hw : wl g A s.heap (gcP g zp zt Tp) H locs) (hl : lv_has ls 6 [(0, .ref (zp 0)), (1, .int x1), (2, .int x2), (3, .int x3), (4, .int x4)]) : W p l e (rmK 2 46) s m args below meth c H locs 0 0 (MQ below (Qv g A (gcP g zp zt op)) args s 0 0 A) (F0 m 3 ls []) := by
  obtain ⟨hx, hb, hml, hown, hts, -⟩ := id C
  unfold fX5_offerAll_3 at hf
  refine lv_iload hx hb dX5_offerAll_3 (lv_at hl 4 rfl) ?_
  refine lv_sipush (v := (201 : Int32)) hx hb dX5_offerAll_5 rfl ?_
  refine lv_icmp_ge (tgt := 50) hx hb dX5_offerAll_8 (by decide) (fun hc6 => ?_) (fun hc6 => ?_)
  · have hf := it_p hf hc6
    obtain rfl := so1 hf
    exact r_vret C hw dX5_offerAll_50
  · have hf := it_n hf hc6
    refine lv_aload_n hx hb dX5_offerAll_11 rfl (lv_at hl 0 rfl) ?_
    refine lv_iload_n hx hb dX5_offerAll_12 rfl (lv_at hl 1 rfl) ?_
    refine lv_sipush (v := (201 : Int32)) hx hb dX5_offerAll_13 rfl ?_
    refine lv_iadd hx hb dX5_offerAll_16 ?_
    refine lv_iload hx hb dX5_offerAll_17 (lv_at hl 4 rfl) ?_
    refine lv_iload_n hx hb dX5_offerAll_19 rfl (lv_at hl 2 rfl) ?_
    refine lv_isub hx hb dX5_offerAll_20 ?_
    obtain ⟨r1, hc2, hf⟩ := bd1_e hf
    refine r_callVi0 C hw (c_X5_bestFrom (zp := zp) (zt := zt) hc2) md_X5_bestFrom [0, 1, 2, 3] rfl rfl q3_216 0 rfl cf_X5.1 ⟨Nat.le_of_ble_eq_true rfl, Nat.le_of_ble_eq_true rfl⟩ ⟨Nat.zero_le _, Nat.zero_le _⟩ hl.1 rfl rfl (Nat.le_of_ble_eq_true rfl) dX5_offerAll_21 (fun H locs hw => ?_)
    refine lv_istore (lv' := [(5, .int r1), (0, .ref (zp 0)), (1, .int x1), (2, .int x2), (3, .int x3), (4, .int x4)]) hx hb dX5_offerAll_24 hl (by decide) rfl (fun ls hl => ?_)
    refine lv_iload hx hb dX5_offerAll_26 (lv_at hl 0 rfl) ?_
    refine lv_iconst (v := (-1 : Int32)) hx hb dX5_offerAll_28 rfl ?_
    refine lv_icmp_ne (tgt := 33) hx hb dX5_offerAll_29 (by decide) (fun hc5 => ?_) (fun hc5 => ?_)
    · have hf := it_n hf hc5
      refine lv_aload_n hx hb dX5_offerAll_33 rfl (lv_at hl 1 rfl) ?_
      refine lv_iload_n hx hb dX5_offerAll_34 rfl (lv_at hl 2 rfl) ?_
      refine lv_iload hx hb dX5_offerAll_35 (lv_at hl 5 rfl) ?_
      refine lv_iload hx hb dX5_offerAll_37 (lv_at hl 0 rfl) ?_
      refine lv_iload_n hx hb dX5_offerAll_39 rfl (lv_at hl 4 rfl) ?_
      refine lv_iadd hx hb dX5_offerAll_40 ?_
      obtain ⟨Tp_3, hc4, hf⟩ := bd1_e hf
      refine r_callVvF C hw (c_X5_offer (zp := zp) (zt := zt) hc4) md_X5_offer [0, 1, 2, 3] rfl rfl rfl rfl q3_180 0 rfl cf_X5.1 ⟨Nat.le_of_ble_eq_true rfl, Nat.le_of_ble_eq_true rfl⟩ ⟨Nat.zero_le _, Nat.zero_le _⟩ hl.1 rfl rfl (Nat.le_of_ble_eq_true rfl) dX5_offerAll_41 (fun H locs hw => ?_)
      refine lv_iinc (v := (x4 + (1 : Int32))) (lv' := [(4, .int (x4 + (1 : Int32))), (5, .int r1), (0, .ref (zp 0)), (1, .int x1), (2, .int x2), (3, .int x3)]) hx hb dX5_offerAll_44 hl (k := 5) rfl rfl (by decide) rfl (fun ls hl => ?_)
      refine lv_goto (tgt := 3) hx hb dX5_offerAll_47 (by decide) ?_
      exact hr3 _ _ _ _ _ _ _ _ hf hw (lv_sub hl [2, 3, 4, 5, 0] rfl)
    · have hf := it_p hf hc5
      obtain rfl := so1 hf
      exact r_vret C hw dX5_offerAll_32
set_option maxRecDepth 100000 in
set_option maxHeartbeats 4000000 in
theorem klX5_offerAll_3 {l : Launch} {g : evG} {p : Program} {e : Env} {s : State} {m : MethodId} {args : Array Value} {below : List Frame} {meth : Method} {c : Code} {A : Nat → Prop} {zp : Nat → Nat} {zt : Nat → Nat} {op : Gp} (C : ctx g p s m args meth c RX5 cX5_offerAll 6 none A) : ∀ (n : Nat) (Tp : Gp) (x1 : Int32) (x2 : Int32) (x3 : Int32) (x4 : Int32) (H : Heap) (locs : List Loc) (ls : Array Slot), lX5_offerAll_3 n Tp x1 x2 x3 x4 = some (op) → wl g A s.heap (gcP g zp zt Tp) H locs → lv_has ls 6 [(0, .ref (zp 0)), (1, .int x1), (2, .int x2), (3, .int x3), (4, .int x4)] → W p l e (rmK 2 46) s m args below meth c H locs 0 0 (MQ below (Qv g A (gcP g zp zt op)) args s 0 0 A) (F0 m 3 ls []) := by
  intro n
  induction n with
  | zero => intro _ _ _ _ _ _ _ _ hf; exact no_f hf
  | succ n ih => intro _ _ _ _ _ _ _ _ hf hw hl; exact kX5_offerAll_3 (zp := zp) (zt := zt) (op := op) C (rec3 := lX5_offerAll_3 n) ih hf hw hl
set_option maxRecDepth 100000 in
set_option maxHeartbeats 4000000 in
theorem c_X5_offerAll {l : Launch} {g : evG} {zp : Nat → Nat} {zt : Nat → Nat} {op : Gp}  {Tp : Gp} {x1 : Int32} {x2 : Int32} {x3 : Int32} (hf : fX5_offerAll Tp x1 x2 x3 = some (op)) : CTv l g yX5_offerAll (Cond.code yX5_offerAll cX5_offerAll 6 none) 2 46 [.ref (zp 0), .int x1, .int x2, .int x3] (gcP g zp zt Tp) (gcP g zp zt op) := by
  refine ct_v rfl (Nat.le_of_ble_eq_true rfl) ?_
  intro p e s m args below meth c A ls C hw hl
  have C : ctx g p s m args meth c RX5 cX5_offerAll 6 none A := C
  have hl : lv_has ls 6 [(0, .ref (zp 0)), (1, .int x1), (2, .int x2), (3, .int x3)] := hl
  obtain ⟨hx, hb, hml, hown, hts, -⟩ := id C
  unfold fX5_offerAll at hf
  refine lv_iconst (v := (0 : Int32)) hx hb dX5_offerAll_0 rfl ?_
  refine lv_istore (lv' := [(4, .int (0 : Int32)), (0, .ref (zp 0)), (1, .int x1), (2, .int x2), (3, .int x3)]) hx hb dX5_offerAll_1 hl (by decide) rfl (fun ls hl => ?_)
  exact klX5_offerAll_3 (zp := zp) (zt := zt) (op := op) C fu _ _ _ _ _ _ _ _ hf hw (lv_sub hl [1, 2, 3, 4, 0] rfl)
set_option maxRecDepth 100000 in
set_option maxHeartbeats 4000000 in
theorem kX5_reckonRow_10 {l : Launch} {g : evG} {p : Program} {e : Env} {s : State} {m : MethodId} {args : Array Value} {below : List Frame} {meth : Method} {c : Code} {A : Nat → Prop} {zp : Nat → Nat} {zt : Nat → Nat} {op : Gp} (C : ctx g p s m args meth c RX5 cX5_reckonRow 4 none A) {rec10 : Gp → Int32 → Int32 → Int32 → Option (Gp)} (hr10 : ∀ (Tp : Gp) (x1 : Int32) (x2 : Int32) (x3 : Int32) (H : Heap) (locs : List Loc) (ls : Array Slot), rec10 Tp x1 x2 x3 = some (op) → wl g A s.heap (gcP g zp zt Tp) H locs → lv_has ls 4 [(0, .ref (zp 0)), (1, .int x1), (2, .int x2), (3, .int x3)] → W p l e (rmK 3 71) s m args below meth c H locs 0 0 (MQ below (Qv g A (gcP g zp zt op)) args s 0 0 A) (F0 m 10 ls [])) {Tp : Gp} {x1 : Int32} {x2 : Int32} {x3 : Int32} {H : Heap} {locs : List Loc} {ls : Array Slot} (hf : fX5_reckonRow_10 rec10 Tp x1 x2 x3 = some (op)) (hw : wl g A s.heap (gcP g zp zt Tp) H locs) (hl : lv_has ls 4 [(0, .ref (zp 0)), (1, .int x1), (2, .int x2), (3, .int x3)]) : W p l e (rmK 3 71) s m args below meth c H locs 0 0 (MQ below (Qv g A (gcP g zp zt op)) args s 0 0 A) (F0 m 10 ls []) := by
  obtain ⟨hx, hb, hml, hown, hts, -⟩ := id C
  unfold fX5_reckonRow_10 at hf
  refine lv_iload_n hx hb dX5_reckonRow_10 rfl (lv_at hl 3 rfl) ?_
  refine lv_if_lt (tgt := 47) hx hb dX5_reckonRow_11 (by decide) (fun hc6 => ?_) (fun hc6 => ?_)
  · have hf := it_p hf hc6
    obtain rfl := so1 hf
    exact r_vret C hw dX5_reckonRow_47
  · have hf := it_n hf hc6
    refine lv_aload_n hx hb dX5_reckonRow_14 rfl (lv_at hl 0 rfl) ?_
    refine r_get C hw 0 rfl cf_X5 2 (by decide) q1_177 (v := .ref (zp 2)) rfl dX5_reckonRow_15 ?_
    refine lv_iload_n hx hb dX5_reckonRow_18 rfl (lv_at hl 3 rfl) ?_
    obtain ⟨hi1, hf⟩ := it_g hf
    refine r_iald C hw 2 (f := (Tp 2)) rfl hi1 dX5_reckonRow_19 ?_
    refine lv_iload_n hx hb dX5_reckonRow_20 rfl (lv_at hl 2 rfl) ?_
    refine lv_icmp_gt (tgt := 27) hx hb dX5_reckonRow_21 (by decide) (fun hc5 => ?_) (fun hc5 => ?_)
    · have hf := it_p hf hc5
      refine lv_aload_n hx hb dX5_reckonRow_27 rfl (lv_at hl 0 rfl) ?_
      refine r_get C hw 0 rfl cf_X5 2 (by decide) q1_177 (v := .ref (zp 2)) rfl dX5_reckonRow_28 ?_
      refine lv_iload_n hx hb dX5_reckonRow_31 rfl (lv_at hl 3 rfl) ?_
      obtain ⟨hi2, hf⟩ := it_g hf
      refine r_iald C hw 2 (f := (Tp 2)) rfl hi2 dX5_reckonRow_32 ?_
      refine lv_istore_n (lv' := [(2, .int (Tp 2 x3.toNatClampNeg)), (0, .ref (zp 0)), (1, .int x1), (3, .int x3)]) hx hb dX5_reckonRow_33 rfl hl (by decide) rfl (fun ls hl => ?_)
      refine lv_aload_n hx hb dX5_reckonRow_34 rfl (lv_at hl 1 rfl) ?_
      refine lv_iload_n hx hb dX5_reckonRow_35 rfl (lv_at hl 2 rfl) ?_
      refine lv_iload_n hx hb dX5_reckonRow_36 rfl (lv_at hl 3 rfl) ?_
      refine lv_iload_n hx hb dX5_reckonRow_37 rfl (lv_at hl 0 rfl) ?_
      obtain ⟨Tp_3, hc4, hf⟩ := bd1_e hf
      refine r_callVvF C hw (c_X5_offerAll (zp := zp) (zt := zt) hc4) md_X5_offerAll [0, 1, 2, 3] rfl rfl rfl rfl q3_212 0 rfl cf_X5.1 ⟨Nat.le_of_ble_eq_true rfl, Nat.le_of_ble_eq_true rfl⟩ ⟨Nat.zero_le _, Nat.zero_le _⟩ hl.1 rfl rfl (Nat.le_of_ble_eq_true rfl) dX5_reckonRow_38 (fun H locs hw => ?_)
      refine lv_iinc (v := (x3 + (-1 : Int32))) (lv' := [(3, .int (x3 + (-1 : Int32))), (2, .int (Tp 2 x3.toNatClampNeg)), (0, .ref (zp 0)), (1, .int x1)]) hx hb dX5_reckonRow_41 hl (k := 3) rfl rfl (by decide) rfl (fun ls hl => ?_)
      refine lv_goto (tgt := 10) hx hb dX5_reckonRow_44 (by decide) ?_
      exact hr10 _ _ _ _ _ _ _ hf hw (lv_sub hl [2, 3, 1, 0] rfl)
    · have hf := it_n hf hc5
      refine lv_goto (tgt := 41) hx hb dX5_reckonRow_24 (by decide) ?_
      refine lv_iinc (v := (x3 + (-1 : Int32))) (lv' := [(3, .int (x3 + (-1 : Int32))), (0, .ref (zp 0)), (1, .int x1), (2, .int x2)]) hx hb dX5_reckonRow_41 hl (k := 3) rfl rfl (by decide) rfl (fun ls hl => ?_)
      refine lv_goto (tgt := 10) hx hb dX5_reckonRow_44 (by decide) ?_
      exact hr10 _ _ _ _ _ _ _ hf hw (lv_sub hl [1, 2, 3, 0] rfl)
set_option maxRecDepth 100000 in
set_option maxHeartbeats 4000000 in
theorem klX5_reckonRow_10 {l : Launch} {g : evG} {p : Program} {e : Env} {s : State} {m : MethodId} {args : Array Value} {below : List Frame} {meth : Method} {c : Code} {A : Nat → Prop} {zp : Nat → Nat} {zt : Nat → Nat} {op : Gp} (C : ctx g p s m args meth c RX5 cX5_reckonRow 4 none A) : ∀ (n : Nat) (Tp : Gp) (x1 : Int32) (x2 : Int32) (x3 : Int32) (H : Heap) (locs : List Loc) (ls : Array Slot), lX5_reckonRow_10 n Tp x1 x2 x3 = some (op) → wl g A s.heap (gcP g zp zt Tp) H locs → lv_has ls 4 [(0, .ref (zp 0)), (1, .int x1), (2, .int x2), (3, .int x3)] → W p l e (rmK 3 71) s m args below meth c H locs 0 0 (MQ below (Qv g A (gcP g zp zt op)) args s 0 0 A) (F0 m 10 ls []) := by
  intro n
  induction n with
  | zero => intro _ _ _ _ _ _ _ hf; exact no_f hf
  | succ n ih => intro _ _ _ _ _ _ _ hf hw hl; exact kX5_reckonRow_10 (zp := zp) (zt := zt) (op := op) C (rec10 := lX5_reckonRow_10 n) ih hf hw hl
set_option maxRecDepth 100000 in
set_option maxHeartbeats 4000000 in
theorem c_X5_reckonRow {l : Launch} {g : evG} {zp : Nat → Nat} {zt : Nat → Nat} {op : Gp}  {Tp : Gp} {x1 : Int32} (hf : fX5_reckonRow Tp x1 = some (op)) : CTv l g yX5_reckonRow (Cond.code yX5_reckonRow cX5_reckonRow 4 none) 3 71 [.ref (zp 0), .int x1] (gcP g zp zt Tp) (gcP g zp zt op) := by
  refine ct_v rfl (Nat.le_of_ble_eq_true rfl) ?_
  intro p e s m args below meth c A ls C hw hl
  have C : ctx g p s m args meth c RX5 cX5_reckonRow 4 none A := C
  have hl : lv_has ls 4 [(0, .ref (zp 0)), (1, .int x1)] := hl
  obtain ⟨hx, hb, hml, hown, hts, -⟩ := id C
  unfold fX5_reckonRow at hf
  refine lv_iconst (v := (-1 : Int32)) hx hb dX5_reckonRow_0 rfl ?_
  refine lv_istore_n (lv' := [(2, .int (-1 : Int32)), (0, .ref (zp 0)), (1, .int x1)]) hx hb dX5_reckonRow_1 rfl hl (by decide) rfl (fun ls hl => ?_)
  refine lv_aload_n hx hb dX5_reckonRow_2 rfl (lv_at hl 1 rfl) ?_
  refine lv_iload_n hx hb dX5_reckonRow_3 rfl (lv_at hl 2 rfl) ?_
  obtain ⟨Tp_1, hc2, hf⟩ := bd1_e hf
  refine r_callVvF C hw (c_X5_clearRow (zp := zp) (zt := zt) hc2) md_X5_clearRow [0, 1, 2, 3] rfl rfl rfl rfl q3_176 0 rfl cf_X5.1 ⟨Nat.le_of_ble_eq_true rfl, Nat.le_of_ble_eq_true rfl⟩ ⟨Nat.zero_le _, Nat.zero_le _⟩ hl.1 rfl rfl (Nat.le_of_ble_eq_true rfl) dX5_reckonRow_4 (fun H locs hw => ?_)
  refine lv_bipush (v := (40 : Int32)) hx hb dX5_reckonRow_7 rfl ?_
  refine lv_istore_n (lv' := [(3, .int (40 : Int32)), (2, .int (-1 : Int32)), (0, .ref (zp 0)), (1, .int x1)]) hx hb dX5_reckonRow_9 rfl hl (by decide) rfl (fun ls hl => ?_)
  exact klX5_reckonRow_10 (zp := zp) (zt := zt) (op := op) C fu _ _ _ _ _ _ _ hf hw (lv_sub hl [2, 3, 1, 0] rfl)
set_option maxRecDepth 100000 in
set_option maxHeartbeats 4000000 in
theorem c_X5_rowOf {l : Launch} {g : evG} {zp : Nat → Nat} {zt : Nat → Nat} {r : Int32}  {Tp : Gp} {Tt : Gp} {x1 : Int32} {x2 : Int32} {x3 : Int32} (hf : fX5_rowOf Tp Tt x1 x2 x3 = some (r)) : CTi l g yX5_rowOf (Cond.code yX5_rowOf cX5_rowOf 4 (some .int)) 0 0 [.ref (zp 0), .int x1, .int x2, .int x3] (gcP g zp zt Tp ++ (gcT g zt Tt)) (gcP g zp zt Tp ++ (gcT g zt Tt)) r := by
  refine ct_i rfl (Nat.le_of_ble_eq_true rfl) ?_
  intro p e s m args below meth c A ls C hw hl
  have C : ctx g p s m args meth c RX5 cX5_rowOf 4 (some .int) A := C
  have hl : lv_has ls 4 [(0, .ref (zp 0)), (1, .int x1), (2, .int x2), (3, .int x3)] := hl
  obtain ⟨hx, hb, hml, hown, hts, -⟩ := id C
  unfold fX5_rowOf at hf
  refine lv_iload_n hx hb dX5_rowOf_0 rfl (lv_at hl 1 rfl) ?_
  refine lv_bipush (v := (25 : Int32)) hx hb dX5_rowOf_1 rfl ?_
  refine lv_imul hx hb dX5_rowOf_3 ?_
  refine lv_iload_n hx hb dX5_rowOf_4 rfl (lv_at hl 2 rfl) ?_
  refine lv_aload_n hx hb dX5_rowOf_5 rfl (lv_at hl 0 rfl) ?_
  refine r_get C hw 0 rfl cf_X5 0 (by decide) q1_175 (v := .ref (zt 0)) rfl dX5_rowOf_6 ?_
  refine r_getN C hw 4 rfl cf_X9 1 (by decide) nq_4 (v := .int (Tt 0 1)) rfl dX5_rowOf_9 ?_
  refine lv_imul hx hb dX5_rowOf_12 ?_
  refine lv_iadd hx hb dX5_rowOf_13 ?_
  refine lv_iload_n hx hb dX5_rowOf_14 rfl (lv_at hl 3 rfl) ?_
  refine lv_iadd hx hb dX5_rowOf_15 ?_
  refine lv_sipush (v := (201 : Int32)) hx hb dX5_rowOf_16 rfl ?_
  refine lv_imul hx hb dX5_rowOf_19 ?_
  obtain rfl := so1 hf
  exact r_iret C hw rfl dX5_rowOf_20
set_option maxRecDepth 100000 in
set_option maxHeartbeats 4000000 in
theorem kX5_reckon_60 {l : Launch} {g : evG} {p : Program} {e : Env} {s : State} {m : MethodId} {args : Array Value} {below : List Frame} {meth : Method} {c : Code} {A : Nat → Prop} {zp : Nat → Nat} {zt : Nat → Nat} {op : Gp} (C : ctx g p s m args meth c RX5 cX5_reckon 4 none A) {Tt : Gp} {rec46 : Gp → Int32 → Int32 → Option (Gp)} {rec60 : Gp → Int32 → Int32 → Int32 → Option (Gp)} (hr46 : ∀ (Tp : Gp) (x1 : Int32) (x2 : Int32) (H : Heap) (locs : List Loc) (ls : Array Slot), rec46 Tp x1 x2 = some (op) → wl g A s.heap (gcP g zp zt Tp ++ (gcT g zt Tt)) H locs → lv_has ls 4 [(0, .ref (zp 0)), (1, .int x1), (2, .int x2)] → W p l e (rmK 4 99) s m args below meth c H locs 0 0 (MQ below (Qv g A (gcP g zp zt op ++ (gcT g zt Tt))) args s 0 0 A) (F0 m 46 ls [])) (hr60 : ∀ (Tp : Gp) (x1 : Int32) (x2 : Int32) (x3 : Int32) (H : Heap) (locs : List Loc) (ls : Array Slot), rec60 Tp x1 x2 x3 = some (op) → wl g A s.heap (gcP g zp zt Tp ++ (gcT g zt Tt)) H locs → lv_has ls 4 [(0, .ref (zp 0)), (1, .int x1), (2, .int x2), (3, .int x3)] → W p l e (rmK 4 99) s m args below meth c H locs 0 0 (MQ below (Qv g A (gcP g zp zt op ++ (gcT g zt Tt))) args s 0 0 A) (F0 m 60 ls [])) {Tp : Gp} {x1 : Int32} {x2 : Int32} {x3 : Int32} {H : Heap} {locs : List Loc} {ls : Array Slot} (hf : fX5_reckon_60 Tt rec46 rec60 Tp x1 x2 x3 = some (op)) (hw : wl g A s.heap (gcP g zp zt Tp ++ (gcT g zt Tt)) H locs) (hl : lv_has ls 4 [(0, .ref (zp 0)), (1, .int x1), (2, .int x2), (3, .int x3)]) : W p l e (rmK 4 99) s m args below meth c H locs 0 0 (MQ below (Qv g A (gcP g zp zt op ++ (gcT g zt Tt))) args s 0 0 A) (F0 m 60 ls []) := by
  obtain ⟨hx, hb, hml, hown, hts, -⟩ := id C
  unfold fX5_reckon_60 at hf
  refine lv_iload_n hx hb dX5_reckon_60 rfl (lv_at hl 3 rfl) ?_
  refine lv_if_lt (tgt := 88) hx hb dX5_reckon_61 (by decide) (fun hc7 => ?_) (fun hc7 => ?_)
  · have hf := it_p hf hc7
    refine lv_iinc (v := (x2 + (-1 : Int32))) (lv' := [(2, .int (x2 + (-1 : Int32))), (0, .ref (zp 0)), (1, .int x1), (3, .int x3)]) hx hb dX5_reckon_88 hl (k := 2) rfl rfl (by decide) rfl (fun ls hl => ?_)
    refine lv_goto (tgt := 46) hx hb dX5_reckon_91 (by decide) ?_
    exact hr46 _ _ _ _ _ _ hf hw (lv_sub hl [1, 2, 0] rfl)
  · have hf := it_n hf hc7
    refine lv_aload_n hx hb dX5_reckon_64 rfl (lv_at hl 0 rfl) ?_
    refine lv_iload_n hx hb dX5_reckon_65 rfl (lv_at hl 1 rfl) ?_
    refine lv_iload_n hx hb dX5_reckon_66 rfl (lv_at hl 2 rfl) ?_
    refine lv_iload_n hx hb dX5_reckon_67 rfl (lv_at hl 3 rfl) ?_
    obtain ⟨Tp_1, hc2, hf⟩ := bd1_e hf
    refine r_callVvF C hw (c_X5_findWorths (zp := zp) (zt := zt) hc2) md_X5_findWorths [0, 1, 2, 3, 4, 5, 6, 7, 8, 9] rfl rfl rfl rfl q3_184 0 rfl cf_X5.1 ⟨Nat.le_of_ble_eq_true rfl, Nat.le_of_ble_eq_true rfl⟩ ⟨Nat.zero_le _, Nat.zero_le _⟩ hl.1 rfl rfl (Nat.le_of_ble_eq_true rfl) dX5_reckon_68 (fun H locs hw => ?_)
    have hw : wl g A s.heap (gcP g zp zt Tp_1 ++ (gcT g zt Tt)) H locs := hw
    refine lv_aload_n hx hb dX5_reckon_71 rfl (lv_at hl 0 rfl) ?_
    refine lv_aload_n hx hb dX5_reckon_72 rfl (lv_at hl 0 rfl) ?_
    refine lv_iload_n hx hb dX5_reckon_73 rfl (lv_at hl 1 rfl) ?_
    refine lv_iload_n hx hb dX5_reckon_74 rfl (lv_at hl 2 rfl) ?_
    refine lv_iload_n hx hb dX5_reckon_75 rfl (lv_at hl 3 rfl) ?_
    obtain ⟨r3, hc4, hf⟩ := bd1_e hf
    refine r_callVi0 C hw (c_X5_rowOf (zp := zp) (zt := zt) hc4) md_X5_rowOf [0, 1, 2, 3, 4, 5, 6, 7, 8, 9] rfl rfl q3_172 0 rfl cf_X5.1 ⟨Nat.le_of_ble_eq_true rfl, Nat.le_of_ble_eq_true rfl⟩ ⟨Nat.zero_le _, Nat.zero_le _⟩ hl.1 rfl rfl (Nat.le_of_ble_eq_true rfl) dX5_reckon_76 (fun H locs hw => ?_)
    obtain ⟨Tp_5, hc6, hf⟩ := bd1_e hf
    refine r_callVv C hw (c_X5_reckonRow (zp := zp) (zt := zt) hc6) md_X5_reckonRow [0, 1, 2, 3] rfl rfl rfl q3_208 0 rfl cf_X5.1 ⟨Nat.le_of_ble_eq_true rfl, Nat.le_of_ble_eq_true rfl⟩ ⟨Nat.zero_le _, Nat.zero_le _⟩ hl.1 rfl rfl (Nat.le_of_ble_eq_true rfl) dX5_reckon_79 (fun H locs hw => ?_)
    have hw : wl g A s.heap (gcP g zp zt Tp_5 ++ (gcT g zt Tt)) H locs := hw
    refine lv_iinc (v := (x3 + (-1 : Int32))) (lv' := [(3, .int (x3 + (-1 : Int32))), (0, .ref (zp 0)), (1, .int x1), (2, .int x2)]) hx hb dX5_reckon_82 hl (k := 3) rfl rfl (by decide) rfl (fun ls hl => ?_)
    refine lv_goto (tgt := 60) hx hb dX5_reckon_85 (by decide) ?_
    exact hr60 _ _ _ _ _ _ _ hf hw (lv_sub hl [1, 2, 3, 0] rfl)
set_option maxRecDepth 100000 in
set_option maxHeartbeats 4000000 in
theorem klX5_reckon_60 {l : Launch} {g : evG} {p : Program} {e : Env} {s : State} {m : MethodId} {args : Array Value} {below : List Frame} {meth : Method} {c : Code} {A : Nat → Prop} {zp : Nat → Nat} {zt : Nat → Nat} {op : Gp} (C : ctx g p s m args meth c RX5 cX5_reckon 4 none A) {Tt : Gp} {rec46 : Gp → Int32 → Int32 → Option (Gp)} (hr46 : ∀ (Tp : Gp) (x1 : Int32) (x2 : Int32) (H : Heap) (locs : List Loc) (ls : Array Slot), rec46 Tp x1 x2 = some (op) → wl g A s.heap (gcP g zp zt Tp ++ (gcT g zt Tt)) H locs → lv_has ls 4 [(0, .ref (zp 0)), (1, .int x1), (2, .int x2)] → W p l e (rmK 4 99) s m args below meth c H locs 0 0 (MQ below (Qv g A (gcP g zp zt op ++ (gcT g zt Tt))) args s 0 0 A) (F0 m 46 ls [])) : ∀ (n : Nat) (Tp : Gp) (x1 : Int32) (x2 : Int32) (x3 : Int32) (H : Heap) (locs : List Loc) (ls : Array Slot), lX5_reckon_60 Tt rec46 n Tp x1 x2 x3 = some (op) → wl g A s.heap (gcP g zp zt Tp ++ (gcT g zt Tt)) H locs → lv_has ls 4 [(0, .ref (zp 0)), (1, .int x1), (2, .int x2), (3, .int x3)] → W p l e (rmK 4 99) s m args below meth c H locs 0 0 (MQ below (Qv g A (gcP g zp zt op ++ (gcT g zt Tt))) args s 0 0 A) (F0 m 60 ls []) := by
  intro n
  induction n with
  | zero => intro _ _ _ _ _ _ _ hf; exact no_f hf
  | succ n ih => intro _ _ _ _ _ _ _ hf hw hl; exact kX5_reckon_60 (zp := zp) (zt := zt) (op := op) C hr46 (rec60 := lX5_reckon_60 Tt rec46 n) ih hf hw hl
set_option maxRecDepth 100000 in
set_option maxHeartbeats 4000000 in
theorem kX5_reckon_46 {l : Launch} {g : evG} {p : Program} {e : Env} {s : State} {m : MethodId} {args : Array Value} {below : List Frame} {meth : Method} {c : Code} {A : Nat → Prop} {zp : Nat → Nat} {zt : Nat → Nat} {op : Gp} (C : ctx g p s m args meth c RX5 cX5_reckon 4 none A) {Tt : Gp} {rec46 : Gp → Int32 → Int32 → Option (Gp)} (hr46 : ∀ (Tp : Gp) (x1 : Int32) (x2 : Int32) (H : Heap) (locs : List Loc) (ls : Array Slot), rec46 Tp x1 x2 = some (op) → wl g A s.heap (gcP g zp zt Tp ++ (gcT g zt Tt)) H locs → lv_has ls 4 [(0, .ref (zp 0)), (1, .int x1), (2, .int x2)] → W p l e (rmK 4 99) s m args below meth c H locs 0 0 (MQ below (Qv g A (gcP g zp zt op ++ (gcT g zt Tt))) args s 0 0 A) (F0 m 46 ls [])) {Tp : Gp} {x1 : Int32} {x2 : Int32} {H : Heap} {locs : List Loc} {ls : Array Slot} (hf : fX5_reckon_46 Tt rec46 Tp x1 x2 = some (op)) (hw : wl g A s.heap (gcP g zp zt Tp ++ (gcT g zt Tt)) H locs) (hl : lv_has ls 4 [(0, .ref (zp 0)), (1, .int x1), (2, .int x2)]) : W p l e (rmK 4 99) s m args below meth c H locs 0 0 (MQ below (Qv g A (gcP g zp zt op ++ (gcT g zt Tt))) args s 0 0 A) (F0 m 46 ls []) := by
  obtain ⟨hx, hb, hml, hown, hts, -⟩ := id C
  unfold fX5_reckon_46 at hf
  refine lv_iload_n hx hb dX5_reckon_46 rfl (lv_at hl 2 rfl) ?_
  refine lv_if_lt (tgt := 94) hx hb dX5_reckon_47 (by decide) (fun hc1 => ?_) (fun hc1 => ?_)
  · have hf := it_p hf hc1
    obtain rfl := so1 hf
    exact r_vret C hw dX5_reckon_94
  · have hf := it_n hf hc1
    refine lv_aload_n hx hb dX5_reckon_50 rfl (lv_at hl 0 rfl) ?_
    refine r_get C hw 0 rfl cf_X5 0 (by decide) q1_175 (v := .ref (zt 0)) rfl dX5_reckon_51 ?_
    refine r_getN C hw 4 rfl cf_X9 1 (by decide) nq_4 (v := .int (Tt 0 1)) rfl dX5_reckon_54 ?_
    refine lv_iconst (v := (1 : Int32)) hx hb dX5_reckon_57 rfl ?_
    refine lv_isub hx hb dX5_reckon_58 ?_
    refine lv_istore_n (lv' := [(3, .int ((Tt 0 1) - (1 : Int32))), (0, .ref (zp 0)), (1, .int x1), (2, .int x2)]) hx hb dX5_reckon_59 rfl hl (by decide) rfl (fun ls hl => ?_)
    exact klX5_reckon_60 (zp := zp) (zt := zt) (op := op) C hr46 fu _ _ _ _ _ _ _ hf hw (lv_sub hl [1, 2, 3, 0] rfl)
set_option maxRecDepth 100000 in
set_option maxHeartbeats 4000000 in
theorem klX5_reckon_46 {l : Launch} {g : evG} {p : Program} {e : Env} {s : State} {m : MethodId} {args : Array Value} {below : List Frame} {meth : Method} {c : Code} {A : Nat → Prop} {zp : Nat → Nat} {zt : Nat → Nat} {op : Gp} (C : ctx g p s m args meth c RX5 cX5_reckon 4 none A) {Tt : Gp} : ∀ (n : Nat) (Tp : Gp) (x1 : Int32) (x2 : Int32) (H : Heap) (locs : List Loc) (ls : Array Slot), lX5_reckon_46 Tt n Tp x1 x2 = some (op) → wl g A s.heap (gcP g zp zt Tp ++ (gcT g zt Tt)) H locs → lv_has ls 4 [(0, .ref (zp 0)), (1, .int x1), (2, .int x2)] → W p l e (rmK 4 99) s m args below meth c H locs 0 0 (MQ below (Qv g A (gcP g zp zt op ++ (gcT g zt Tt))) args s 0 0 A) (F0 m 46 ls []) := by
  intro n
  induction n with
  | zero => intro _ _ _ _ _ _ hf; exact no_f hf
  | succ n ih => intro _ _ _ _ _ _ hf hw hl; exact kX5_reckon_46 (zp := zp) (zt := zt) (op := op) C (rec46 := lX5_reckon_46 Tt n) ih hf hw hl
set_option maxRecDepth 100000 in
set_option maxHeartbeats 4000000 in
theorem c_X5_reckon {l : Launch} {g : evG} {zp : Nat → Nat} {zt : Nat → Nat} {op : Gp}  {Tp : Gp} {Tt : Gp} {x1 : Int32} (hf : fX5_reckon Tp Tt x1 = some (op)) : CTv l g yX5_reckon (Cond.code yX5_reckon cX5_reckon 4 none) 4 99 [.ref (zp 0), .int x1] (gcP g zp zt Tp ++ (gcT g zt Tt)) (gcP g zp zt op ++ (gcT g zt Tt)) := by
  refine ct_v rfl (Nat.le_of_ble_eq_true rfl) ?_
  intro p e s m args below meth c A ls C hw hl
  have C : ctx g p s m args meth c RX5 cX5_reckon 4 none A := C
  have hl : lv_has ls 4 [(0, .ref (zp 0)), (1, .int x1)] := hl
  obtain ⟨hx, hb, hml, hown, hts, -⟩ := id C
  unfold fX5_reckon at hf
  refine lv_aload_n hx hb dX5_reckon_0 rfl (lv_at hl 0 rfl) ?_
  refine lv_aload_n hx hb dX5_reckon_1 rfl (lv_at hl 0 rfl) ?_
  refine lv_iload_n hx hb dX5_reckon_2 rfl (lv_at hl 1 rfl) ?_
  refine lv_aload_n hx hb dX5_reckon_3 rfl (lv_at hl 0 rfl) ?_
  refine r_get C hw 0 rfl cf_X5 0 (by decide) q1_175 (v := .ref (zt 0)) rfl dX5_reckon_4 ?_
  refine r_getN C hw 4 rfl cf_X9 0 (by decide) nq_0 (v := .int (Tt 0 0)) rfl dX5_reckon_7 ?_
  refine lv_iconst (v := (0 : Int32)) hx hb dX5_reckon_10 rfl ?_
  obtain ⟨r1, hc2, hf⟩ := bd1_e hf
  refine r_callVi0 C hw (c_X5_rowOf (zp := zp) (zt := zt) hc2) md_X5_rowOf [0, 1, 2, 3, 4, 5, 6, 7, 8, 9] rfl rfl q3_172 0 rfl cf_X5.1 ⟨Nat.le_of_ble_eq_true rfl, Nat.le_of_ble_eq_true rfl⟩ ⟨Nat.zero_le _, Nat.zero_le _⟩ hl.1 rfl rfl (Nat.le_of_ble_eq_true rfl) dX5_reckon_11 (fun H locs hw => ?_)
  obtain ⟨Tp_3, hc4, hf⟩ := bd1_e hf
  refine r_callVv C hw (c_X5_clearRow (zp := zp) (zt := zt) hc4) md_X5_clearRow [0, 1, 2, 3] rfl rfl rfl q3_176 0 rfl cf_X5.1 ⟨Nat.le_of_ble_eq_true rfl, Nat.le_of_ble_eq_true rfl⟩ ⟨Nat.zero_le _, Nat.zero_le _⟩ hl.1 rfl rfl (Nat.le_of_ble_eq_true rfl) dX5_reckon_14 (fun H locs hw => ?_)
  have hw : wl g A s.heap (gcP g zp zt Tp_3 ++ (gcT g zt Tt)) H locs := hw
  refine lv_aload_n hx hb dX5_reckon_17 rfl (lv_at hl 0 rfl) ?_
  refine lv_aload_n hx hb dX5_reckon_18 rfl (lv_at hl 0 rfl) ?_
  refine lv_iload_n hx hb dX5_reckon_19 rfl (lv_at hl 1 rfl) ?_
  refine lv_aload_n hx hb dX5_reckon_20 rfl (lv_at hl 0 rfl) ?_
  refine r_get C hw 0 rfl cf_X5 0 (by decide) q1_175 (v := .ref (zt 0)) rfl dX5_reckon_21 ?_
  refine r_getN C hw 4 rfl cf_X9 0 (by decide) nq_0 (v := .int (Tt 0 0)) rfl dX5_reckon_24 ?_
  refine lv_iconst (v := (0 : Int32)) hx hb dX5_reckon_27 rfl ?_
  obtain ⟨r5, hc6, hf⟩ := bd1_e hf
  refine r_callVi0 C hw (c_X5_rowOf (zp := zp) (zt := zt) hc6) md_X5_rowOf [0, 1, 2, 3, 4, 5, 6, 7, 8, 9] rfl rfl q3_172 0 rfl cf_X5.1 ⟨Nat.le_of_ble_eq_true rfl, Nat.le_of_ble_eq_true rfl⟩ ⟨Nat.zero_le _, Nat.zero_le _⟩ hl.1 rfl rfl (Nat.le_of_ble_eq_true rfl) dX5_reckon_28 (fun H locs hw => ?_)
  refine lv_iconst (v := (0 : Int32)) hx hb dX5_reckon_31 rfl ?_
  refine lv_iconst (v := (0 : Int32)) hx hb dX5_reckon_32 rfl ?_
  obtain ⟨Tp_7, hc8, hf⟩ := bd1_e hf
  refine r_callVv C hw (c_X5_offer (zp := zp) (zt := zt) hc8) md_X5_offer [0, 1, 2, 3] rfl rfl rfl q3_180 0 rfl cf_X5.1 ⟨Nat.le_of_ble_eq_true rfl, Nat.le_of_ble_eq_true rfl⟩ ⟨Nat.zero_le _, Nat.zero_le _⟩ hl.1 rfl rfl (Nat.le_of_ble_eq_true rfl) dX5_reckon_33 (fun H locs hw => ?_)
  have hw : wl g A s.heap (gcP g zp zt Tp_7 ++ (gcT g zt Tt)) H locs := hw
  refine lv_aload_n hx hb dX5_reckon_36 rfl (lv_at hl 0 rfl) ?_
  refine r_get C hw 0 rfl cf_X5 0 (by decide) q1_175 (v := .ref (zt 0)) rfl dX5_reckon_37 ?_
  refine r_getN C hw 4 rfl cf_X9 0 (by decide) nq_0 (v := .int (Tt 0 0)) rfl dX5_reckon_40 ?_
  refine lv_iconst (v := (1 : Int32)) hx hb dX5_reckon_43 rfl ?_
  refine lv_isub hx hb dX5_reckon_44 ?_
  refine lv_istore_n (lv' := [(2, .int ((Tt 0 0) - (1 : Int32))), (0, .ref (zp 0)), (1, .int x1)]) hx hb dX5_reckon_45 rfl hl (by decide) rfl (fun ls hl => ?_)
  exact klX5_reckon_46 (zp := zp) (zt := zt) (op := op) C fu _ _ _ _ _ _ hf hw (lv_sub hl [1, 2, 0] rfl)
set_option maxRecDepth 100000 in
set_option maxHeartbeats 4000000 in
theorem kX5_greatestWorth_25 {l : Launch} {g : evG} {p : Program} {e : Env} {s : State} {m : MethodId} {args : Array Value} {below : List Frame} {meth : Method} {c : Code} {A : Nat → Prop} {zp : Nat → Nat} {zt : Nat → Nat} {r : Int32} {op : Gp} (C : ctx g p s m args meth c RX5 cX5_greatestWorth 3 (some .int) A) {Tt : Gp} {Tp : Gp} {x1 : Int32} {x2 : Int32} {H : Heap} {locs : List Loc} {ls : Array Slot} (hf : fX5_greatestWorth_25 Tt Tp x1 x2 = some (r, op)) (hw : wl g A s.heap (gcP g zp zt Tp ++ (gcT g zt Tt)) H locs) (hl : lv_has ls 3 [(0, .ref (zp 0)), (1, .int x1), (2, .int x2)]) : W p l e (rmK 5 122) s m args below meth c H locs 0 0 (MQ below (Qi g A (gcP g zp zt op ++ (gcT g zt Tt)) r) args s 0 0 A) (F0 m 25 ls []) := by
  obtain ⟨hx, hb, hml, hown, hts, -⟩ := id C
  unfold fX5_greatestWorth_25 at hf
  refine lv_aload_n hx hb dX5_greatestWorth_25 rfl (lv_at hl 0 rfl) ?_
  refine r_get C hw 0 rfl cf_X5 3 (by decide) q1_178 (v := .ref (zp 3)) rfl dX5_greatestWorth_26 ?_
  refine lv_iload_n hx hb dX5_greatestWorth_29 rfl (lv_at hl 1 rfl) ?_
  refine lv_iconst (v := (1 : Int32)) hx hb dX5_greatestWorth_30 rfl ?_
  obtain ⟨hi1, hf⟩ := it_g hf
  refine r_zast C hw 3 (f := (Tp 3)) rfl hi1 (ws' := (gcP g zp zt (u2 Tp 3 x1.toNatClampNeg (vp_nar .boolean (1 : Int32))) ++ (gcT g zt Tt))) (set_l (Nat.le_of_ble_eq_true rfl) gcP_a3) dX5_greatestWorth_31 (fun H locs hw => ?_)
  refine lv_aload_n hx hb dX5_greatestWorth_32 rfl (lv_at hl 0 rfl) ?_
  refine lv_aload_n hx hb dX5_greatestWorth_33 rfl (lv_at hl 0 rfl) ?_
  refine lv_iload_n hx hb dX5_greatestWorth_34 rfl (lv_at hl 1 rfl) ?_
  refine lv_iconst (v := (0 : Int32)) hx hb dX5_greatestWorth_35 rfl ?_
  refine lv_iconst (v := (0 : Int32)) hx hb dX5_greatestWorth_36 rfl ?_
  obtain ⟨r2, hc3, hf⟩ := bd1_e hf
  refine r_callVi0 C hw (c_X5_rowOf (zp := zp) (zt := zt) hc3) md_X5_rowOf [0, 1, 2, 3, 4, 5, 6, 7, 8, 9] rfl rfl q3_172 0 rfl cf_X5.1 ⟨Nat.le_of_ble_eq_true rfl, Nat.le_of_ble_eq_true rfl⟩ ⟨Nat.zero_le _, Nat.zero_le _⟩ hl.1 rfl rfl (Nat.le_of_ble_eq_true rfl) dX5_greatestWorth_37 (fun H locs hw => ?_)
  refine lv_iload_n hx hb dX5_greatestWorth_40 rfl (lv_at hl 2 rfl) ?_
  obtain ⟨r4, hc5, hf⟩ := bd1_e hf
  refine r_callVi0 C hw (c_X5_bestFrom (zp := zp) (zt := zt) hc5) md_X5_bestFrom [0, 1, 2, 3] rfl rfl q3_216 0 rfl cf_X5.1 ⟨Nat.le_of_ble_eq_true rfl, Nat.le_of_ble_eq_true rfl⟩ ⟨Nat.zero_le _, Nat.zero_le _⟩ hl.1 rfl rfl (Nat.le_of_ble_eq_true rfl) dX5_greatestWorth_41 (fun H locs hw => ?_)
  obtain ⟨rfl, rfl⟩ := so2 hf
  exact r_iret C hw rfl dX5_greatestWorth_44
set_option maxRecDepth 100000 in
set_option maxHeartbeats 4000000 in
theorem c_X5_greatestWorth {l : Launch} {g : evG} {zp : Nat → Nat} {zt : Nat → Nat} {r : Int32} {op : Gp}  {Tp : Gp} {Tt : Gp} {x1 : Int32} {x2 : Int32} (hf : fX5_greatestWorth Tp Tt x1 x2 = some (r, op)) : CTi l g yX5_greatestWorth (Cond.code yX5_greatestWorth cX5_greatestWorth 3 (some .int)) 5 122 [.ref (zp 0), .int x1, .int x2] (gcP g zp zt Tp ++ (gcT g zt Tt)) (gcP g zp zt op ++ (gcT g zt Tt)) r := by
  refine ct_i rfl (Nat.le_of_ble_eq_true rfl) ?_
  intro p e s m args below meth c A ls C hw hl
  have C : ctx g p s m args meth c RX5 cX5_greatestWorth 3 (some .int) A := C
  have hl : lv_has ls 3 [(0, .ref (zp 0)), (1, .int x1), (2, .int x2)] := hl
  obtain ⟨hx, hb, hml, hown, hts, -⟩ := id C
  unfold fX5_greatestWorth at hf
  refine lv_iload_n hx hb dX5_greatestWorth_0 rfl (lv_at hl 1 rfl) ?_
  refine lv_iconst (v := (0 : Int32)) hx hb dX5_greatestWorth_1 rfl ?_
  refine lv_iconst (v := (1 : Int32)) hx hb dX5_greatestWorth_2 rfl ?_
  obtain ⟨r1, hc2, hf⟩ := bd1_e hf
  refine r_callNi0 C hw (c_X10_within hc2) md_X10_within [] rfl rfl nq_36 ⟨Nat.le_of_ble_eq_true rfl, Nat.le_of_ble_eq_true rfl⟩ ⟨Nat.zero_le _, Nat.zero_le _⟩ hl.1 rfl rfl (Nat.le_of_ble_eq_true rfl) dX5_greatestWorth_3 (fun H locs hw => ?_)
  refine lv_if_ne (tgt := 11) hx hb dX5_greatestWorth_6 (by decide) (fun hc7 => ?_) (fun hc7 => ?_)
  · have hf := it_n hf hc7
    refine lv_aload_n hx hb dX5_greatestWorth_11 rfl (lv_at hl 0 rfl) ?_
    refine r_get C hw 0 rfl cf_X5 3 (by decide) q1_178 (v := .ref (zp 3)) rfl dX5_greatestWorth_12 ?_
    refine lv_iload_n hx hb dX5_greatestWorth_15 rfl (lv_at hl 1 rfl) ?_
    obtain ⟨hi3, hf⟩ := it_g hf
    refine r_zald C hw 3 (f := (Tp 3)) rfl hi3 dX5_greatestWorth_16 ?_
    refine lv_if_ne (tgt := 25) hx hb dX5_greatestWorth_17 (by decide) (fun hc6 => ?_) (fun hc6 => ?_)
    · have hf := it_n hf hc6
      exact kX5_greatestWorth_25 (zp := zp) (zt := zt) (r := r) (op := op) C hf hw (lv_sub hl [0, 1, 2] rfl)
    · have hf := it_p hf hc6
      refine lv_aload_n hx hb dX5_greatestWorth_20 rfl (lv_at hl 0 rfl) ?_
      refine lv_iload_n hx hb dX5_greatestWorth_21 rfl (lv_at hl 1 rfl) ?_
      obtain ⟨Tp_4, hc5, hf⟩ := bd1_e hf
      refine r_callVvF C hw (c_X5_reckon (zp := zp) (zt := zt) hc5) md_X5_reckon [0, 1, 2, 3, 4, 5, 6, 7, 8, 9] rfl rfl rfl rfl q3_168 0 rfl cf_X5.1 ⟨Nat.le_of_ble_eq_true rfl, Nat.le_of_ble_eq_true rfl⟩ ⟨Nat.zero_le _, Nat.zero_le _⟩ hl.1 rfl rfl (Nat.le_of_ble_eq_true rfl) dX5_greatestWorth_22 (fun H locs hw => ?_)
      have hw : wl g A s.heap (gcP g zp zt Tp_4 ++ (gcT g zt Tt)) H locs := hw
      exact kX5_greatestWorth_25 (zp := zp) (zt := zt) (r := r) (op := op) C hf hw (lv_sub hl [0, 1, 2] rfl)
  · have hf := it_p hf hc7
    refine lv_iconst (v := (-1 : Int32)) hx hb dX5_greatestWorth_9 rfl ?_
    obtain ⟨rfl, rfl⟩ := so2 hf
    exact r_iret C hw rfl dX5_greatestWorth_10
set_option maxRecDepth 100000 in
set_option maxHeartbeats 4000000 in
theorem kX5_choose_31 {l : Launch} {g : evG} {p : Program} {e : Env} {s : State} {m : MethodId} {args : Array Value} {below : List Frame} {meth : Method} {c : Code} {A : Nat → Prop} {zp : Nat → Nat} {zt : Nat → Nat} {op : Gp} (C : ctx g p s m args meth c RX5 cX5_choose 10 none A) {Tt : Gp} {rec22 : Gp → Int32 → Int32 → Int32 → Int32 → Int32 → Int32 → Int32 → Option (Gp)} {rec31 : Gp → Int32 → Int32 → Int32 → Int32 → Int32 → Int32 → Int32 → Int32 → Option (Gp)} (hr22 : ∀ (Tp : Gp) (x1 : Int32) (x2 : Int32) (x3 : Int32) (x4 : Int32) (x5 : Int32) (x6 : Int32) (x7 : Int32) (H : Heap) (locs : List Loc) (ls : Array Slot), rec22 Tp x1 x2 x3 x4 x5 x6 x7 = some (op) → wl g A s.heap (gcP g zp zt Tp ++ (gcT g zt Tt)) H locs → lv_has ls 10 [(0, .ref (zp 0)), (1, .int x1), (2, .int x2), (3, .int x3), (4, .int x4), (5, .int x5), (6, .int x6), (7, .int x7)] → W p l e (rmK 3 73) s m args below meth c H locs 0 0 (MQ below (Qv g A (gcP g zp zt op ++ (gcT g zt Tt))) args s 0 0 A) (F0 m 22 ls [])) (hr31 : ∀ (Tp : Gp) (x1 : Int32) (x2 : Int32) (x3 : Int32) (x4 : Int32) (x5 : Int32) (x6 : Int32) (x7 : Int32) (x8 : Int32) (H : Heap) (locs : List Loc) (ls : Array Slot), rec31 Tp x1 x2 x3 x4 x5 x6 x7 x8 = some (op) → wl g A s.heap (gcP g zp zt Tp ++ (gcT g zt Tt)) H locs → lv_has ls 10 [(0, .ref (zp 0)), (1, .int x1), (2, .int x2), (3, .int x3), (4, .int x4), (5, .int x5), (6, .int x6), (7, .int x7), (8, .int x8)] → W p l e (rmK 3 73) s m args below meth c H locs 0 0 (MQ below (Qv g A (gcP g zp zt op ++ (gcT g zt Tt))) args s 0 0 A) (F0 m 31 ls [])) {Tp : Gp} {x1 : Int32} {x2 : Int32} {x3 : Int32} {x4 : Int32} {x5 : Int32} {x6 : Int32} {x7 : Int32} {x8 : Int32} {H : Heap} {locs : List Loc} {ls : Array Slot} (hf : fX5_choose_31 Tt rec22 rec31 Tp x1 x2 x3 x4 x5 x6 x7 x8 = some (op)) (hw : wl g A s.heap (gcP g zp zt Tp ++ (gcT g zt Tt)) H locs) (hl : lv_has ls 10 [(0, .ref (zp 0)), (1, .int x1), (2, .int x2), (3, .int x3), (4, .int x4), (5, .int x5), (6, .int x6), (7, .int x7), (8, .int x8)]) : W p l e (rmK 3 73) s m args below meth c H locs 0 0 (MQ below (Qv g A (gcP g zp zt op ++ (gcT g zt Tt))) args s 0 0 A) (F0 m 31 ls []) := by
  obtain ⟨hx, hb, hml, hown, hts, -⟩ := id C
  unfold fX5_choose_31 at hf
  refine lv_iload hx hb dX5_choose_31 (lv_at hl 8 rfl) ?_
  refine lv_iconst (v := (5 : Int32)) hx hb dX5_choose_33 rfl ?_
  refine lv_icmp_gt (tgt := 122) hx hb dX5_choose_34 (by decide) (fun hc12 => ?_) (fun hc12 => ?_)
  · have hf := it_p hf hc12
    refine lv_iinc (v := (x7 + (1 : Int32))) (lv' := [(7, .int (x7 + (1 : Int32))), (0, .ref (zp 0)), (1, .int x1), (2, .int x2), (3, .int x3), (4, .int x4), (5, .int x5), (6, .int x6), (8, .int x8)]) hx hb dX5_choose_122 hl (k := 7) rfl rfl (by decide) rfl (fun ls hl => ?_)
    refine lv_goto (tgt := 22) hx hb dX5_choose_125 (by decide) ?_
    exact hr22 _ _ _ _ _ _ _ _ _ _ _ hf hw (lv_sub hl [1, 2, 3, 4, 5, 6, 7, 0] rfl)
  · have hf := it_n hf hc12
    refine lv_aload_n hx hb dX5_choose_37 rfl (lv_at hl 0 rfl) ?_
    refine lv_iload_n hx hb dX5_choose_38 rfl (lv_at hl 1 rfl) ?_
    refine lv_iload_n hx hb dX5_choose_39 rfl (lv_at hl 2 rfl) ?_
    refine lv_iload_n hx hb dX5_choose_40 rfl (lv_at hl 3 rfl) ?_
    refine lv_iload hx hb dX5_choose_41 (lv_at hl 7 rfl) ?_
    refine lv_iload hx hb dX5_choose_43 (lv_at hl 8 rfl) ?_
    obtain ⟨r1, hc2, hf⟩ := bd1_e hf
    refine r_callVi0 C hw (c_X5_isAllowed (zp := zp) (zt := zt) hc2) md_X5_isAllowed [0, 1, 2, 3, 4, 5, 6, 7, 8, 9] rfl rfl q3_189 0 rfl cf_X5.1 ⟨Nat.le_of_ble_eq_true rfl, Nat.le_of_ble_eq_true rfl⟩ ⟨Nat.zero_le _, Nat.zero_le _⟩ hl.1 rfl rfl (Nat.le_of_ble_eq_true rfl) dX5_choose_45 (fun H locs hw => ?_)
    refine lv_if_ne (tgt := 54) hx hb dX5_choose_48 (by decide) (fun hc11 => ?_) (fun hc11 => ?_)
    · have hf := it_n hf hc11
      refine lv_aload_n hx hb dX5_choose_54 rfl (lv_at hl 0 rfl) ?_
      refine lv_iload hx hb dX5_choose_55 (lv_at hl 5 rfl) ?_
      refine lv_sipush (v := (201 : Int32)) hx hb dX5_choose_57 rfl ?_
      refine lv_iadd hx hb dX5_choose_60 ?_
      refine lv_iload hx hb dX5_choose_61 (lv_at hl 4 rfl) ?_
      refine lv_aload_n hx hb dX5_choose_63 rfl (lv_at hl 0 rfl) ?_
      refine lv_iload_n hx hb dX5_choose_64 rfl (lv_at hl 2 rfl) ?_
      refine lv_iload hx hb dX5_choose_65 (lv_at hl 7 rfl) ?_
      refine lv_iload hx hb dX5_choose_67 (lv_at hl 8 rfl) ?_
      obtain ⟨r3, hc4, hf⟩ := bd1_e hf
      refine r_callVi0 C hw (c_X5_madeBy (zp := zp) (zt := zt) hc4) md_X5_madeBy [0, 1, 2, 3, 4, 5, 6, 7, 8, 9] rfl rfl q3_195 0 rfl cf_X5.1 ⟨Nat.le_of_ble_eq_true rfl, Nat.le_of_ble_eq_true rfl⟩ ⟨Nat.zero_le _, Nat.zero_le _⟩ hl.1 rfl rfl (Nat.le_of_ble_eq_true rfl) dX5_choose_69 (fun H locs hw => ?_)
      refine lv_isub hx hb dX5_choose_72 ?_
      obtain ⟨r5, hc6, hf⟩ := bd1_e hf
      refine r_callVi0 C hw (c_X5_bestFrom (zp := zp) (zt := zt) hc6) md_X5_bestFrom [0, 1, 2, 3] rfl rfl q3_216 0 rfl cf_X5.1 ⟨Nat.le_of_ble_eq_true rfl, Nat.le_of_ble_eq_true rfl⟩ ⟨Nat.zero_le _, Nat.zero_le _⟩ hl.1 rfl rfl (Nat.le_of_ble_eq_true rfl) dX5_choose_73 (fun H locs hw => ?_)
      refine lv_istore (lv' := [(9, .int r5), (0, .ref (zp 0)), (1, .int x1), (2, .int x2), (3, .int x3), (4, .int x4), (5, .int x5), (6, .int x6), (7, .int x7), (8, .int x8)]) hx hb dX5_choose_76 hl (by decide) rfl (fun ls hl => ?_)
      refine lv_iload hx hb dX5_choose_78 (lv_at hl 0 rfl) ?_
      refine lv_iconst (v := (-1 : Int32)) hx hb dX5_choose_80 rfl ?_
      refine lv_icmp_eq (tgt := 116) hx hb dX5_choose_81 (by decide) (fun hc10 => ?_) (fun hc10 => ?_)
      · have hf := it_p hf hc10
        refine lv_iinc (v := (x8 + (1 : Int32))) (lv' := [(8, .int (x8 + (1 : Int32))), (9, .int r5), (0, .ref (zp 0)), (1, .int x1), (2, .int x2), (3, .int x3), (4, .int x4), (5, .int x5), (6, .int x6), (7, .int x7)]) hx hb dX5_choose_116 hl (k := 9) rfl rfl (by decide) rfl (fun ls hl => ?_)
        refine lv_goto (tgt := 31) hx hb dX5_choose_119 (by decide) ?_
        exact hr31 _ _ _ _ _ _ _ _ _ _ _ _ hf hw (lv_sub hl [2, 3, 4, 5, 6, 7, 8, 9, 0] rfl)
      · have hf := it_n hf hc10
        refine lv_iload hx hb dX5_choose_84 (lv_at hl 0 rfl) ?_
        refine lv_aload_n hx hb dX5_choose_86 rfl (lv_at hl 1 rfl) ?_
        refine lv_iload hx hb dX5_choose_87 (lv_at hl 8 rfl) ?_
        refine lv_iload hx hb dX5_choose_89 (lv_at hl 9 rfl) ?_
        obtain ⟨r7, hc8, hf⟩ := bd1_e hf
        refine r_callVi0 C hw (c_X5_worthOf (zp := zp) (zt := zt) hc8) md_X5_worthOf [0, 1, 2, 3, 4, 5, 6, 7, 8, 9] rfl rfl q3_200 0 rfl cf_X5.1 ⟨Nat.le_of_ble_eq_true rfl, Nat.le_of_ble_eq_true rfl⟩ ⟨Nat.zero_le _, Nat.zero_le _⟩ hl.1 rfl rfl (Nat.le_of_ble_eq_true rfl) dX5_choose_91 (fun H locs hw => ?_)
        refine lv_iadd hx hb dX5_choose_94 ?_
        refine lv_iload hx hb dX5_choose_95 (lv_at hl 7 rfl) ?_
        refine lv_icmp_eq (tgt := 103) hx hb dX5_choose_97 (by decide) (fun hc9 => ?_) (fun hc9 => ?_)
        · have hf := it_p hf hc9
          refine lv_aload_n hx hb dX5_choose_103 rfl (lv_at hl 1 rfl) ?_
          refine lv_iload hx hb dX5_choose_104 (lv_at hl 8 rfl) ?_
          refine r_puti C hw 0 rfl cf_X5 4 (by decide) q1_179 rfl rfl (Nat.le_of_ble_eq_true rfl) (ws' := (gcP g zp zt (u2 Tp 0 4 x7) ++ (gcT g zt Tt))) (set_l (Nat.le_of_ble_eq_true rfl) gcP_p4) dX5_choose_106 (fun H locs hw => ?_)
          refine lv_aload_n hx hb dX5_choose_109 rfl (lv_at hl 1 rfl) ?_
          refine lv_iload hx hb dX5_choose_110 (lv_at hl 9 rfl) ?_
          refine r_puti C hw 0 rfl cf_X5 5 (by decide) q1_181 rfl rfl (Nat.le_of_ble_eq_true rfl) (ws' := (gcP g zp zt (u2 (u2 Tp 0 4 x7) 0 5 x8) ++ (gcT g zt Tt))) (set_l (Nat.le_of_ble_eq_true rfl) gcP_p5) dX5_choose_112 (fun H locs hw => ?_)
          obtain rfl := so1 hf
          exact r_vret C hw dX5_choose_115
        · have hf := it_n hf hc9
          refine lv_goto (tgt := 116) hx hb dX5_choose_100 (by decide) ?_
          refine lv_iinc (v := (x8 + (1 : Int32))) (lv' := [(8, .int (x8 + (1 : Int32))), (9, .int r5), (0, .ref (zp 0)), (1, .int x1), (2, .int x2), (3, .int x3), (4, .int x4), (5, .int x5), (6, .int x6), (7, .int x7)]) hx hb dX5_choose_116 hl (k := 9) rfl rfl (by decide) rfl (fun ls hl => ?_)
          refine lv_goto (tgt := 31) hx hb dX5_choose_119 (by decide) ?_
          exact hr31 _ _ _ _ _ _ _ _ _ _ _ _ hf hw (lv_sub hl [2, 3, 4, 5, 6, 7, 8, 9, 0] rfl)
    · have hf := it_p hf hc11
      refine lv_goto (tgt := 116) hx hb dX5_choose_51 (by decide) ?_
      refine lv_iinc (v := (x8 + (1 : Int32))) (lv' := [(8, .int (x8 + (1 : Int32))), (0, .ref (zp 0)), (1, .int x1), (2, .int x2), (3, .int x3), (4, .int x4), (5, .int x5), (6, .int x6), (7, .int x7)]) hx hb dX5_choose_116 hl (k := 8) rfl rfl (by decide) rfl (fun ls hl => ?_)
      refine lv_goto (tgt := 31) hx hb dX5_choose_119 (by decide) ?_
      exact hr31 _ _ _ _ _ _ _ _ _ _ _ _ hf hw (lv_sub hl [1, 2, 3, 4, 5, 6, 7, 8, 0] rfl)
set_option maxRecDepth 100000 in
set_option maxHeartbeats 4000000 in
theorem klX5_choose_31 {l : Launch} {g : evG} {p : Program} {e : Env} {s : State} {m : MethodId} {args : Array Value} {below : List Frame} {meth : Method} {c : Code} {A : Nat → Prop} {zp : Nat → Nat} {zt : Nat → Nat} {op : Gp} (C : ctx g p s m args meth c RX5 cX5_choose 10 none A) {Tt : Gp} {rec22 : Gp → Int32 → Int32 → Int32 → Int32 → Int32 → Int32 → Int32 → Option (Gp)} (hr22 : ∀ (Tp : Gp) (x1 : Int32) (x2 : Int32) (x3 : Int32) (x4 : Int32) (x5 : Int32) (x6 : Int32) (x7 : Int32) (H : Heap) (locs : List Loc) (ls : Array Slot), rec22 Tp x1 x2 x3 x4 x5 x6 x7 = some (op) → wl g A s.heap (gcP g zp zt Tp ++ (gcT g zt Tt)) H locs → lv_has ls 10 [(0, .ref (zp 0)), (1, .int x1), (2, .int x2), (3, .int x3), (4, .int x4), (5, .int x5), (6, .int x6), (7, .int x7)] → W p l e (rmK 3 73) s m args below meth c H locs 0 0 (MQ below (Qv g A (gcP g zp zt op ++ (gcT g zt Tt))) args s 0 0 A) (F0 m 22 ls [])) : ∀ (n : Nat) (Tp : Gp) (x1 : Int32) (x2 : Int32) (x3 : Int32) (x4 : Int32) (x5 : Int32) (x6 : Int32) (x7 : Int32) (x8 : Int32) (H : Heap) (locs : List Loc) (ls : Array Slot), lX5_choose_31 Tt rec22 n Tp x1 x2 x3 x4 x5 x6 x7 x8 = some (op) → wl g A s.heap (gcP g zp zt Tp ++ (gcT g zt Tt)) H locs → lv_has ls 10 [(0, .ref (zp 0)), (1, .int x1), (2, .int x2), (3, .int x3), (4, .int x4), (5, .int x5), (6, .int x6), (7, .int x7), (8, .int x8)] → W p l e (rmK 3 73) s m args below meth c H locs 0 0 (MQ below (Qv g A (gcP g zp zt op ++ (gcT g zt Tt))) args s 0 0 A) (F0 m 31 ls []) := by
  intro n
  induction n with
  | zero => intro _ _ _ _ _ _ _ _ _ _ _ _ hf; exact no_f hf
  | succ n ih => intro _ _ _ _ _ _ _ _ _ _ _ _ hf hw hl; exact kX5_choose_31 (zp := zp) (zt := zt) (op := op) C hr22 (rec31 := lX5_choose_31 Tt rec22 n) ih hf hw hl
set_option maxRecDepth 100000 in
set_option maxHeartbeats 4000000 in
theorem kX5_choose_22 {l : Launch} {g : evG} {p : Program} {e : Env} {s : State} {m : MethodId} {args : Array Value} {below : List Frame} {meth : Method} {c : Code} {A : Nat → Prop} {zp : Nat → Nat} {zt : Nat → Nat} {op : Gp} (C : ctx g p s m args meth c RX5 cX5_choose 10 none A) {Tt : Gp} {rec22 : Gp → Int32 → Int32 → Int32 → Int32 → Int32 → Int32 → Int32 → Option (Gp)} (hr22 : ∀ (Tp : Gp) (x1 : Int32) (x2 : Int32) (x3 : Int32) (x4 : Int32) (x5 : Int32) (x6 : Int32) (x7 : Int32) (H : Heap) (locs : List Loc) (ls : Array Slot), rec22 Tp x1 x2 x3 x4 x5 x6 x7 = some (op) → wl g A s.heap (gcP g zp zt Tp ++ (gcT g zt Tt)) H locs → lv_has ls 10 [(0, .ref (zp 0)), (1, .int x1), (2, .int x2), (3, .int x3), (4, .int x4), (5, .int x5), (6, .int x6), (7, .int x7)] → W p l e (rmK 3 73) s m args below meth c H locs 0 0 (MQ below (Qv g A (gcP g zp zt op ++ (gcT g zt Tt))) args s 0 0 A) (F0 m 22 ls [])) {Tp : Gp} {x1 : Int32} {x2 : Int32} {x3 : Int32} {x4 : Int32} {x5 : Int32} {x6 : Int32} {x7 : Int32} {H : Heap} {locs : List Loc} {ls : Array Slot} (hf : fX5_choose_22 Tt rec22 Tp x1 x2 x3 x4 x5 x6 x7 = some (op)) (hw : wl g A s.heap (gcP g zp zt Tp ++ (gcT g zt Tt)) H locs) (hl : lv_has ls 10 [(0, .ref (zp 0)), (1, .int x1), (2, .int x2), (3, .int x3), (4, .int x4), (5, .int x5), (6, .int x6), (7, .int x7)]) : W p l e (rmK 3 73) s m args below meth c H locs 0 0 (MQ below (Qv g A (gcP g zp zt op ++ (gcT g zt Tt))) args s 0 0 A) (F0 m 22 ls []) := by
  obtain ⟨hx, hb, hml, hown, hts, -⟩ := id C
  unfold fX5_choose_22 at hf
  refine lv_iload hx hb dX5_choose_22 (lv_at hl 7 rfl) ?_
  refine lv_iconst (v := (5 : Int32)) hx hb dX5_choose_24 rfl ?_
  refine lv_icmp_gt (tgt := 128) hx hb dX5_choose_25 (by decide) (fun hc1 => ?_) (fun hc1 => ?_)
  · have hf := it_p hf hc1
    obtain rfl := so1 hf
    exact r_vret C hw dX5_choose_128
  · have hf := it_n hf hc1
    refine lv_iconst (v := (0 : Int32)) hx hb dX5_choose_28 rfl ?_
    refine lv_istore (lv' := [(8, .int (0 : Int32)), (0, .ref (zp 0)), (1, .int x1), (2, .int x2), (3, .int x3), (4, .int x4), (5, .int x5), (6, .int x6), (7, .int x7)]) hx hb dX5_choose_29 hl (by decide) rfl (fun ls hl => ?_)
    exact klX5_choose_31 (zp := zp) (zt := zt) (op := op) C hr22 fu _ _ _ _ _ _ _ _ _ _ _ _ hf hw (lv_sub hl [1, 2, 3, 4, 5, 6, 7, 8, 0] rfl)
set_option maxRecDepth 100000 in
set_option maxHeartbeats 4000000 in
theorem klX5_choose_22 {l : Launch} {g : evG} {p : Program} {e : Env} {s : State} {m : MethodId} {args : Array Value} {below : List Frame} {meth : Method} {c : Code} {A : Nat → Prop} {zp : Nat → Nat} {zt : Nat → Nat} {op : Gp} (C : ctx g p s m args meth c RX5 cX5_choose 10 none A) {Tt : Gp} : ∀ (n : Nat) (Tp : Gp) (x1 : Int32) (x2 : Int32) (x3 : Int32) (x4 : Int32) (x5 : Int32) (x6 : Int32) (x7 : Int32) (H : Heap) (locs : List Loc) (ls : Array Slot), lX5_choose_22 Tt n Tp x1 x2 x3 x4 x5 x6 x7 = some (op) → wl g A s.heap (gcP g zp zt Tp ++ (gcT g zt Tt)) H locs → lv_has ls 10 [(0, .ref (zp 0)), (1, .int x1), (2, .int x2), (3, .int x3), (4, .int x4), (5, .int x5), (6, .int x6), (7, .int x7)] → W p l e (rmK 3 73) s m args below meth c H locs 0 0 (MQ below (Qv g A (gcP g zp zt op ++ (gcT g zt Tt))) args s 0 0 A) (F0 m 22 ls []) := by
  intro n
  induction n with
  | zero => intro _ _ _ _ _ _ _ _ _ _ _ hf; exact no_f hf
  | succ n ih => intro _ _ _ _ _ _ _ _ _ _ _ hf hw hl; exact kX5_choose_22 (zp := zp) (zt := zt) (op := op) C (rec22 := lX5_choose_22 Tt n) ih hf hw hl
set_option maxRecDepth 100000 in
set_option maxHeartbeats 4000000 in
theorem c_X5_choose {l : Launch} {g : evG} {zp : Nat → Nat} {zt : Nat → Nat} {op : Gp}  {Tp : Gp} {Tt : Gp} {x1 : Int32} {x2 : Int32} {x3 : Int32} {x4 : Int32} (hf : fX5_choose Tp Tt x1 x2 x3 x4 = some (op)) : CTv l g yX5_choose (Cond.code yX5_choose cX5_choose 10 none) 3 73 [.ref (zp 0), .int x1, .int x2, .int x3, .int x4] (gcP g zp zt Tp ++ (gcT g zt Tt)) (gcP g zp zt op ++ (gcT g zt Tt)) := by
  refine ct_v rfl (Nat.le_of_ble_eq_true rfl) ?_
  intro p e s m args below meth c A ls C hw hl
  have C : ctx g p s m args meth c RX5 cX5_choose 10 none A := C
  have hl : lv_has ls 10 [(0, .ref (zp 0)), (1, .int x1), (2, .int x2), (3, .int x3), (4, .int x4)] := hl
  obtain ⟨hx, hb, hml, hown, hts, -⟩ := id C
  unfold fX5_choose at hf
  refine lv_aload_n hx hb dX5_choose_0 rfl (lv_at hl 0 rfl) ?_
  refine lv_iload_n hx hb dX5_choose_1 rfl (lv_at hl 1 rfl) ?_
  refine lv_iload_n hx hb dX5_choose_2 rfl (lv_at hl 2 rfl) ?_
  refine lv_iload_n hx hb dX5_choose_3 rfl (lv_at hl 3 rfl) ?_
  obtain ⟨r1, hc2, hf⟩ := bd1_e hf
  refine r_callVi0 C hw (c_X5_rowOf (zp := zp) (zt := zt) hc2) md_X5_rowOf [0, 1, 2, 3, 4, 5, 6, 7, 8, 9] rfl rfl q3_172 0 rfl cf_X5.1 ⟨Nat.le_of_ble_eq_true rfl, Nat.le_of_ble_eq_true rfl⟩ ⟨Nat.zero_le _, Nat.zero_le _⟩ hl.1 rfl rfl (Nat.le_of_ble_eq_true rfl) dX5_choose_4 (fun H locs hw => ?_)
  refine lv_istore (lv' := [(5, .int r1), (0, .ref (zp 0)), (1, .int x1), (2, .int x2), (3, .int x3), (4, .int x4)]) hx hb dX5_choose_7 hl (by decide) rfl (fun ls hl => ?_)
  refine lv_aload_n hx hb dX5_choose_9 rfl (lv_at hl 1 rfl) ?_
  refine lv_iload hx hb dX5_choose_10 (lv_at hl 0 rfl) ?_
  refine lv_iload hx hb dX5_choose_12 (lv_at hl 5 rfl) ?_
  obtain ⟨r3, hc4, hf⟩ := bd1_e hf
  refine r_callVi0 C hw (c_X5_bestFrom (zp := zp) (zt := zt) hc4) md_X5_bestFrom [0, 1, 2, 3] rfl rfl q3_216 0 rfl cf_X5.1 ⟨Nat.le_of_ble_eq_true rfl, Nat.le_of_ble_eq_true rfl⟩ ⟨Nat.zero_le _, Nat.zero_le _⟩ hl.1 rfl rfl (Nat.le_of_ble_eq_true rfl) dX5_choose_14 (fun H locs hw => ?_)
  refine lv_istore (lv' := [(6, .int r3), (5, .int r1), (0, .ref (zp 0)), (1, .int x1), (2, .int x2), (3, .int x3), (4, .int x4)]) hx hb dX5_choose_17 hl (by decide) rfl (fun ls hl => ?_)
  refine lv_iconst (v := (0 : Int32)) hx hb dX5_choose_19 rfl ?_
  refine lv_istore (lv' := [(7, .int (0 : Int32)), (6, .int r3), (5, .int r1), (0, .ref (zp 0)), (1, .int x1), (2, .int x2), (3, .int x3), (4, .int x4)]) hx hb dX5_choose_20 hl (by decide) rfl (fun ls hl => ?_)
  exact klX5_choose_22 (zp := zp) (zt := zt) (op := op) C fu _ _ _ _ _ _ _ _ _ _ _ hf hw (lv_sub hl [3, 4, 5, 6, 7, 2, 1, 0] rfl)
set_option maxRecDepth 100000 in
set_option maxHeartbeats 4000000 in
theorem kX5_follow_37 {l : Launch} {g : evG} {p : Program} {e : Env} {s : State} {m : MethodId} {args : Array Value} {below : List Frame} {meth : Method} {c : Code} {A : Nat → Prop} {zp : Nat → Nat} {zt : Nat → Nat} {r : Int32} {op : Gp} (C : ctx g p s m args meth c RX5 cX5_follow 9 (some .int) A) {Tt : Gp} {rec6 : Gp → Int32 → Int32 → Int32 → Int32 → Int32 → Int32 → Option (Int32 × Gp)} {rec37 : Gp → Int32 → Int32 → Int32 → Int32 → Int32 → Int32 → Int32 → Int32 → Option (Int32 × Gp)} (hr6 : ∀ (Tp : Gp) (x1 : Int32) (x2 : Int32) (x3 : Int32) (x4 : Int32) (x5 : Int32) (x6 : Int32) (H : Heap) (locs : List Loc) (ls : Array Slot), rec6 Tp x1 x2 x3 x4 x5 x6 = some (r, op) → wl g A s.heap (gcP g zp zt Tp ++ (gcT g zt Tt)) H locs → lv_has ls 9 [(0, .ref (zp 0)), (1, .int x1), (2, .int x2), (3, .int x3), (4, .int x4), (5, .int x5), (6, .int x6)] → W p l e (rmK 4 102) s m args below meth c H locs 0 0 (MQ below (Qi g A (gcP g zp zt op ++ (gcT g zt Tt)) r) args s 0 0 A) (F0 m 6 ls [])) (hr37 : ∀ (Tp : Gp) (x1 : Int32) (x2 : Int32) (x3 : Int32) (x4 : Int32) (x5 : Int32) (x6 : Int32) (x7 : Int32) (x8 : Int32) (H : Heap) (locs : List Loc) (ls : Array Slot), rec37 Tp x1 x2 x3 x4 x5 x6 x7 x8 = some (r, op) → wl g A s.heap (gcP g zp zt Tp ++ (gcT g zt Tt)) H locs → lv_has ls 9 [(0, .ref (zp 0)), (1, .int x1), (2, .int x2), (3, .int x3), (4, .int x4), (5, .int x5), (6, .int x6), (7, .int x7), (8, .int x8)] → W p l e (rmK 4 102) s m args below meth c H locs 0 0 (MQ below (Qi g A (gcP g zp zt op ++ (gcT g zt Tt)) r) args s 0 0 A) (F0 m 37 ls [])) {Tp : Gp} {x1 : Int32} {x2 : Int32} {x3 : Int32} {x4 : Int32} {x5 : Int32} {x6 : Int32} {x7 : Int32} {x8 : Int32} {H : Heap} {locs : List Loc} {ls : Array Slot} (hf : fX5_follow_37 Tt rec6 rec37 Tp x1 x2 x3 x4 x5 x6 x7 x8 = some (r, op)) (hw : wl g A s.heap (gcP g zp zt Tp ++ (gcT g zt Tt)) H locs) (hl : lv_has ls 9 [(0, .ref (zp 0)), (1, .int x1), (2, .int x2), (3, .int x3), (4, .int x4), (5, .int x5), (6, .int x6), (7, .int x7), (8, .int x8)]) : W p l e (rmK 4 102) s m args below meth c H locs 0 0 (MQ below (Qi g A (gcP g zp zt op ++ (gcT g zt Tt)) r) args s 0 0 A) (F0 m 37 ls []) := by
  obtain ⟨hx, hb, hml, hown, hts, -⟩ := id C
  unfold fX5_follow_37 at hf
  refine lv_iload hx hb dX5_follow_37 (lv_at hl 8 rfl) ?_
  refine lv_iload hx hb dX5_follow_39 (lv_at hl 7 rfl) ?_
  refine lv_icmp_ge (tgt := 86) hx hb dX5_follow_41 (by decide) (fun hc5 => ?_) (fun hc5 => ?_)
  · have hf := it_p hf hc5
    refine lv_iinc (v := (x6 + (1 : Int32))) (lv' := [(6, .int (x6 + (1 : Int32))), (0, .ref (zp 0)), (1, .int x1), (2, .int x2), (3, .int x3), (4, .int x4), (5, .int x5), (7, .int x7), (8, .int x8)]) hx hb dX5_follow_86 hl (k := 6) rfl rfl (by decide) rfl (fun ls hl => ?_)
    refine lv_goto (tgt := 6) hx hb dX5_follow_89 (by decide) ?_
    exact hr6 _ _ _ _ _ _ _ _ _ _ hf hw (lv_sub hl [1, 2, 3, 4, 5, 6, 0] rfl)
  · have hf := it_n hf hc5
    refine lv_aload_n hx hb dX5_follow_44 rfl (lv_at hl 0 rfl) ?_
    refine lv_iload_n hx hb dX5_follow_45 rfl (lv_at hl 1 rfl) ?_
    refine lv_iload hx hb dX5_follow_46 (lv_at hl 6 rfl) ?_
    refine lv_iload hx hb dX5_follow_48 (lv_at hl 8 rfl) ?_
    refine lv_iload_n hx hb dX5_follow_50 rfl (lv_at hl 2 rfl) ?_
    refine lv_iload hx hb dX5_follow_51 (lv_at hl 5 rfl) ?_
    refine lv_isub hx hb dX5_follow_53 ?_
    refine lv_iconst (v := (0 : Int32)) hx hb dX5_follow_54 rfl ?_
    refine r_mmax C hl.1 q3_205 q3_206 q1_18 q3_207 (Nat.le_of_ble_eq_true rfl) (Nat.le_of_ble_eq_true rfl) (Nat.zero_le _) (Nat.zero_le _) dX5_follow_55 ?_
    obtain ⟨Tp_1, hc2, hf⟩ := bd1_e hf
    refine r_callVvF C hw (c_X5_choose (zp := zp) (zt := zt) hc2) md_X5_choose [0, 1, 2, 3, 4, 5, 6, 7, 8, 9] rfl rfl rfl rfl q3_224 0 rfl cf_X5.1 ⟨Nat.le_of_ble_eq_true rfl, Nat.le_of_ble_eq_true rfl⟩ ⟨Nat.zero_le _, Nat.zero_le _⟩ hl.1 rfl rfl (Nat.le_of_ble_eq_true rfl) dX5_follow_58 (fun H locs hw => ?_)
    have hw : wl g A s.heap (gcP g zp zt Tp_1 ++ (gcT g zt Tt)) H locs := hw
    refine lv_iload hx hb dX5_follow_61 (lv_at hl 5 rfl) ?_
    refine lv_aload_n hx hb dX5_follow_63 rfl (lv_at hl 0 rfl) ?_
    refine lv_iload hx hb dX5_follow_64 (lv_at hl 6 rfl) ?_
    refine lv_aload_n hx hb dX5_follow_66 rfl (lv_at hl 0 rfl) ?_
    refine r_get C hw 0 rfl cf_X5 4 (by decide) q1_179 (v := .int (Tp_1 0 4)) rfl dX5_follow_67 ?_
    refine lv_aload_n hx hb dX5_follow_70 rfl (lv_at hl 0 rfl) ?_
    refine r_get C hw 0 rfl cf_X5 5 (by decide) q1_181 (v := .int (Tp_1 0 5)) rfl dX5_follow_71 ?_
    obtain ⟨r3, hc4, hf⟩ := bd1_e hf
    refine r_callVi0 C hw (c_X5_madeBy (zp := zp) (zt := zt) hc4) md_X5_madeBy [0, 1, 2, 3, 4, 5, 6, 7, 8, 9] rfl rfl q3_195 0 rfl cf_X5.1 ⟨Nat.le_of_ble_eq_true rfl, Nat.le_of_ble_eq_true rfl⟩ ⟨Nat.zero_le _, Nat.zero_le _⟩ hl.1 rfl rfl (Nat.le_of_ble_eq_true rfl) dX5_follow_74 (fun H locs hw => ?_)
    refine lv_iadd hx hb dX5_follow_77 ?_
    refine lv_istore (lv' := [(5, .int (x5 + r3)), (0, .ref (zp 0)), (1, .int x1), (2, .int x2), (3, .int x3), (4, .int x4), (6, .int x6), (7, .int x7), (8, .int x8)]) hx hb dX5_follow_78 hl (by decide) rfl (fun ls hl => ?_)
    refine lv_iinc (v := (x8 + (1 : Int32))) (lv' := [(8, .int (x8 + (1 : Int32))), (5, .int (x5 + r3)), (0, .ref (zp 0)), (1, .int x1), (2, .int x2), (3, .int x3), (4, .int x4), (6, .int x6), (7, .int x7)]) hx hb dX5_follow_80 hl (k := 8) rfl rfl (by decide) rfl (fun ls hl => ?_)
    refine lv_goto (tgt := 37) hx hb dX5_follow_83 (by decide) ?_
    exact hr37 _ _ _ _ _ _ _ _ _ _ _ _ hf hw (lv_sub hl [2, 3, 4, 5, 6, 1, 7, 8, 0] rfl)
set_option maxRecDepth 100000 in
set_option maxHeartbeats 4000000 in
theorem klX5_follow_37 {l : Launch} {g : evG} {p : Program} {e : Env} {s : State} {m : MethodId} {args : Array Value} {below : List Frame} {meth : Method} {c : Code} {A : Nat → Prop} {zp : Nat → Nat} {zt : Nat → Nat} {r : Int32} {op : Gp} (C : ctx g p s m args meth c RX5 cX5_follow 9 (some .int) A) {Tt : Gp} {rec6 : Gp → Int32 → Int32 → Int32 → Int32 → Int32 → Int32 → Option (Int32 × Gp)} (hr6 : ∀ (Tp : Gp) (x1 : Int32) (x2 : Int32) (x3 : Int32) (x4 : Int32) (x5 : Int32) (x6 : Int32) (H : Heap) (locs : List Loc) (ls : Array Slot), rec6 Tp x1 x2 x3 x4 x5 x6 = some (r, op) → wl g A s.heap (gcP g zp zt Tp ++ (gcT g zt Tt)) H locs → lv_has ls 9 [(0, .ref (zp 0)), (1, .int x1), (2, .int x2), (3, .int x3), (4, .int x4), (5, .int x5), (6, .int x6)] → W p l e (rmK 4 102) s m args below meth c H locs 0 0 (MQ below (Qi g A (gcP g zp zt op ++ (gcT g zt Tt)) r) args s 0 0 A) (F0 m 6 ls [])) : ∀ (n : Nat) (Tp : Gp) (x1 : Int32) (x2 : Int32) (x3 : Int32) (x4 : Int32) (x5 : Int32) (x6 : Int32) (x7 : Int32) (x8 : Int32) (H : Heap) (locs : List Loc) (ls : Array Slot), lX5_follow_37 Tt rec6 n Tp x1 x2 x3 x4 x5 x6 x7 x8 = some (r, op) → wl g A s.heap (gcP g zp zt Tp ++ (gcT g zt Tt)) H locs → lv_has ls 9 [(0, .ref (zp 0)), (1, .int x1), (2, .int x2), (3, .int x3), (4, .int x4), (5, .int x5), (6, .int x6), (7, .int x7), (8, .int x8)] → W p l e (rmK 4 102) s m args below meth c H locs 0 0 (MQ below (Qi g A (gcP g zp zt op ++ (gcT g zt Tt)) r) args s 0 0 A) (F0 m 37 ls []) := by
  intro n
  induction n with
  | zero => intro _ _ _ _ _ _ _ _ _ _ _ _ hf; exact no_f hf
  | succ n ih => intro _ _ _ _ _ _ _ _ _ _ _ _ hf hw hl; exact kX5_follow_37 (zp := zp) (zt := zt) (r := r) (op := op) C hr6 (rec37 := lX5_follow_37 Tt rec6 n) ih hf hw hl
set_option maxRecDepth 100000 in
set_option maxHeartbeats 4000000 in
theorem kX5_follow_6 {l : Launch} {g : evG} {p : Program} {e : Env} {s : State} {m : MethodId} {args : Array Value} {below : List Frame} {meth : Method} {c : Code} {A : Nat → Prop} {zp : Nat → Nat} {zt : Nat → Nat} {r : Int32} {op : Gp} (C : ctx g p s m args meth c RX5 cX5_follow 9 (some .int) A) {Tt : Gp} {rec6 : Gp → Int32 → Int32 → Int32 → Int32 → Int32 → Int32 → Option (Int32 × Gp)} (hr6 : ∀ (Tp : Gp) (x1 : Int32) (x2 : Int32) (x3 : Int32) (x4 : Int32) (x5 : Int32) (x6 : Int32) (H : Heap) (locs : List Loc) (ls : Array Slot), rec6 Tp x1 x2 x3 x4 x5 x6 = some (r, op) → wl g A s.heap (gcP g zp zt Tp ++ (gcT g zt Tt)) H locs → lv_has ls 9 [(0, .ref (zp 0)), (1, .int x1), (2, .int x2), (3, .int x3), (4, .int x4), (5, .int x5), (6, .int x6)] → W p l e (rmK 4 102) s m args below meth c H locs 0 0 (MQ below (Qi g A (gcP g zp zt op ++ (gcT g zt Tt)) r) args s 0 0 A) (F0 m 6 ls [])) {Tp : Gp} {x1 : Int32} {x2 : Int32} {x3 : Int32} {x4 : Int32} {x5 : Int32} {x6 : Int32} {H : Heap} {locs : List Loc} {ls : Array Slot} (hf : fX5_follow_6 Tt rec6 Tp x1 x2 x3 x4 x5 x6 = some (r, op)) (hw : wl g A s.heap (gcP g zp zt Tp ++ (gcT g zt Tt)) H locs) (hl : lv_has ls 9 [(0, .ref (zp 0)), (1, .int x1), (2, .int x2), (3, .int x3), (4, .int x4), (5, .int x5), (6, .int x6)]) : W p l e (rmK 4 102) s m args below meth c H locs 0 0 (MQ below (Qi g A (gcP g zp zt op ++ (gcT g zt Tt)) r) args s 0 0 A) (F0 m 6 ls []) := by
  obtain ⟨hx, hb, hml, hown, hts, -⟩ := id C
  unfold fX5_follow_6 at hf
  refine lv_iload hx hb dX5_follow_6 (lv_at hl 6 rfl) ?_
  refine lv_iload_n hx hb dX5_follow_8 rfl (lv_at hl 3 rfl) ?_
  refine lv_icmp_gt (tgt := 92) hx hb dX5_follow_9 (by decide) (fun hc2 => ?_) (fun hc2 => ?_)
  · have hf := it_p hf hc2
    refine lv_iload hx hb dX5_follow_92 (lv_at hl 5 rfl) ?_
    obtain ⟨rfl, rfl⟩ := so2 hf
    exact r_iret C hw rfl dX5_follow_94
  · have hf := it_n hf hc2
    refine lv_iload hx hb dX5_follow_12 (lv_at hl 6 rfl) ?_
    refine lv_iload_n hx hb dX5_follow_14 rfl (lv_at hl 3 rfl) ?_
    refine lv_icmp_ne (tgt := 25) hx hb dX5_follow_15 (by decide) (fun hc1 => ?_) (fun hc1 => ?_)
    · have hf := it_n hf hc1
      refine lv_aload_n hx hb dX5_follow_25 rfl (lv_at hl 0 rfl) ?_
      refine r_get C hw 0 rfl cf_X5 0 (by decide) q1_175 (v := .ref (zt 0)) rfl dX5_follow_26 ?_
      refine r_getN C hw 4 rfl cf_X9 1 (by decide) nq_4 (v := .int (Tt 0 1)) rfl dX5_follow_29 ?_
      refine lv_istore (lv' := [(7, .int (Tt 0 1)), (0, .ref (zp 0)), (1, .int x1), (2, .int x2), (3, .int x3), (4, .int x4), (5, .int x5), (6, .int x6)]) hx hb dX5_follow_32 hl (by decide) rfl (fun ls hl => ?_)
      refine lv_iconst (v := (0 : Int32)) hx hb dX5_follow_34 rfl ?_
      refine lv_istore (lv' := [(8, .int (0 : Int32)), (7, .int (Tt 0 1)), (0, .ref (zp 0)), (1, .int x1), (2, .int x2), (3, .int x3), (4, .int x4), (5, .int x5), (6, .int x6)]) hx hb dX5_follow_35 hl (by decide) rfl (fun ls hl => ?_)
      exact klX5_follow_37 (zp := zp) (zt := zt) (r := r) (op := op) C hr6 fu _ _ _ _ _ _ _ _ _ _ _ _ hf hw (lv_sub hl [2, 3, 4, 5, 6, 7, 8, 1, 0] rfl)
    · have hf := it_p hf hc1
      refine lv_iload hx hb dX5_follow_18 (lv_at hl 4 rfl) ?_
      refine lv_iconst (v := (1 : Int32)) hx hb dX5_follow_20 rfl ?_
      refine lv_iadd hx hb dX5_follow_21 ?_
      refine lv_goto (tgt := 32) hx hb dX5_follow_22 (by decide) ?_
      refine lv_istore (lv' := [(7, .int (x4 + (1 : Int32))), (0, .ref (zp 0)), (1, .int x1), (2, .int x2), (3, .int x3), (4, .int x4), (5, .int x5), (6, .int x6)]) hx hb dX5_follow_32 hl (by decide) rfl (fun ls hl => ?_)
      refine lv_iconst (v := (0 : Int32)) hx hb dX5_follow_34 rfl ?_
      refine lv_istore (lv' := [(8, .int (0 : Int32)), (7, .int (x4 + (1 : Int32))), (0, .ref (zp 0)), (1, .int x1), (2, .int x2), (3, .int x3), (4, .int x4), (5, .int x5), (6, .int x6)]) hx hb dX5_follow_35 hl (by decide) rfl (fun ls hl => ?_)
      exact klX5_follow_37 (zp := zp) (zt := zt) (r := r) (op := op) C hr6 fu _ _ _ _ _ _ _ _ _ _ _ _ hf hw (lv_sub hl [2, 3, 4, 5, 6, 7, 8, 1, 0] rfl)
set_option maxRecDepth 100000 in
set_option maxHeartbeats 4000000 in
theorem klX5_follow_6 {l : Launch} {g : evG} {p : Program} {e : Env} {s : State} {m : MethodId} {args : Array Value} {below : List Frame} {meth : Method} {c : Code} {A : Nat → Prop} {zp : Nat → Nat} {zt : Nat → Nat} {r : Int32} {op : Gp} (C : ctx g p s m args meth c RX5 cX5_follow 9 (some .int) A) {Tt : Gp} : ∀ (n : Nat) (Tp : Gp) (x1 : Int32) (x2 : Int32) (x3 : Int32) (x4 : Int32) (x5 : Int32) (x6 : Int32) (H : Heap) (locs : List Loc) (ls : Array Slot), lX5_follow_6 Tt n Tp x1 x2 x3 x4 x5 x6 = some (r, op) → wl g A s.heap (gcP g zp zt Tp ++ (gcT g zt Tt)) H locs → lv_has ls 9 [(0, .ref (zp 0)), (1, .int x1), (2, .int x2), (3, .int x3), (4, .int x4), (5, .int x5), (6, .int x6)] → W p l e (rmK 4 102) s m args below meth c H locs 0 0 (MQ below (Qi g A (gcP g zp zt op ++ (gcT g zt Tt)) r) args s 0 0 A) (F0 m 6 ls []) := by
  intro n
  induction n with
  | zero => intro _ _ _ _ _ _ _ _ _ _ hf; exact no_f hf
  | succ n ih => intro _ _ _ _ _ _ _ _ _ _ hf hw hl; exact kX5_follow_6 (zp := zp) (zt := zt) (r := r) (op := op) C (rec6 := lX5_follow_6 Tt n) ih hf hw hl
set_option maxRecDepth 100000 in
set_option maxHeartbeats 4000000 in
theorem c_X5_follow {l : Launch} {g : evG} {zp : Nat → Nat} {zt : Nat → Nat} {r : Int32} {op : Gp}  {Tp : Gp} {Tt : Gp} {x1 : Int32} {x2 : Int32} {x3 : Int32} {x4 : Int32} (hf : fX5_follow Tp Tt x1 x2 x3 x4 = some (r, op)) : CTi l g yX5_follow (Cond.code yX5_follow cX5_follow 9 (some .int)) 4 102 [.ref (zp 0), .int x1, .int x2, .int x3, .int x4] (gcP g zp zt Tp ++ (gcT g zt Tt)) (gcP g zp zt op ++ (gcT g zt Tt)) r := by
  refine ct_i rfl (Nat.le_of_ble_eq_true rfl) ?_
  intro p e s m args below meth c A ls C hw hl
  have C : ctx g p s m args meth c RX5 cX5_follow 9 (some .int) A := C
  have hl : lv_has ls 9 [(0, .ref (zp 0)), (1, .int x1), (2, .int x2), (3, .int x3), (4, .int x4)] := hl
  obtain ⟨hx, hb, hml, hown, hts, -⟩ := id C
  unfold fX5_follow at hf
  refine lv_iconst (v := (0 : Int32)) hx hb dX5_follow_0 rfl ?_
  refine lv_istore (lv' := [(5, .int (0 : Int32)), (0, .ref (zp 0)), (1, .int x1), (2, .int x2), (3, .int x3), (4, .int x4)]) hx hb dX5_follow_1 hl (by decide) rfl (fun ls hl => ?_)
  refine lv_iconst (v := (0 : Int32)) hx hb dX5_follow_3 rfl ?_
  refine lv_istore (lv' := [(6, .int (0 : Int32)), (5, .int (0 : Int32)), (0, .ref (zp 0)), (1, .int x1), (2, .int x2), (3, .int x3), (4, .int x4)]) hx hb dX5_follow_4 hl (by decide) rfl (fun ls hl => ?_)
  exact klX5_follow_6 (zp := zp) (zt := zt) (r := r) (op := op) C fu _ _ _ _ _ _ _ _ _ _ hf hw (lv_sub hl [2, 3, 4, 5, 6, 1, 0] rfl)
