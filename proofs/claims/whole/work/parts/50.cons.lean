set_option maxRecDepth 100000 in
set_option maxHeartbeats 4000000 in
theorem c_X9_init {l : Launch} {g : evG} {h0 : Nat} {ot : Gp} (hf : fX9_init = some ot) : CN l g yX9_init (Cond.code yX9_init cX9_init 1 none) 2 5 122 45 [.ref h0] ([(h0, .inr (9, [.int 0, .int 0, .int 0, .int 0, .null, .null, .null, .null, .null]))] : va_W) (fun u : Nat → Nat => u 0 = h0) (fun u : Nat → Nat => gcT g u ot) := by
  refine ct_n rfl rfl (Nat.le_of_ble_eq_true rfl) ?_
  intro p e s m args below meth c A ls C hin hw hl
  have C : ctx g p s m args meth c RX9 cX9_init 1 none A := C
  have hl : lv_has ls 1 [(0, .ref h0)] := hl
  obtain ⟨hx, hb, hml, hown, hts, -⟩ := id C
  unfold fX9_init at hf
  refine lv_aload_n hx hb dX9_init_0 rfl (lv_at hl 0 rfl) ?_
  refine r_objInit C hl.1 q1_33 q1_26 q1_27 dX9_init_1 (Nat.le_of_ble_eq_true rfl) (Nat.le_of_ble_eq_true rfl) ?_
  refine lv_aload_n hx hb dX9_init_4 rfl (lv_at hl 0 rfl) ?_
  refine lv_bipush (v := (6 : Int32)) hx hb dX9_init_5 rfl ?_
  refine r_newI C hw (N := 6) q1_83 (by decide) rfl (by decide) (Nat.le_of_ble_eq_true rfl) (Nat.le_of_ble_eq_true rfl) dX9_init_7 (fun q1 H hw => ?_)
  have hw : wl g A s.heap ([(h0, .inr (9, [.int 0, .int 0, .int 0, .int 0, .null, .null, .null, .null, .null])), (q1, .inl (gI g, 6, .inl (fun _ => 0)))] : va_W) H _ := hw
  refine r_putR C hw 0 rfl cf_X9 4 (by decide) q1_59 rfl hin rfl rfl rfl (Nat.le_of_ble_eq_true rfl) (ws' := ([(h0, .inr (9, [.int 0, .int 0, .int 0, .int 0, .ref q1, .null, .null, .null, .null])), (q1, .inl (gI g, 6, .inl (fun _ => 0)))] : va_W)) rfl dX9_init_9 (fun H locs hw => ?_)
  refine lv_aload_n hx hb dX9_init_12 rfl (lv_at hl 0 rfl) ?_
  refine lv_iconst (v := (5 : Int32)) hx hb dX9_init_13 rfl ?_
  refine r_newI C hw (N := 5) q1_83 (by decide) rfl (by decide) (Nat.le_of_ble_eq_true rfl) (Nat.le_of_ble_eq_true rfl) dX9_init_14 (fun q2 H hw => ?_)
  have hw : wl g A s.heap ([(h0, .inr (9, [.int 0, .int 0, .int 0, .int 0, .ref q1, .null, .null, .null, .null])), (q1, .inl (gI g, 6, .inl (fun _ => 0))), (q2, .inl (gI g, 5, .inl (fun _ => 0)))] : va_W) H _ := hw
  refine r_putR C hw 0 rfl cf_X9 5 (by decide) q1_60 rfl hin rfl rfl rfl (Nat.le_of_ble_eq_true rfl) (ws' := ([(h0, .inr (9, [.int 0, .int 0, .int 0, .int 0, .ref q1, .ref q2, .null, .null, .null])), (q1, .inl (gI g, 6, .inl (fun _ => 0))), (q2, .inl (gI g, 5, .inl (fun _ => 0)))] : va_W)) rfl dX9_init_16 (fun H locs hw => ?_)
  refine lv_aload_n hx hb dX9_init_19 rfl (lv_at hl 0 rfl) ?_
  refine lv_bipush (v := (10 : Int32)) hx hb dX9_init_20 rfl ?_
  refine r_newI C hw (N := 10) q1_83 (by decide) rfl (by decide) (Nat.le_of_ble_eq_true rfl) (Nat.le_of_ble_eq_true rfl) dX9_init_22 (fun q3 H hw => ?_)
  have hw : wl g A s.heap ([(h0, .inr (9, [.int 0, .int 0, .int 0, .int 0, .ref q1, .ref q2, .null, .null, .null])), (q1, .inl (gI g, 6, .inl (fun _ => 0))), (q2, .inl (gI g, 5, .inl (fun _ => 0))), (q3, .inl (gI g, 10, .inl (fun _ => 0)))] : va_W) H _ := hw
  refine r_putR C hw 0 rfl cf_X9 6 (by decide) q1_61 rfl hin rfl rfl rfl (Nat.le_of_ble_eq_true rfl) (ws' := ([(h0, .inr (9, [.int 0, .int 0, .int 0, .int 0, .ref q1, .ref q2, .ref q3, .null, .null])), (q1, .inl (gI g, 6, .inl (fun _ => 0))), (q2, .inl (gI g, 5, .inl (fun _ => 0))), (q3, .inl (gI g, 10, .inl (fun _ => 0)))] : va_W)) rfl dX9_init_24 (fun H locs hw => ?_)
  refine lv_aload_n hx hb dX9_init_27 rfl (lv_at hl 0 rfl) ?_
  refine lv_iconst (v := (5 : Int32)) hx hb dX9_init_28 rfl ?_
  refine r_newI C hw (N := 5) q1_83 (by decide) rfl (by decide) (Nat.le_of_ble_eq_true rfl) (Nat.le_of_ble_eq_true rfl) dX9_init_29 (fun q4 H hw => ?_)
  have hw : wl g A s.heap ([(h0, .inr (9, [.int 0, .int 0, .int 0, .int 0, .ref q1, .ref q2, .ref q3, .null, .null])), (q1, .inl (gI g, 6, .inl (fun _ => 0))), (q2, .inl (gI g, 5, .inl (fun _ => 0))), (q3, .inl (gI g, 10, .inl (fun _ => 0))), (q4, .inl (gI g, 5, .inl (fun _ => 0)))] : va_W) H _ := hw
  refine r_putR C hw 0 rfl cf_X9 7 (by decide) q1_62 rfl hin rfl rfl rfl (Nat.le_of_ble_eq_true rfl) (ws' := ([(h0, .inr (9, [.int 0, .int 0, .int 0, .int 0, .ref q1, .ref q2, .ref q3, .ref q4, .null])), (q1, .inl (gI g, 6, .inl (fun _ => 0))), (q2, .inl (gI g, 5, .inl (fun _ => 0))), (q3, .inl (gI g, 10, .inl (fun _ => 0))), (q4, .inl (gI g, 5, .inl (fun _ => 0)))] : va_W)) rfl dX9_init_31 (fun H locs hw => ?_)
  refine lv_aload_n hx hb dX9_init_34 rfl (lv_at hl 0 rfl) ?_
  refine lv_bipush (v := (96 : Int32)) hx hb dX9_init_35 rfl ?_
  refine r_newI C hw (N := 96) q1_83 (by decide) rfl (by decide) (Nat.le_of_ble_eq_true rfl) (Nat.le_of_ble_eq_true rfl) dX9_init_37 (fun q5 H hw => ?_)
  have hw : wl g A s.heap ([(h0, .inr (9, [.int 0, .int 0, .int 0, .int 0, .ref q1, .ref q2, .ref q3, .ref q4, .null])), (q1, .inl (gI g, 6, .inl (fun _ => 0))), (q2, .inl (gI g, 5, .inl (fun _ => 0))), (q3, .inl (gI g, 10, .inl (fun _ => 0))), (q4, .inl (gI g, 5, .inl (fun _ => 0))), (q5, .inl (gI g, 96, .inl (fun _ => 0)))] : va_W) H _ := hw
  refine r_putR C hw 0 rfl cf_X9 8 (by decide) q1_63 rfl hin rfl rfl rfl (Nat.le_of_ble_eq_true rfl) (ws' := ([(h0, .inr (9, [.int 0, .int 0, .int 0, .int 0, .ref q1, .ref q2, .ref q3, .ref q4, .ref q5])), (q1, .inl (gI g, 6, .inl (fun _ => 0))), (q2, .inl (gI g, 5, .inl (fun _ => 0))), (q3, .inl (gI g, 10, .inl (fun _ => 0))), (q4, .inl (gI g, 5, .inl (fun _ => 0))), (q5, .inl (gI g, 96, .inl (fun _ => 0)))] : va_W)) rfl dX9_init_39 (fun H locs hw => ?_)
  have hw : wl g A s.heap (gcT g (fun i => ([h0, q1, q2, q3, q4, q5] : List Nat).getD i 0) sX9_init) H _ := hw
  obtain ⟨zq, hzq⟩ : ∃ z : Nat → Nat, z = (fun i => ([h0, q1, q2, q3, q4, q5] : List Nat).getD i 0) := ⟨_, rfl⟩
  have hz0 : zq 0 = h0 := by rw [hzq]; rfl
  rw [← hzq] at hw
  have hl : lv_has ls 1 [(0, .ref (zq 0))] := by rw [hz0]; exact hl
  clear hzq
  refine W.widen (k := 5) (n := 122) (Nat.le_of_ble_eq_true rfl) (Nat.le_of_ble_eq_true rfl) ?_
  refine lv_aload_n hx hb dX9_init_42 rfl (lv_at hl 0 rfl) ?_
  refine lv_iconst (v := (1 : Int32)) hx hb dX9_init_43 rfl ?_
  refine r_puti C hw 0 rfl cf_X9 3 (by decide) q1_55 rfl rfl (Nat.le_of_ble_eq_true rfl) (ws' := (gcT g zq (u2 sX9_init 0 3 (1 : Int32)))) gcT_p3 dX9_init_44 (fun H locs hw => ?_)
  refine lv_aload_n hx hb dX9_init_47 rfl (lv_at hl 0 rfl) ?_
  refine lv_iconst (v := (2 : Int32)) hx hb dX9_init_48 rfl ?_
  refine lv_iconst (v := (2 : Int32)) hx hb dX9_init_49 rfl ?_
  obtain ⟨Tt_1, hc2, hf⟩ := bd1_e hf
  refine r_callVvF C hw (c_X9_settle (zt := zq) hc2) md_X9_settle [0, 1, 2, 3, 4, 5] rfl rfl rfl rfl q1_34 0 rfl cf_X9.1 ⟨Nat.le_of_ble_eq_true rfl, Nat.le_of_ble_eq_true rfl⟩ ⟨Nat.le_of_ble_eq_true rfl, Nat.le_of_ble_eq_true rfl⟩ hl.1 rfl rfl (Nat.le_of_ble_eq_true rfl) dX9_init_50 (fun H locs hw => ?_)
  obtain rfl := so1 hf
  exact r_cret C zq hw hz0 dX9_init_53
set_option maxRecDepth 100000 in
set_option maxHeartbeats 4000000 in
theorem c_X0_init {l : Launch} {g : evG} {h0 : Nat} {od : Gp} (hf : fX0_init = some od) : CN l g yX0_init (Cond.code yX0_init cX0_init 1 none) 2 4 74 43 [.ref h0] ([(h0, .inr (0, [.int 0, .int 0, .null, .null, .null, .null]))] : va_W) (fun u : Nat → Nat => u 0 = h0) (fun u : Nat → Nat => gcD g u od) := by
  refine ct_n rfl rfl (Nat.le_of_ble_eq_true rfl) ?_
  intro p e s m args below meth c A ls C hin hw hl
  have C : ctx g p s m args meth c RX0 cX0_init 1 none A := C
  have hl : lv_has ls 1 [(0, .ref h0)] := hl
  obtain ⟨hx, hb, hml, hown, hts, -⟩ := id C
  unfold fX0_init at hf
  refine lv_aload_n hx hb dX0_init_0 rfl (lv_at hl 0 rfl) ?_
  refine r_objInit C hl.1 q1_141 q1_26 q1_27 dX0_init_1 (Nat.le_of_ble_eq_true rfl) (Nat.le_of_ble_eq_true rfl) ?_
  refine lv_aload_n hx hb dX0_init_4 rfl (lv_at hl 0 rfl) ?_
  refine lv_iconst (v := (2 : Int32)) hx hb dX0_init_5 rfl ?_
  refine r_newI C hw (N := 2) q1_83 (by decide) rfl (by decide) (Nat.le_of_ble_eq_true rfl) (Nat.le_of_ble_eq_true rfl) dX0_init_6 (fun q1 H hw => ?_)
  have hw : wl g A s.heap ([(h0, .inr (0, [.int 0, .int 0, .null, .null, .null, .null])), (q1, .inl (gI g, 2, .inl (fun _ => 0)))] : va_W) H _ := hw
  refine r_putR C hw 0 rfl cf_X0 2 (by decide) q1_150 rfl hin rfl rfl rfl (Nat.le_of_ble_eq_true rfl) (ws' := ([(h0, .inr (0, [.int 0, .int 0, .ref q1, .null, .null, .null])), (q1, .inl (gI g, 2, .inl (fun _ => 0)))] : va_W)) rfl dX0_init_8 (fun H locs hw => ?_)
  refine lv_aload_n hx hb dX0_init_11 rfl (lv_at hl 0 rfl) ?_
  refine lv_bipush (v := (12 : Int32)) hx hb dX0_init_12 rfl ?_
  refine r_newI C hw (N := 12) q1_83 (by decide) rfl (by decide) (Nat.le_of_ble_eq_true rfl) (Nat.le_of_ble_eq_true rfl) dX0_init_14 (fun q2 H hw => ?_)
  have hw : wl g A s.heap ([(h0, .inr (0, [.int 0, .int 0, .ref q1, .null, .null, .null])), (q1, .inl (gI g, 2, .inl (fun _ => 0))), (q2, .inl (gI g, 12, .inl (fun _ => 0)))] : va_W) H _ := hw
  refine r_putR C hw 0 rfl cf_X0 3 (by decide) q1_152 rfl hin rfl rfl rfl (Nat.le_of_ble_eq_true rfl) (ws' := ([(h0, .inr (0, [.int 0, .int 0, .ref q1, .ref q2, .null, .null])), (q1, .inl (gI g, 2, .inl (fun _ => 0))), (q2, .inl (gI g, 12, .inl (fun _ => 0)))] : va_W)) rfl dX0_init_16 (fun H locs hw => ?_)
  refine lv_aload_n hx hb dX0_init_19 rfl (lv_at hl 0 rfl) ?_
  refine lv_bipush (v := (12 : Int32)) hx hb dX0_init_20 rfl ?_
  refine r_newI C hw (N := 12) q1_83 (by decide) rfl (by decide) (Nat.le_of_ble_eq_true rfl) (Nat.le_of_ble_eq_true rfl) dX0_init_22 (fun q3 H hw => ?_)
  have hw : wl g A s.heap ([(h0, .inr (0, [.int 0, .int 0, .ref q1, .ref q2, .null, .null])), (q1, .inl (gI g, 2, .inl (fun _ => 0))), (q2, .inl (gI g, 12, .inl (fun _ => 0))), (q3, .inl (gI g, 12, .inl (fun _ => 0)))] : va_W) H _ := hw
  refine r_putR C hw 0 rfl cf_X0 4 (by decide) q1_153 rfl hin rfl rfl rfl (Nat.le_of_ble_eq_true rfl) (ws' := ([(h0, .inr (0, [.int 0, .int 0, .ref q1, .ref q2, .ref q3, .null])), (q1, .inl (gI g, 2, .inl (fun _ => 0))), (q2, .inl (gI g, 12, .inl (fun _ => 0))), (q3, .inl (gI g, 12, .inl (fun _ => 0)))] : va_W)) rfl dX0_init_24 (fun H locs hw => ?_)
  refine lv_aload_n hx hb dX0_init_27 rfl (lv_at hl 0 rfl) ?_
  refine lv_bipush (v := (48 : Int32)) hx hb dX0_init_28 rfl ?_
  refine r_newI C hw (N := 48) q1_83 (by decide) rfl (by decide) (Nat.le_of_ble_eq_true rfl) (Nat.le_of_ble_eq_true rfl) dX0_init_30 (fun q4 H hw => ?_)
  have hw : wl g A s.heap ([(h0, .inr (0, [.int 0, .int 0, .ref q1, .ref q2, .ref q3, .null])), (q1, .inl (gI g, 2, .inl (fun _ => 0))), (q2, .inl (gI g, 12, .inl (fun _ => 0))), (q3, .inl (gI g, 12, .inl (fun _ => 0))), (q4, .inl (gI g, 48, .inl (fun _ => 0)))] : va_W) H _ := hw
  refine r_putR C hw 0 rfl cf_X0 5 (by decide) q1_154 rfl hin rfl rfl rfl (Nat.le_of_ble_eq_true rfl) (ws' := ([(h0, .inr (0, [.int 0, .int 0, .ref q1, .ref q2, .ref q3, .ref q4])), (q1, .inl (gI g, 2, .inl (fun _ => 0))), (q2, .inl (gI g, 12, .inl (fun _ => 0))), (q3, .inl (gI g, 12, .inl (fun _ => 0))), (q4, .inl (gI g, 48, .inl (fun _ => 0)))] : va_W)) rfl dX0_init_32 (fun H locs hw => ?_)
  have hw : wl g A s.heap (gcD g (fun i => ([h0, q1, q2, q3, q4] : List Nat).getD i 0) sX0_init) H _ := hw
  obtain ⟨zq, hzq⟩ : ∃ z : Nat → Nat, z = (fun i => ([h0, q1, q2, q3, q4] : List Nat).getD i 0) := ⟨_, rfl⟩
  have hz0 : zq 0 = h0 := by rw [hzq]; rfl
  rw [← hzq] at hw
  have hl : lv_has ls 1 [(0, .ref (zq 0))] := by rw [hz0]; exact hl
  clear hzq
  refine W.widen (k := 4) (n := 74) (Nat.le_of_ble_eq_true rfl) (Nat.le_of_ble_eq_true rfl) ?_
  refine lv_aload_n hx hb dX0_init_35 rfl (lv_at hl 0 rfl) ?_
  obtain ⟨Td_1, hc2, hf⟩ := bd1_e hf
  refine r_callVvF C hw (c_X0_beginAnew (zd := zq) hc2) md_X0_beginAnew [0, 1, 2, 3, 4] rfl rfl rfl rfl q1_142 0 rfl cf_X0.1 ⟨Nat.le_of_ble_eq_true rfl, Nat.le_of_ble_eq_true rfl⟩ ⟨Nat.le_of_ble_eq_true rfl, Nat.le_of_ble_eq_true rfl⟩ hl.1 rfl rfl (Nat.le_of_ble_eq_true rfl) dX0_init_36 (fun H locs hw => ?_)
  obtain rfl := so1 hf
  exact r_cret C zq hw hz0 dX0_init_39
set_option maxRecDepth 100000 in
set_option maxHeartbeats 4000000 in
theorem c_X7_init {l : Launch} {g : evG} {h0 : Nat} {ox : Gp} (hf : fX7_init = some ox) : CN l g yX7_init (Cond.code yX7_init cX7_init 1 none) 1 1 200 12 [.ref h0] ([(h0, .inr (7, [.int 0, .null]))] : va_W) (fun u : Nat → Nat => u 0 = h0) (fun u : Nat → Nat => gcX g u ox) := by
  refine ct_n rfl rfl (Nat.le_of_ble_eq_true rfl) ?_
  intro p e s m args below meth c A ls C hin hw hl
  have C : ctx g p s m args meth c RX7 cX7_init 1 none A := C
  have hl : lv_has ls 1 [(0, .ref h0)] := hl
  obtain ⟨hx, hb, hml, hown, hts, -⟩ := id C
  unfold fX7_init at hf
  refine lv_aload_n hx hb dX7_init_0 rfl (lv_at hl 0 rfl) ?_
  refine r_objInit C hl.1 q1_89 q1_26 q1_27 dX7_init_1 (Nat.le_of_ble_eq_true rfl) (Nat.le_of_ble_eq_true rfl) ?_
  refine lv_aload_n hx hb dX7_init_4 rfl (lv_at hl 0 rfl) ?_
  refine lv_sipush (v := (200 : Int32)) hx hb dX7_init_5 rfl ?_
  refine r_newI C hw (N := 200) q1_83 (by decide) rfl (by decide) (Nat.le_of_ble_eq_true rfl) (Nat.le_of_ble_eq_true rfl) dX7_init_8 (fun q1 H hw => ?_)
  have hw : wl g A s.heap ([(h0, .inr (7, [.int 0, .null])), (q1, .inl (gI g, 200, .inl (fun _ => 0)))] : va_W) H _ := hw
  refine r_putR C hw 0 rfl cf_X7 1 (by decide) q1_93 rfl hin rfl rfl rfl (Nat.le_of_ble_eq_true rfl) (ws' := ([(h0, .inr (7, [.int 0, .ref q1])), (q1, .inl (gI g, 200, .inl (fun _ => 0)))] : va_W)) rfl dX7_init_10 (fun H locs hw => ?_)
  have hw : wl g A s.heap (gcX g (fun i => ([h0, q1] : List Nat).getD i 0) sX7_init) H _ := hw
  obtain ⟨zq, hzq⟩ : ∃ z : Nat → Nat, z = (fun i => ([h0, q1] : List Nat).getD i 0) := ⟨_, rfl⟩
  have hz0 : zq 0 = h0 := by rw [hzq]; rfl
  rw [← hzq] at hw
  have hl : lv_has ls 1 [(0, .ref (zq 0))] := by rw [hz0]; exact hl
  clear hzq
  refine W.widen (k := 1) (n := 200) (Nat.le_of_ble_eq_true rfl) (Nat.le_of_ble_eq_true rfl) ?_
  obtain rfl := so1 hf
  exact r_cret C zq hw hz0 dX7_init_13
set_option maxRecDepth 100000 in
set_option maxHeartbeats 4000000 in
theorem c_X8_init {l : Launch} {g : evG} {h0 : Nat} {zx : Nat → Nat} {ok : Gp} (hf : fX8_init = some ok) : CN l g yX8_init (Cond.code yX8_init cX8_init 2 none) 1 0 0 12 [.ref h0, .ref (zx 0)] ([(h0, .inr (8, [.null, .int 0, .int 0, .int 0]))] : va_W) (fun u : Nat → Nat => u 0 = h0) (fun u : Nat → Nat => gcK g u zx ok) := by
  refine ct_n rfl rfl (Nat.le_of_ble_eq_true rfl) ?_
  intro p e s m args below meth c A ls C hin hw hl
  have C : ctx g p s m args meth c RX8 cX8_init 2 none A := C
  have hl : lv_has ls 2 [(0, .ref h0), (1, .ref (zx 0))] := hl
  obtain ⟨hx, hb, hml, hown, hts, -⟩ := id C
  unfold fX8_init at hf
  refine lv_aload_n hx hb dX8_init_0 rfl (lv_at hl 0 rfl) ?_
  refine r_objInit C hl.1 q1_110 q1_26 q1_27 dX8_init_1 (Nat.le_of_ble_eq_true rfl) (Nat.le_of_ble_eq_true rfl) ?_
  refine lv_aload_n hx hb dX8_init_4 rfl (lv_at hl 0 rfl) ?_
  refine lv_aload_n hx hb dX8_init_5 rfl (lv_at hl 1 rfl) ?_
  refine r_putR C hw 0 rfl cf_X8 0 (by decide) q1_111 rfl hin rfl rfl rfl (Nat.le_of_ble_eq_true rfl) (ws' := ([(h0, .inr (8, [.ref (zx 0), .int 0, .int 0, .int 0]))] : va_W)) rfl dX8_init_6 (fun H locs hw => ?_)
  have hw : wl g A s.heap (gcK g (fun i => ([h0] : List Nat).getD i 0) zx sX8_init) H _ := hw
  obtain ⟨zq, hzq⟩ : ∃ z : Nat → Nat, z = (fun i => ([h0] : List Nat).getD i 0) := ⟨_, rfl⟩
  have hz0 : zq 0 = h0 := by rw [hzq]; rfl
  rw [← hzq] at hw
  have hl : lv_has ls 2 [(0, .ref (zq 0)), (1, .ref (zx 0))] := by rw [hz0]; exact hl
  clear hzq
  refine W.widen (k := 0) (n := 0) (Nat.le_of_ble_eq_true rfl) (Nat.le_of_ble_eq_true rfl) ?_
  obtain rfl := so1 hf
  exact r_cret C zq hw hz0 dX8_init_9
set_option maxRecDepth 100000 in
set_option maxHeartbeats 4000000 in
theorem c_X5_init {l : Launch} {g : evG} {h0 : Nat} {zt : Nat → Nat} {op : Gp} (hf : fX5_init = some op) : CN l g yX5_init (Cond.code yX5_init cX5_init 2 none) 1 3 10093 12 [.ref h0, .ref (zt 0)] ([(h0, .inr (5, [.null, .null, .null, .null, .int 0, .int 0]))] : va_W) (fun u : Nat → Nat => u 0 = h0) (fun u : Nat → Nat => gcP g u zt op) := by
  refine ct_n rfl rfl (Nat.le_of_ble_eq_true rfl) ?_
  intro p e s m args below meth c A ls C hin hw hl
  have C : ctx g p s m args meth c RX5 cX5_init 2 none A := C
  have hl : lv_has ls 2 [(0, .ref h0), (1, .ref (zt 0))] := hl
  obtain ⟨hx, hb, hml, hown, hts, -⟩ := id C
  unfold fX5_init at hf
  refine lv_aload_n hx hb dX5_init_0 rfl (lv_at hl 0 rfl) ?_
  refine r_objInit C hl.1 q1_174 q1_26 q1_27 dX5_init_1 (Nat.le_of_ble_eq_true rfl) (Nat.le_of_ble_eq_true rfl) ?_
  refine lv_aload_n hx hb dX5_init_4 rfl (lv_at hl 0 rfl) ?_
  refine lv_sipush (v := (10050 : Int32)) hx hb dX5_init_5 rfl ?_
  refine r_newI C hw (N := 10050) q1_83 (by decide) rfl (by decide) (Nat.le_of_ble_eq_true rfl) (Nat.le_of_ble_eq_true rfl) dX5_init_8 (fun q1 H hw => ?_)
  have hw : wl g A s.heap ([(h0, .inr (5, [.null, .null, .null, .null, .int 0, .int 0])), (q1, .inl (gI g, 10050, .inl (fun _ => 0)))] : va_W) H _ := hw
  refine r_putR C hw 0 rfl cf_X5 1 (by decide) q1_176 rfl hin rfl rfl rfl (Nat.le_of_ble_eq_true rfl) (ws' := ([(h0, .inr (5, [.null, .ref q1, .null, .null, .int 0, .int 0])), (q1, .inl (gI g, 10050, .inl (fun _ => 0)))] : va_W)) rfl dX5_init_10 (fun H locs hw => ?_)
  refine lv_aload_n hx hb dX5_init_13 rfl (lv_at hl 0 rfl) ?_
  refine lv_bipush (v := (41 : Int32)) hx hb dX5_init_14 rfl ?_
  refine r_newI C hw (N := 41) q1_83 (by decide) rfl (by decide) (Nat.le_of_ble_eq_true rfl) (Nat.le_of_ble_eq_true rfl) dX5_init_16 (fun q2 H hw => ?_)
  have hw : wl g A s.heap ([(h0, .inr (5, [.null, .ref q1, .null, .null, .int 0, .int 0])), (q1, .inl (gI g, 10050, .inl (fun _ => 0))), (q2, .inl (gI g, 41, .inl (fun _ => 0)))] : va_W) H _ := hw
  refine r_putR C hw 0 rfl cf_X5 2 (by decide) q1_177 rfl hin rfl rfl rfl (Nat.le_of_ble_eq_true rfl) (ws' := ([(h0, .inr (5, [.null, .ref q1, .ref q2, .null, .int 0, .int 0])), (q1, .inl (gI g, 10050, .inl (fun _ => 0))), (q2, .inl (gI g, 41, .inl (fun _ => 0)))] : va_W)) rfl dX5_init_18 (fun H locs hw => ?_)
  refine lv_aload_n hx hb dX5_init_21 rfl (lv_at hl 0 rfl) ?_
  refine lv_iconst (v := (2 : Int32)) hx hb dX5_init_22 rfl ?_
  refine r_newZ C hw (N := 2) q1_196 (by decide) rfl (by decide) (Nat.le_of_ble_eq_true rfl) (Nat.le_of_ble_eq_true rfl) dX5_init_23 (fun q3 H hw => ?_)
  have hw : wl g A s.heap ([(h0, .inr (5, [.null, .ref q1, .ref q2, .null, .int 0, .int 0])), (q1, .inl (gI g, 10050, .inl (fun _ => 0))), (q2, .inl (gI g, 41, .inl (fun _ => 0))), (q3, .inl (gZ g, 2, .inl (fun _ => 0)))] : va_W) H _ := hw
  refine r_putR C hw 0 rfl cf_X5 3 (by decide) q1_178 rfl hin rfl rfl rfl (Nat.le_of_ble_eq_true rfl) (ws' := ([(h0, .inr (5, [.null, .ref q1, .ref q2, .ref q3, .int 0, .int 0])), (q1, .inl (gI g, 10050, .inl (fun _ => 0))), (q2, .inl (gI g, 41, .inl (fun _ => 0))), (q3, .inl (gZ g, 2, .inl (fun _ => 0)))] : va_W)) rfl dX5_init_25 (fun H locs hw => ?_)
  refine lv_aload_n hx hb dX5_init_28 rfl (lv_at hl 0 rfl) ?_
  refine lv_aload_n hx hb dX5_init_29 rfl (lv_at hl 1 rfl) ?_
  refine r_putR C hw 0 rfl cf_X5 0 (by decide) q1_175 rfl hin rfl rfl rfl (Nat.le_of_ble_eq_true rfl) (ws' := ([(h0, .inr (5, [.ref (zt 0), .ref q1, .ref q2, .ref q3, .int 0, .int 0])), (q1, .inl (gI g, 10050, .inl (fun _ => 0))), (q2, .inl (gI g, 41, .inl (fun _ => 0))), (q3, .inl (gZ g, 2, .inl (fun _ => 0)))] : va_W)) rfl dX5_init_30 (fun H locs hw => ?_)
  have hw : wl g A s.heap (gcP g (fun i => ([h0, q1, q2, q3] : List Nat).getD i 0) zt sX5_init) H _ := hw
  obtain ⟨zq, hzq⟩ : ∃ z : Nat → Nat, z = (fun i => ([h0, q1, q2, q3] : List Nat).getD i 0) := ⟨_, rfl⟩
  have hz0 : zq 0 = h0 := by rw [hzq]; rfl
  rw [← hzq] at hw
  have hl : lv_has ls 2 [(0, .ref (zq 0)), (1, .ref (zt 0))] := by rw [hz0]; exact hl
  clear hzq
  refine W.widen (k := 3) (n := 10093) (Nat.le_of_ble_eq_true rfl) (Nat.le_of_ble_eq_true rfl) ?_
  obtain rfl := so1 hf
  exact r_cret C zq hw hz0 dX5_init_33
set_option maxRecDepth 100000 in
set_option maxHeartbeats 4000000 in
theorem c_X3_init {l : Launch} {g : evG} {h0 : Nat} {on : Gp} (hf : fX3_init = some on) : CN l g yX3_init (Cond.code yX3_init cX3_init 1 none) 1 1 4 12 [.ref h0] ([(h0, .inr (3, [.null]))] : va_W) (fun u : Nat → Nat => u 0 = h0) (fun u : Nat → Nat => gcN g u on) := by
  refine ct_n rfl rfl (Nat.le_of_ble_eq_true rfl) ?_
  intro p e s m args below meth c A ls C hin hw hl
  have C : ctx g p s m args meth c RX3 cX3_init 1 none A := C
  have hl : lv_has ls 1 [(0, .ref h0)] := hl
  obtain ⟨hx, hb, hml, hown, hts, -⟩ := id C
  unfold fX3_init at hf
  refine lv_aload_n hx hb dX3_init_0 rfl (lv_at hl 0 rfl) ?_
  refine r_objInit C hl.1 q1_202 q1_26 q1_27 dX3_init_1 (Nat.le_of_ble_eq_true rfl) (Nat.le_of_ble_eq_true rfl) ?_
  refine lv_aload_n hx hb dX3_init_4 rfl (lv_at hl 0 rfl) ?_
  refine lv_iconst (v := (4 : Int32)) hx hb dX3_init_5 rfl ?_
  refine r_newI C hw (N := 4) q1_83 (by decide) rfl (by decide) (Nat.le_of_ble_eq_true rfl) (Nat.le_of_ble_eq_true rfl) dX3_init_6 (fun q1 H hw => ?_)
  have hw : wl g A s.heap ([(h0, .inr (3, [.null])), (q1, .inl (gI g, 4, .inl (fun _ => 0)))] : va_W) H _ := hw
  refine r_putR C hw 0 rfl cf_X3 0 (by decide) q1_203 rfl hin rfl rfl rfl (Nat.le_of_ble_eq_true rfl) (ws' := ([(h0, .inr (3, [.ref q1])), (q1, .inl (gI g, 4, .inl (fun _ => 0)))] : va_W)) rfl dX3_init_8 (fun H locs hw => ?_)
  have hw : wl g A s.heap (gcN g (fun i => ([h0, q1] : List Nat).getD i 0) sX3_init) H _ := hw
  obtain ⟨zq, hzq⟩ : ∃ z : Nat → Nat, z = (fun i => ([h0, q1] : List Nat).getD i 0) := ⟨_, rfl⟩
  have hz0 : zq 0 = h0 := by rw [hzq]; rfl
  rw [← hzq] at hw
  have hl : lv_has ls 1 [(0, .ref (zq 0))] := by rw [hz0]; exact hl
  clear hzq
  refine W.widen (k := 1) (n := 4) (Nat.le_of_ble_eq_true rfl) (Nat.le_of_ble_eq_true rfl) ?_
  obtain rfl := so1 hf
  exact r_cret C zq hw hz0 dX3_init_11
set_option maxRecDepth 100000 in
set_option maxHeartbeats 4000000 in
theorem c_X4_init {l : Launch} {g : evG} {h0 : Nat} {oh : Gp} (hf : fX4_init = some oh) : CN l g yX4_init (Cond.code yX4_init cX4_init 1 none) 1 2 100 12 [.ref h0] ([(h0, .inr (4, [.null, .null]))] : va_W) (fun u : Nat → Nat => u 0 = h0) (fun u : Nat → Nat => gcH g u oh) := by
  refine ct_n rfl rfl (Nat.le_of_ble_eq_true rfl) ?_
  intro p e s m args below meth c A ls C hin hw hl
  have C : ctx g p s m args meth c RX4 cX4_init 1 none A := C
  have hl : lv_has ls 1 [(0, .ref h0)] := hl
  obtain ⟨hx, hb, hml, hown, hts, -⟩ := id C
  unfold fX4_init at hf
  refine lv_aload_n hx hb dX4_init_0 rfl (lv_at hl 0 rfl) ?_
  refine r_objInit C hl.1 q1_212 q1_26 q1_27 dX4_init_1 (Nat.le_of_ble_eq_true rfl) (Nat.le_of_ble_eq_true rfl) ?_
  refine lv_aload_n hx hb dX4_init_4 rfl (lv_at hl 0 rfl) ?_
  refine lv_bipush (v := (36 : Int32)) hx hb dX4_init_5 rfl ?_
  refine r_newI C hw (N := 36) q1_83 (by decide) rfl (by decide) (Nat.le_of_ble_eq_true rfl) (Nat.le_of_ble_eq_true rfl) dX4_init_7 (fun q1 H hw => ?_)
  have hw : wl g A s.heap ([(h0, .inr (4, [.null, .null])), (q1, .inl (gI g, 36, .inl (fun _ => 0)))] : va_W) H _ := hw
  refine r_putR C hw 0 rfl cf_X4 0 (by decide) q1_213 rfl hin rfl rfl rfl (Nat.le_of_ble_eq_true rfl) (ws' := ([(h0, .inr (4, [.ref q1, .null])), (q1, .inl (gI g, 36, .inl (fun _ => 0)))] : va_W)) rfl dX4_init_9 (fun H locs hw => ?_)
  refine lv_aload_n hx hb dX4_init_12 rfl (lv_at hl 0 rfl) ?_
  refine lv_bipush (v := (64 : Int32)) hx hb dX4_init_13 rfl ?_
  refine r_newI C hw (N := 64) q1_83 (by decide) rfl (by decide) (Nat.le_of_ble_eq_true rfl) (Nat.le_of_ble_eq_true rfl) dX4_init_15 (fun q2 H hw => ?_)
  have hw : wl g A s.heap ([(h0, .inr (4, [.ref q1, .null])), (q1, .inl (gI g, 36, .inl (fun _ => 0))), (q2, .inl (gI g, 64, .inl (fun _ => 0)))] : va_W) H _ := hw
  refine r_putR C hw 0 rfl cf_X4 1 (by decide) q1_214 rfl hin rfl rfl rfl (Nat.le_of_ble_eq_true rfl) (ws' := ([(h0, .inr (4, [.ref q1, .ref q2])), (q1, .inl (gI g, 36, .inl (fun _ => 0))), (q2, .inl (gI g, 64, .inl (fun _ => 0)))] : va_W)) rfl dX4_init_17 (fun H locs hw => ?_)
  have hw : wl g A s.heap (gcH g (fun i => ([h0, q1, q2] : List Nat).getD i 0) sX4_init) H _ := hw
  obtain ⟨zq, hzq⟩ : ∃ z : Nat → Nat, z = (fun i => ([h0, q1, q2] : List Nat).getD i 0) := ⟨_, rfl⟩
  have hz0 : zq 0 = h0 := by rw [hzq]; rfl
  rw [← hzq] at hw
  have hl : lv_has ls 1 [(0, .ref (zq 0))] := by rw [hz0]; exact hl
  clear hzq
  refine W.widen (k := 2) (n := 100) (Nat.le_of_ble_eq_true rfl) (Nat.le_of_ble_eq_true rfl) ?_
  obtain rfl := so1 hf
  exact r_cret C zq hw hz0 dX4_init_20
set_option maxRecDepth 100000 in
set_option maxHeartbeats 4000000 in
theorem c_X2_init {l : Launch} {g : evG} {h0 : Nat} {og : Gp} (hf : fX2_init = some og) : CN l g yX2_init (Cond.code yX2_init cX2_init 1 none) 1 2 136 12 [.ref h0] ([(h0, .inr (2, [.null, .null]))] : va_W) (fun u : Nat → Nat => u 0 = h0) (fun u : Nat → Nat => gcG g u og) := by
  refine ct_n rfl rfl (Nat.le_of_ble_eq_true rfl) ?_
  intro p e s m args below meth c A ls C hin hw hl
  have C : ctx g p s m args meth c RX2 cX2_init 1 none A := C
  have hl : lv_has ls 1 [(0, .ref h0)] := hl
  obtain ⟨hx, hb, hml, hown, hts, -⟩ := id C
  unfold fX2_init at hf
  refine lv_aload_n hx hb dX2_init_0 rfl (lv_at hl 0 rfl) ?_
  refine r_objInit C hl.1 q1_225 q1_26 q1_27 dX2_init_1 (Nat.le_of_ble_eq_true rfl) (Nat.le_of_ble_eq_true rfl) ?_
  refine lv_aload_n hx hb dX2_init_4 rfl (lv_at hl 0 rfl) ?_
  refine lv_bipush (v := (72 : Int32)) hx hb dX2_init_5 rfl ?_
  refine r_newI C hw (N := 72) q1_83 (by decide) rfl (by decide) (Nat.le_of_ble_eq_true rfl) (Nat.le_of_ble_eq_true rfl) dX2_init_7 (fun q1 H hw => ?_)
  have hw : wl g A s.heap ([(h0, .inr (2, [.null, .null])), (q1, .inl (gI g, 72, .inl (fun _ => 0)))] : va_W) H _ := hw
  refine r_putR C hw 0 rfl cf_X2 0 (by decide) q1_226 rfl hin rfl rfl rfl (Nat.le_of_ble_eq_true rfl) (ws' := ([(h0, .inr (2, [.ref q1, .null])), (q1, .inl (gI g, 72, .inl (fun _ => 0)))] : va_W)) rfl dX2_init_9 (fun H locs hw => ?_)
  refine lv_aload_n hx hb dX2_init_12 rfl (lv_at hl 0 rfl) ?_
  refine lv_bipush (v := (64 : Int32)) hx hb dX2_init_13 rfl ?_
  refine r_newI C hw (N := 64) q1_83 (by decide) rfl (by decide) (Nat.le_of_ble_eq_true rfl) (Nat.le_of_ble_eq_true rfl) dX2_init_15 (fun q2 H hw => ?_)
  have hw : wl g A s.heap ([(h0, .inr (2, [.ref q1, .null])), (q1, .inl (gI g, 72, .inl (fun _ => 0))), (q2, .inl (gI g, 64, .inl (fun _ => 0)))] : va_W) H _ := hw
  refine r_putR C hw 0 rfl cf_X2 1 (by decide) q1_227 rfl hin rfl rfl rfl (Nat.le_of_ble_eq_true rfl) (ws' := ([(h0, .inr (2, [.ref q1, .ref q2])), (q1, .inl (gI g, 72, .inl (fun _ => 0))), (q2, .inl (gI g, 64, .inl (fun _ => 0)))] : va_W)) rfl dX2_init_17 (fun H locs hw => ?_)
  have hw : wl g A s.heap (gcG g (fun i => ([h0, q1, q2] : List Nat).getD i 0) sX2_init) H _ := hw
  obtain ⟨zq, hzq⟩ : ∃ z : Nat → Nat, z = (fun i => ([h0, q1, q2] : List Nat).getD i 0) := ⟨_, rfl⟩
  have hz0 : zq 0 = h0 := by rw [hzq]; rfl
  rw [← hzq] at hw
  have hl : lv_has ls 1 [(0, .ref (zq 0))] := by rw [hz0]; exact hl
  clear hzq
  refine W.widen (k := 2) (n := 136) (Nat.le_of_ble_eq_true rfl) (Nat.le_of_ble_eq_true rfl) ?_
  obtain rfl := so1 hf
  exact r_cret C zq hw hz0 dX2_init_20
set_option maxRecDepth 100000 in
set_option maxHeartbeats 4000000 in
theorem c_X6_init {l : Launch} {g : evG} {h0 : Nat} {or : Gp} (hf : fX6_init = some or) : CN l g yX6_init (Cond.code yX6_init cX6_init 1 none) 1 2 122 12 [.ref h0] ([(h0, .inr (6, [.int 0, .null, .null]))] : va_W) (fun u : Nat → Nat => u 0 = h0) (fun u : Nat → Nat => gcR g u or) := by
  refine ct_n rfl rfl (Nat.le_of_ble_eq_true rfl) ?_
  intro p e s m args below meth c A ls C hin hw hl
  have C : ctx g p s m args meth c RX6 cX6_init 1 none A := C
  have hl : lv_has ls 1 [(0, .ref h0)] := hl
  obtain ⟨hx, hb, hml, hown, hts, -⟩ := id C
  unfold fX6_init at hf
  refine lv_aload_n hx hb dX6_init_0 rfl (lv_at hl 0 rfl) ?_
  refine r_objInit C hl.1 q1_238 q1_26 q1_27 dX6_init_1 (Nat.le_of_ble_eq_true rfl) (Nat.le_of_ble_eq_true rfl) ?_
  refine lv_aload_n hx hb dX6_init_4 rfl (lv_at hl 0 rfl) ?_
  refine lv_bipush (v := (40 : Int32)) hx hb dX6_init_5 rfl ?_
  refine r_newZ C hw (N := 40) q1_196 (by decide) rfl (by decide) (Nat.le_of_ble_eq_true rfl) (Nat.le_of_ble_eq_true rfl) dX6_init_7 (fun q1 H hw => ?_)
  have hw : wl g A s.heap ([(h0, .inr (6, [.int 0, .null, .null])), (q1, .inl (gZ g, 40, .inl (fun _ => 0)))] : va_W) H _ := hw
  refine r_putR C hw 0 rfl cf_X6 1 (by decide) q2_1 rfl hin rfl rfl rfl (Nat.le_of_ble_eq_true rfl) (ws' := ([(h0, .inr (6, [.int 0, .ref q1, .null])), (q1, .inl (gZ g, 40, .inl (fun _ => 0)))] : va_W)) rfl dX6_init_9 (fun H locs hw => ?_)
  refine lv_aload_n hx hb dX6_init_12 rfl (lv_at hl 0 rfl) ?_
  refine lv_bipush (v := (82 : Int32)) hx hb dX6_init_13 rfl ?_
  refine r_newI C hw (N := 82) q1_83 (by decide) rfl (by decide) (Nat.le_of_ble_eq_true rfl) (Nat.le_of_ble_eq_true rfl) dX6_init_15 (fun q2 H hw => ?_)
  have hw : wl g A s.heap ([(h0, .inr (6, [.int 0, .ref q1, .null])), (q1, .inl (gZ g, 40, .inl (fun _ => 0))), (q2, .inl (gI g, 82, .inl (fun _ => 0)))] : va_W) H _ := hw
  refine r_putR C hw 0 rfl cf_X6 2 (by decide) q2_2 rfl hin rfl rfl rfl (Nat.le_of_ble_eq_true rfl) (ws' := ([(h0, .inr (6, [.int 0, .ref q1, .ref q2])), (q1, .inl (gZ g, 40, .inl (fun _ => 0))), (q2, .inl (gI g, 82, .inl (fun _ => 0)))] : va_W)) rfl dX6_init_17 (fun H locs hw => ?_)
  have hw : wl g A s.heap (gcR g (fun i => ([h0, q1, q2] : List Nat).getD i 0) sX6_init) H _ := hw
  obtain ⟨zq, hzq⟩ : ∃ z : Nat → Nat, z = (fun i => ([h0, q1, q2] : List Nat).getD i 0) := ⟨_, rfl⟩
  have hz0 : zq 0 = h0 := by rw [hzq]; rfl
  rw [← hzq] at hw
  have hl : lv_has ls 1 [(0, .ref (zq 0))] := by rw [hz0]; exact hl
  clear hzq
  refine W.widen (k := 2) (n := 122) (Nat.le_of_ble_eq_true rfl) (Nat.le_of_ble_eq_true rfl) ?_
  obtain rfl := so1 hf
  exact r_cret C zq hw hz0 dX6_init_20
set_option maxRecDepth 100000 in
set_option maxHeartbeats 4000000 in
theorem kX11_init_173 {l : Launch} {g : evG} {p : Program} {e : Env} {s : State} {m : MethodId} {args : Array Value} {below : List Frame} {meth : Method} {c : Code} {A : Nat → Prop} {h0 : Nat} {zm : Nat → Nat} {om : Gp} (C : ctx g p s m args meth c RX11 cX11_init 2 none A) (hz0 : zm 0 = h0) {rec173 : Gp → Int32 → Option (Gp)} (hr173 : ∀ (Tm : Gp) (x1 : Int32) (H : Heap) (locs : List Loc) (ls : Array Slot), rec173 Tm x1 = some (om) → wl g A s.heap (gcM g zm Tm) H locs → lv_has ls 2 [(0, .ref (zm 0)), (1, .int x1)] → W p l e { frames := 1, cells := 18, slots := 6100, locals := 21 } s m args below meth c H locs 18 6100 (MQ below (Qn g A (fun u : Nat → Nat => u 0 = h0) (fun u : Nat → Nat => gcM g u om)) args s 18 6100 A) (F0 m 173 ls [])) {Tm : Gp} {x1 : Int32} {H : Heap} {locs : List Loc} {ls : Array Slot} (hf : fX11_init_173 rec173 Tm x1 = some (om)) (hw : wl g A s.heap (gcM g zm Tm) H locs) (hl : lv_has ls 2 [(0, .ref (zm 0)), (1, .int x1)]) : W p l e { frames := 1, cells := 18, slots := 6100, locals := 21 } s m args below meth c H locs 18 6100 (MQ below (Qn g A (fun u : Nat → Nat => u 0 = h0) (fun u : Nat → Nat => gcM g u om)) args s 18 6100 A) (F0 m 173 ls []) := by
  obtain ⟨hx, hb, hml, hown, hts, -⟩ := id C
  unfold fX11_init_173 at hf
  refine lv_iload_n hx hb dX11_init_173 rfl (lv_at hl 1 rfl) ?_
  refine lv_bipush (v := (96 : Int32)) hx hb dX11_init_174 rfl ?_
  refine lv_icmp_ge (tgt := 192) hx hb dX11_init_176 (by decide) (fun hc4 => ?_) (fun hc4 => ?_)
  · have hf := it_p hf hc4
    refine lv_aload_n hx hb dX11_init_192 rfl (lv_at hl 0 rfl) ?_
    obtain ⟨Tm_1, hc2, hf⟩ := bd1_e hf
    refine r_callVvF C hw (c_X11_begin (zm := zm) hc2) md_X11_begin [0, 1, 2, 3, 4, 5, 6, 7, 8, 9, 10, 11, 12, 13, 14, 15, 16, 17, 18] rfl rfl rfl rfl q4_169 0 rfl cf_X11.1 ⟨Nat.le_of_ble_eq_true rfl, Nat.le_of_ble_eq_true rfl⟩ ⟨Nat.le_of_ble_eq_true rfl, Nat.le_of_ble_eq_true rfl⟩ hl.1 rfl rfl (Nat.le_of_ble_eq_true rfl) dX11_init_193 (fun H locs hw => ?_)
    obtain rfl := so1 hf
    exact r_cret C zm hw hz0 dX11_init_196
  · have hf := it_n hf hc4
    refine lv_aload_n hx hb dX11_init_179 rfl (lv_at hl 0 rfl) ?_
    refine r_get C hw 0 rfl cf_X11 10 (by decide) q4_183 (v := .ref (zm 7)) rfl dX11_init_180 ?_
    refine lv_iload_n hx hb dX11_init_183 rfl (lv_at hl 1 rfl) ?_
    refine lv_iconst (v := (5 : Int32)) hx hb dX11_init_184 rfl ?_
    obtain ⟨hi3, hf⟩ := it_g hf
    refine r_iast C hw 7 (f := (Tm 7)) rfl hi3 (ws' := (gcM g zm (u2 Tm 7 x1.toNatClampNeg (5 : Int32)))) gcM_a7 dX11_init_185 (fun H locs hw => ?_)
    refine lv_iinc (v := (x1 + (1 : Int32))) (lv' := [(1, .int (x1 + (1 : Int32))), (0, .ref (zm 0))]) hx hb dX11_init_186 hl (k := 1) rfl rfl (by decide) rfl (fun ls hl => ?_)
    refine lv_goto (tgt := 173) hx hb dX11_init_189 (by decide) ?_
    exact hr173 _ _ _ _ _ hf hw (lv_sub hl [1, 0] rfl)
set_option maxRecDepth 100000 in
set_option maxHeartbeats 4000000 in
theorem klX11_init_173 {l : Launch} {g : evG} {p : Program} {e : Env} {s : State} {m : MethodId} {args : Array Value} {below : List Frame} {meth : Method} {c : Code} {A : Nat → Prop} {h0 : Nat} {zm : Nat → Nat} {om : Gp} (C : ctx g p s m args meth c RX11 cX11_init 2 none A) (hz0 : zm 0 = h0) : ∀ (n : Nat) (Tm : Gp) (x1 : Int32) (H : Heap) (locs : List Loc) (ls : Array Slot), lX11_init_173 n Tm x1 = some (om) → wl g A s.heap (gcM g zm Tm) H locs → lv_has ls 2 [(0, .ref (zm 0)), (1, .int x1)] → W p l e { frames := 1, cells := 18, slots := 6100, locals := 21 } s m args below meth c H locs 18 6100 (MQ below (Qn g A (fun u : Nat → Nat => u 0 = h0) (fun u : Nat → Nat => gcM g u om)) args s 18 6100 A) (F0 m 173 ls []) := by
  intro n
  induction n with
  | zero => intro _ _ _ _ _ hf; exact no_f hf
  | succ n ih => intro _ _ _ _ _ hf hw hl; exact kX11_init_173 (zm := zm) (om := om) C hz0 (rec173 := lX11_init_173 n) ih hf hw hl
set_option maxRecDepth 100000 in
set_option maxHeartbeats 4000000 in
theorem c_X11_init {l : Launch} {g : evG} {h0 : Nat} {om : Gp} (hf : fX11_init = some om) : CN l g yX11_init (Cond.code yX11_init cX11_init 2 none) 1 18 6100 21 [.ref h0] ([(h0, .inr (11, [.null, .null, .null, .int 0, .null, .int 0, .int 0, .int 0, .null, .null, .null, .int 0, .int 0, .int 0, .int 0, .int 0, .int 0, .int 0, .null, .null, .null, .int 0, .null, .null, .null, .null, .null, .null, .null, .int 0, .null]))] : va_W) (fun u : Nat → Nat => u 0 = h0) (fun u : Nat → Nat => gcM g u om) := by
  refine ct_n rfl rfl (Nat.le_of_ble_eq_true rfl) ?_
  intro p e s m args below meth c A ls C hin hw hl
  have C : ctx g p s m args meth c RX11 cX11_init 2 none A := C
  have hl : lv_has ls 2 [(0, .ref h0)] := hl
  obtain ⟨hx, hb, hml, hown, hts, -⟩ := id C
  unfold fX11_init at hf
  refine lv_aload_n hx hb dX11_init_0 rfl (lv_at hl 0 rfl) ?_
  refine r_objInit C hl.1 q4_168 q1_26 q1_27 dX11_init_1 (Nat.le_of_ble_eq_true rfl) (Nat.le_of_ble_eq_true rfl) ?_
  refine lv_aload_n hx hb dX11_init_4 rfl (lv_at hl 0 rfl) ?_
  refine lv_sipush (v := (261 : Int32)) hx hb dX11_init_5 rfl ?_
  refine r_newI C hw (N := 261) q1_83 (by decide) rfl (by decide) (Nat.le_of_ble_eq_true rfl) (Nat.le_of_ble_eq_true rfl) dX11_init_8 (fun q1 H hw => ?_)
  have hw : wl g A s.heap ([(h0, .inr (11, [.null, .null, .null, .int 0, .null, .int 0, .int 0, .int 0, .null, .null, .null, .int 0, .int 0, .int 0, .int 0, .int 0, .int 0, .int 0, .null, .null, .null, .int 0, .null, .null, .null, .null, .null, .null, .null, .int 0, .null])), (q1, .inl (gI g, 261, .inl (fun _ => 0)))] : va_W) H _ := hw
  refine r_putR C hw 0 rfl cf_X11 0 (by decide) q4_173 rfl hin rfl rfl rfl (Nat.le_of_ble_eq_true rfl) (ws' := ([(h0, .inr (11, [.ref q1, .null, .null, .int 0, .null, .int 0, .int 0, .int 0, .null, .null, .null, .int 0, .int 0, .int 0, .int 0, .int 0, .int 0, .int 0, .null, .null, .null, .int 0, .null, .null, .null, .null, .null, .null, .null, .int 0, .null])), (q1, .inl (gI g, 261, .inl (fun _ => 0)))] : va_W)) rfl dX11_init_10 (fun H locs hw => ?_)
  refine lv_aload_n hx hb dX11_init_13 rfl (lv_at hl 0 rfl) ?_
  refine lv_iconst (v := (2 : Int32)) hx hb dX11_init_14 rfl ?_
  refine r_newZ C hw (N := 2) q1_196 (by decide) rfl (by decide) (Nat.le_of_ble_eq_true rfl) (Nat.le_of_ble_eq_true rfl) dX11_init_15 (fun q2 H hw => ?_)
  have hw : wl g A s.heap ([(h0, .inr (11, [.ref q1, .null, .null, .int 0, .null, .int 0, .int 0, .int 0, .null, .null, .null, .int 0, .int 0, .int 0, .int 0, .int 0, .int 0, .int 0, .null, .null, .null, .int 0, .null, .null, .null, .null, .null, .null, .null, .int 0, .null])), (q1, .inl (gI g, 261, .inl (fun _ => 0))), (q2, .inl (gZ g, 2, .inl (fun _ => 0)))] : va_W) H _ := hw
  refine r_putR C hw 0 rfl cf_X11 1 (by decide) q4_174 rfl hin rfl rfl rfl (Nat.le_of_ble_eq_true rfl) (ws' := ([(h0, .inr (11, [.ref q1, .ref q2, .null, .int 0, .null, .int 0, .int 0, .int 0, .null, .null, .null, .int 0, .int 0, .int 0, .int 0, .int 0, .int 0, .int 0, .null, .null, .null, .int 0, .null, .null, .null, .null, .null, .null, .null, .int 0, .null])), (q1, .inl (gI g, 261, .inl (fun _ => 0))), (q2, .inl (gZ g, 2, .inl (fun _ => 0)))] : va_W)) rfl dX11_init_17 (fun H locs hw => ?_)
  refine lv_aload_n hx hb dX11_init_20 rfl (lv_at hl 0 rfl) ?_
  refine lv_sipush (v := (200 : Int32)) hx hb dX11_init_21 rfl ?_
  refine r_newI C hw (N := 200) q1_83 (by decide) rfl (by decide) (Nat.le_of_ble_eq_true rfl) (Nat.le_of_ble_eq_true rfl) dX11_init_24 (fun q3 H hw => ?_)
  have hw : wl g A s.heap ([(h0, .inr (11, [.ref q1, .ref q2, .null, .int 0, .null, .int 0, .int 0, .int 0, .null, .null, .null, .int 0, .int 0, .int 0, .int 0, .int 0, .int 0, .int 0, .null, .null, .null, .int 0, .null, .null, .null, .null, .null, .null, .null, .int 0, .null])), (q1, .inl (gI g, 261, .inl (fun _ => 0))), (q2, .inl (gZ g, 2, .inl (fun _ => 0))), (q3, .inl (gI g, 200, .inl (fun _ => 0)))] : va_W) H _ := hw
  refine r_putR C hw 0 rfl cf_X11 2 (by decide) q4_175 rfl hin rfl rfl rfl (Nat.le_of_ble_eq_true rfl) (ws' := ([(h0, .inr (11, [.ref q1, .ref q2, .ref q3, .int 0, .null, .int 0, .int 0, .int 0, .null, .null, .null, .int 0, .int 0, .int 0, .int 0, .int 0, .int 0, .int 0, .null, .null, .null, .int 0, .null, .null, .null, .null, .null, .null, .null, .int 0, .null])), (q1, .inl (gI g, 261, .inl (fun _ => 0))), (q2, .inl (gZ g, 2, .inl (fun _ => 0))), (q3, .inl (gI g, 200, .inl (fun _ => 0)))] : va_W)) rfl dX11_init_26 (fun H locs hw => ?_)
  refine lv_aload_n hx hb dX11_init_29 rfl (lv_at hl 0 rfl) ?_
  refine lv_bipush (v := (60 : Int32)) hx hb dX11_init_30 rfl ?_
  refine r_newI C hw (N := 60) q1_83 (by decide) rfl (by decide) (Nat.le_of_ble_eq_true rfl) (Nat.le_of_ble_eq_true rfl) dX11_init_32 (fun q4 H hw => ?_)
  have hw : wl g A s.heap ([(h0, .inr (11, [.ref q1, .ref q2, .ref q3, .int 0, .null, .int 0, .int 0, .int 0, .null, .null, .null, .int 0, .int 0, .int 0, .int 0, .int 0, .int 0, .int 0, .null, .null, .null, .int 0, .null, .null, .null, .null, .null, .null, .null, .int 0, .null])), (q1, .inl (gI g, 261, .inl (fun _ => 0))), (q2, .inl (gZ g, 2, .inl (fun _ => 0))), (q3, .inl (gI g, 200, .inl (fun _ => 0))), (q4, .inl (gI g, 60, .inl (fun _ => 0)))] : va_W) H _ := hw
  refine r_putR C hw 0 rfl cf_X11 4 (by decide) q4_177 rfl hin rfl rfl rfl (Nat.le_of_ble_eq_true rfl) (ws' := ([(h0, .inr (11, [.ref q1, .ref q2, .ref q3, .int 0, .ref q4, .int 0, .int 0, .int 0, .null, .null, .null, .int 0, .int 0, .int 0, .int 0, .int 0, .int 0, .int 0, .null, .null, .null, .int 0, .null, .null, .null, .null, .null, .null, .null, .int 0, .null])), (q1, .inl (gI g, 261, .inl (fun _ => 0))), (q2, .inl (gZ g, 2, .inl (fun _ => 0))), (q3, .inl (gI g, 200, .inl (fun _ => 0))), (q4, .inl (gI g, 60, .inl (fun _ => 0)))] : va_W)) rfl dX11_init_34 (fun H locs hw => ?_)
  refine lv_aload_n hx hb dX11_init_37 rfl (lv_at hl 0 rfl) ?_
  refine lv_iconst (v := (2 : Int32)) hx hb dX11_init_38 rfl ?_
  refine r_puti C hw 0 rfl cf_X11 6 (by decide) q4_179 rfl rfl (Nat.le_of_ble_eq_true rfl) (ws' := ([(h0, .inr (11, [.ref q1, .ref q2, .ref q3, .int 0, .ref q4, .int 0, .int (2 : Int32), .int 0, .null, .null, .null, .int 0, .int 0, .int 0, .int 0, .int 0, .int 0, .int 0, .null, .null, .null, .int 0, .null, .null, .null, .null, .null, .null, .null, .int 0, .null])), (q1, .inl (gI g, 261, .inl (fun _ => 0))), (q2, .inl (gZ g, 2, .inl (fun _ => 0))), (q3, .inl (gI g, 200, .inl (fun _ => 0))), (q4, .inl (gI g, 60, .inl (fun _ => 0)))] : va_W)) rfl dX11_init_39 (fun H locs hw => ?_)
  refine lv_aload_n hx hb dX11_init_42 rfl (lv_at hl 0 rfl) ?_
  refine lv_iconst (v := (2 : Int32)) hx hb dX11_init_43 rfl ?_
  refine r_puti C hw 0 rfl cf_X11 7 (by decide) q4_180 rfl rfl (Nat.le_of_ble_eq_true rfl) (ws' := ([(h0, .inr (11, [.ref q1, .ref q2, .ref q3, .int 0, .ref q4, .int 0, .int (2 : Int32), .int (2 : Int32), .null, .null, .null, .int 0, .int 0, .int 0, .int 0, .int 0, .int 0, .int 0, .null, .null, .null, .int 0, .null, .null, .null, .null, .null, .null, .null, .int 0, .null])), (q1, .inl (gI g, 261, .inl (fun _ => 0))), (q2, .inl (gZ g, 2, .inl (fun _ => 0))), (q3, .inl (gI g, 200, .inl (fun _ => 0))), (q4, .inl (gI g, 60, .inl (fun _ => 0)))] : va_W)) rfl dX11_init_44 (fun H locs hw => ?_)
  refine lv_aload_n hx hb dX11_init_47 rfl (lv_at hl 0 rfl) ?_
  refine lv_bipush (v := (24 : Int32)) hx hb dX11_init_48 rfl ?_
  refine r_newI C hw (N := 24) q1_83 (by decide) rfl (by decide) (Nat.le_of_ble_eq_true rfl) (Nat.le_of_ble_eq_true rfl) dX11_init_50 (fun q5 H hw => ?_)
  have hw : wl g A s.heap ([(h0, .inr (11, [.ref q1, .ref q2, .ref q3, .int 0, .ref q4, .int 0, .int (2 : Int32), .int (2 : Int32), .null, .null, .null, .int 0, .int 0, .int 0, .int 0, .int 0, .int 0, .int 0, .null, .null, .null, .int 0, .null, .null, .null, .null, .null, .null, .null, .int 0, .null])), (q1, .inl (gI g, 261, .inl (fun _ => 0))), (q2, .inl (gZ g, 2, .inl (fun _ => 0))), (q3, .inl (gI g, 200, .inl (fun _ => 0))), (q4, .inl (gI g, 60, .inl (fun _ => 0))), (q5, .inl (gI g, 24, .inl (fun _ => 0)))] : va_W) H _ := hw
  refine r_putR C hw 0 rfl cf_X11 8 (by decide) q4_181 rfl hin rfl rfl rfl (Nat.le_of_ble_eq_true rfl) (ws' := ([(h0, .inr (11, [.ref q1, .ref q2, .ref q3, .int 0, .ref q4, .int 0, .int (2 : Int32), .int (2 : Int32), .ref q5, .null, .null, .int 0, .int 0, .int 0, .int 0, .int 0, .int 0, .int 0, .null, .null, .null, .int 0, .null, .null, .null, .null, .null, .null, .null, .int 0, .null])), (q1, .inl (gI g, 261, .inl (fun _ => 0))), (q2, .inl (gZ g, 2, .inl (fun _ => 0))), (q3, .inl (gI g, 200, .inl (fun _ => 0))), (q4, .inl (gI g, 60, .inl (fun _ => 0))), (q5, .inl (gI g, 24, .inl (fun _ => 0)))] : va_W)) rfl dX11_init_52 (fun H locs hw => ?_)
  refine lv_aload_n hx hb dX11_init_55 rfl (lv_at hl 0 rfl) ?_
  refine lv_bipush (v := (6 : Int32)) hx hb dX11_init_56 rfl ?_
  refine r_newI C hw (N := 6) q1_83 (by decide) rfl (by decide) (Nat.le_of_ble_eq_true rfl) (Nat.le_of_ble_eq_true rfl) dX11_init_58 (fun q6 H hw => ?_)
  have hw : wl g A s.heap ([(h0, .inr (11, [.ref q1, .ref q2, .ref q3, .int 0, .ref q4, .int 0, .int (2 : Int32), .int (2 : Int32), .ref q5, .null, .null, .int 0, .int 0, .int 0, .int 0, .int 0, .int 0, .int 0, .null, .null, .null, .int 0, .null, .null, .null, .null, .null, .null, .null, .int 0, .null])), (q1, .inl (gI g, 261, .inl (fun _ => 0))), (q2, .inl (gZ g, 2, .inl (fun _ => 0))), (q3, .inl (gI g, 200, .inl (fun _ => 0))), (q4, .inl (gI g, 60, .inl (fun _ => 0))), (q5, .inl (gI g, 24, .inl (fun _ => 0))), (q6, .inl (gI g, 6, .inl (fun _ => 0)))] : va_W) H _ := hw
  refine r_putR C hw 0 rfl cf_X11 9 (by decide) q4_182 rfl hin rfl rfl rfl (Nat.le_of_ble_eq_true rfl) (ws' := ([(h0, .inr (11, [.ref q1, .ref q2, .ref q3, .int 0, .ref q4, .int 0, .int (2 : Int32), .int (2 : Int32), .ref q5, .ref q6, .null, .int 0, .int 0, .int 0, .int 0, .int 0, .int 0, .int 0, .null, .null, .null, .int 0, .null, .null, .null, .null, .null, .null, .null, .int 0, .null])), (q1, .inl (gI g, 261, .inl (fun _ => 0))), (q2, .inl (gZ g, 2, .inl (fun _ => 0))), (q3, .inl (gI g, 200, .inl (fun _ => 0))), (q4, .inl (gI g, 60, .inl (fun _ => 0))), (q5, .inl (gI g, 24, .inl (fun _ => 0))), (q6, .inl (gI g, 6, .inl (fun _ => 0)))] : va_W)) rfl dX11_init_60 (fun H locs hw => ?_)
  refine lv_aload_n hx hb dX11_init_63 rfl (lv_at hl 0 rfl) ?_
  refine lv_bipush (v := (96 : Int32)) hx hb dX11_init_64 rfl ?_
  refine r_newI C hw (N := 96) q1_83 (by decide) rfl (by decide) (Nat.le_of_ble_eq_true rfl) (Nat.le_of_ble_eq_true rfl) dX11_init_66 (fun q7 H hw => ?_)
  have hw : wl g A s.heap ([(h0, .inr (11, [.ref q1, .ref q2, .ref q3, .int 0, .ref q4, .int 0, .int (2 : Int32), .int (2 : Int32), .ref q5, .ref q6, .null, .int 0, .int 0, .int 0, .int 0, .int 0, .int 0, .int 0, .null, .null, .null, .int 0, .null, .null, .null, .null, .null, .null, .null, .int 0, .null])), (q1, .inl (gI g, 261, .inl (fun _ => 0))), (q2, .inl (gZ g, 2, .inl (fun _ => 0))), (q3, .inl (gI g, 200, .inl (fun _ => 0))), (q4, .inl (gI g, 60, .inl (fun _ => 0))), (q5, .inl (gI g, 24, .inl (fun _ => 0))), (q6, .inl (gI g, 6, .inl (fun _ => 0))), (q7, .inl (gI g, 96, .inl (fun _ => 0)))] : va_W) H _ := hw
  refine r_putR C hw 0 rfl cf_X11 10 (by decide) q4_183 rfl hin rfl rfl rfl (Nat.le_of_ble_eq_true rfl) (ws' := ([(h0, .inr (11, [.ref q1, .ref q2, .ref q3, .int 0, .ref q4, .int 0, .int (2 : Int32), .int (2 : Int32), .ref q5, .ref q6, .ref q7, .int 0, .int 0, .int 0, .int 0, .int 0, .int 0, .int 0, .null, .null, .null, .int 0, .null, .null, .null, .null, .null, .null, .null, .int 0, .null])), (q1, .inl (gI g, 261, .inl (fun _ => 0))), (q2, .inl (gZ g, 2, .inl (fun _ => 0))), (q3, .inl (gI g, 200, .inl (fun _ => 0))), (q4, .inl (gI g, 60, .inl (fun _ => 0))), (q5, .inl (gI g, 24, .inl (fun _ => 0))), (q6, .inl (gI g, 6, .inl (fun _ => 0))), (q7, .inl (gI g, 96, .inl (fun _ => 0)))] : va_W)) rfl dX11_init_68 (fun H locs hw => ?_)
  refine lv_aload_n hx hb dX11_init_71 rfl (lv_at hl 0 rfl) ?_
  refine lv_iconst (v := (1 : Int32)) hx hb dX11_init_72 rfl ?_
  refine r_puti C hw 0 rfl cf_X11 12 (by decide) q4_185 rfl rfl (Nat.le_of_ble_eq_true rfl) (ws' := ([(h0, .inr (11, [.ref q1, .ref q2, .ref q3, .int 0, .ref q4, .int 0, .int (2 : Int32), .int (2 : Int32), .ref q5, .ref q6, .ref q7, .int 0, .int (1 : Int32), .int 0, .int 0, .int 0, .int 0, .int 0, .null, .null, .null, .int 0, .null, .null, .null, .null, .null, .null, .null, .int 0, .null])), (q1, .inl (gI g, 261, .inl (fun _ => 0))), (q2, .inl (gZ g, 2, .inl (fun _ => 0))), (q3, .inl (gI g, 200, .inl (fun _ => 0))), (q4, .inl (gI g, 60, .inl (fun _ => 0))), (q5, .inl (gI g, 24, .inl (fun _ => 0))), (q6, .inl (gI g, 6, .inl (fun _ => 0))), (q7, .inl (gI g, 96, .inl (fun _ => 0)))] : va_W)) rfl dX11_init_73 (fun H locs hw => ?_)
  refine lv_aload_n hx hb dX11_init_76 rfl (lv_at hl 0 rfl) ?_
  refine lv_bipush (v := (12 : Int32)) hx hb dX11_init_77 rfl ?_
  refine r_newZ C hw (N := 12) q1_196 (by decide) rfl (by decide) (Nat.le_of_ble_eq_true rfl) (Nat.le_of_ble_eq_true rfl) dX11_init_79 (fun q8 H hw => ?_)
  have hw : wl g A s.heap ([(h0, .inr (11, [.ref q1, .ref q2, .ref q3, .int 0, .ref q4, .int 0, .int (2 : Int32), .int (2 : Int32), .ref q5, .ref q6, .ref q7, .int 0, .int (1 : Int32), .int 0, .int 0, .int 0, .int 0, .int 0, .null, .null, .null, .int 0, .null, .null, .null, .null, .null, .null, .null, .int 0, .null])), (q1, .inl (gI g, 261, .inl (fun _ => 0))), (q2, .inl (gZ g, 2, .inl (fun _ => 0))), (q3, .inl (gI g, 200, .inl (fun _ => 0))), (q4, .inl (gI g, 60, .inl (fun _ => 0))), (q5, .inl (gI g, 24, .inl (fun _ => 0))), (q6, .inl (gI g, 6, .inl (fun _ => 0))), (q7, .inl (gI g, 96, .inl (fun _ => 0))), (q8, .inl (gZ g, 12, .inl (fun _ => 0)))] : va_W) H _ := hw
  refine r_putR C hw 0 rfl cf_X11 18 (by decide) q4_191 rfl hin rfl rfl rfl (Nat.le_of_ble_eq_true rfl) (ws' := ([(h0, .inr (11, [.ref q1, .ref q2, .ref q3, .int 0, .ref q4, .int 0, .int (2 : Int32), .int (2 : Int32), .ref q5, .ref q6, .ref q7, .int 0, .int (1 : Int32), .int 0, .int 0, .int 0, .int 0, .int 0, .ref q8, .null, .null, .int 0, .null, .null, .null, .null, .null, .null, .null, .int 0, .null])), (q1, .inl (gI g, 261, .inl (fun _ => 0))), (q2, .inl (gZ g, 2, .inl (fun _ => 0))), (q3, .inl (gI g, 200, .inl (fun _ => 0))), (q4, .inl (gI g, 60, .inl (fun _ => 0))), (q5, .inl (gI g, 24, .inl (fun _ => 0))), (q6, .inl (gI g, 6, .inl (fun _ => 0))), (q7, .inl (gI g, 96, .inl (fun _ => 0))), (q8, .inl (gZ g, 12, .inl (fun _ => 0)))] : va_W)) rfl dX11_init_81 (fun H locs hw => ?_)
  refine lv_aload_n hx hb dX11_init_84 rfl (lv_at hl 0 rfl) ?_
  refine lv_sipush (v := (5025 : Int32)) hx hb dX11_init_85 rfl ?_
  refine r_newI C hw (N := 5025) q1_83 (by decide) rfl (by decide) (Nat.le_of_ble_eq_true rfl) (Nat.le_of_ble_eq_true rfl) dX11_init_88 (fun q9 H hw => ?_)
  have hw : wl g A s.heap ([(h0, .inr (11, [.ref q1, .ref q2, .ref q3, .int 0, .ref q4, .int 0, .int (2 : Int32), .int (2 : Int32), .ref q5, .ref q6, .ref q7, .int 0, .int (1 : Int32), .int 0, .int 0, .int 0, .int 0, .int 0, .ref q8, .null, .null, .int 0, .null, .null, .null, .null, .null, .null, .null, .int 0, .null])), (q1, .inl (gI g, 261, .inl (fun _ => 0))), (q2, .inl (gZ g, 2, .inl (fun _ => 0))), (q3, .inl (gI g, 200, .inl (fun _ => 0))), (q4, .inl (gI g, 60, .inl (fun _ => 0))), (q5, .inl (gI g, 24, .inl (fun _ => 0))), (q6, .inl (gI g, 6, .inl (fun _ => 0))), (q7, .inl (gI g, 96, .inl (fun _ => 0))), (q8, .inl (gZ g, 12, .inl (fun _ => 0))), (q9, .inl (gI g, 5025, .inl (fun _ => 0)))] : va_W) H _ := hw
  refine r_putR C hw 0 rfl cf_X11 19 (by decide) q4_192 rfl hin rfl rfl rfl (Nat.le_of_ble_eq_true rfl) (ws' := ([(h0, .inr (11, [.ref q1, .ref q2, .ref q3, .int 0, .ref q4, .int 0, .int (2 : Int32), .int (2 : Int32), .ref q5, .ref q6, .ref q7, .int 0, .int (1 : Int32), .int 0, .int 0, .int 0, .int 0, .int 0, .ref q8, .ref q9, .null, .int 0, .null, .null, .null, .null, .null, .null, .null, .int 0, .null])), (q1, .inl (gI g, 261, .inl (fun _ => 0))), (q2, .inl (gZ g, 2, .inl (fun _ => 0))), (q3, .inl (gI g, 200, .inl (fun _ => 0))), (q4, .inl (gI g, 60, .inl (fun _ => 0))), (q5, .inl (gI g, 24, .inl (fun _ => 0))), (q6, .inl (gI g, 6, .inl (fun _ => 0))), (q7, .inl (gI g, 96, .inl (fun _ => 0))), (q8, .inl (gZ g, 12, .inl (fun _ => 0))), (q9, .inl (gI g, 5025, .inl (fun _ => 0)))] : va_W)) rfl dX11_init_90 (fun H locs hw => ?_)
  refine lv_aload_n hx hb dX11_init_93 rfl (lv_at hl 0 rfl) ?_
  refine lv_bipush (v := (48 : Int32)) hx hb dX11_init_94 rfl ?_
  refine r_newI C hw (N := 48) q1_83 (by decide) rfl (by decide) (Nat.le_of_ble_eq_true rfl) (Nat.le_of_ble_eq_true rfl) dX11_init_96 (fun q10 H hw => ?_)
  have hw : wl g A s.heap ([(h0, .inr (11, [.ref q1, .ref q2, .ref q3, .int 0, .ref q4, .int 0, .int (2 : Int32), .int (2 : Int32), .ref q5, .ref q6, .ref q7, .int 0, .int (1 : Int32), .int 0, .int 0, .int 0, .int 0, .int 0, .ref q8, .ref q9, .null, .int 0, .null, .null, .null, .null, .null, .null, .null, .int 0, .null])), (q1, .inl (gI g, 261, .inl (fun _ => 0))), (q2, .inl (gZ g, 2, .inl (fun _ => 0))), (q3, .inl (gI g, 200, .inl (fun _ => 0))), (q4, .inl (gI g, 60, .inl (fun _ => 0))), (q5, .inl (gI g, 24, .inl (fun _ => 0))), (q6, .inl (gI g, 6, .inl (fun _ => 0))), (q7, .inl (gI g, 96, .inl (fun _ => 0))), (q8, .inl (gZ g, 12, .inl (fun _ => 0))), (q9, .inl (gI g, 5025, .inl (fun _ => 0))), (q10, .inl (gI g, 48, .inl (fun _ => 0)))] : va_W) H _ := hw
  refine r_putR C hw 0 rfl cf_X11 20 (by decide) q4_193 rfl hin rfl rfl rfl (Nat.le_of_ble_eq_true rfl) (ws' := ([(h0, .inr (11, [.ref q1, .ref q2, .ref q3, .int 0, .ref q4, .int 0, .int (2 : Int32), .int (2 : Int32), .ref q5, .ref q6, .ref q7, .int 0, .int (1 : Int32), .int 0, .int 0, .int 0, .int 0, .int 0, .ref q8, .ref q9, .ref q10, .int 0, .null, .null, .null, .null, .null, .null, .null, .int 0, .null])), (q1, .inl (gI g, 261, .inl (fun _ => 0))), (q2, .inl (gZ g, 2, .inl (fun _ => 0))), (q3, .inl (gI g, 200, .inl (fun _ => 0))), (q4, .inl (gI g, 60, .inl (fun _ => 0))), (q5, .inl (gI g, 24, .inl (fun _ => 0))), (q6, .inl (gI g, 6, .inl (fun _ => 0))), (q7, .inl (gI g, 96, .inl (fun _ => 0))), (q8, .inl (gZ g, 12, .inl (fun _ => 0))), (q9, .inl (gI g, 5025, .inl (fun _ => 0))), (q10, .inl (gI g, 48, .inl (fun _ => 0)))] : va_W)) rfl dX11_init_98 (fun H locs hw => ?_)
  refine lv_aload_n hx hb dX11_init_101 rfl (lv_at hl 0 rfl) ?_
  refine lv_iconst (v := (4 : Int32)) hx hb dX11_init_102 rfl ?_
  refine r_newI C hw (N := 4) q1_83 (by decide) rfl (by decide) (Nat.le_of_ble_eq_true rfl) (Nat.le_of_ble_eq_true rfl) dX11_init_103 (fun q11 H hw => ?_)
  have hw : wl g A s.heap ([(h0, .inr (11, [.ref q1, .ref q2, .ref q3, .int 0, .ref q4, .int 0, .int (2 : Int32), .int (2 : Int32), .ref q5, .ref q6, .ref q7, .int 0, .int (1 : Int32), .int 0, .int 0, .int 0, .int 0, .int 0, .ref q8, .ref q9, .ref q10, .int 0, .null, .null, .null, .null, .null, .null, .null, .int 0, .null])), (q1, .inl (gI g, 261, .inl (fun _ => 0))), (q2, .inl (gZ g, 2, .inl (fun _ => 0))), (q3, .inl (gI g, 200, .inl (fun _ => 0))), (q4, .inl (gI g, 60, .inl (fun _ => 0))), (q5, .inl (gI g, 24, .inl (fun _ => 0))), (q6, .inl (gI g, 6, .inl (fun _ => 0))), (q7, .inl (gI g, 96, .inl (fun _ => 0))), (q8, .inl (gZ g, 12, .inl (fun _ => 0))), (q9, .inl (gI g, 5025, .inl (fun _ => 0))), (q10, .inl (gI g, 48, .inl (fun _ => 0))), (q11, .inl (gI g, 4, .inl (fun _ => 0)))] : va_W) H _ := hw
  refine r_putR C hw 0 rfl cf_X11 22 (by decide) q4_195 rfl hin rfl rfl rfl (Nat.le_of_ble_eq_true rfl) (ws' := ([(h0, .inr (11, [.ref q1, .ref q2, .ref q3, .int 0, .ref q4, .int 0, .int (2 : Int32), .int (2 : Int32), .ref q5, .ref q6, .ref q7, .int 0, .int (1 : Int32), .int 0, .int 0, .int 0, .int 0, .int 0, .ref q8, .ref q9, .ref q10, .int 0, .ref q11, .null, .null, .null, .null, .null, .null, .int 0, .null])), (q1, .inl (gI g, 261, .inl (fun _ => 0))), (q2, .inl (gZ g, 2, .inl (fun _ => 0))), (q3, .inl (gI g, 200, .inl (fun _ => 0))), (q4, .inl (gI g, 60, .inl (fun _ => 0))), (q5, .inl (gI g, 24, .inl (fun _ => 0))), (q6, .inl (gI g, 6, .inl (fun _ => 0))), (q7, .inl (gI g, 96, .inl (fun _ => 0))), (q8, .inl (gZ g, 12, .inl (fun _ => 0))), (q9, .inl (gI g, 5025, .inl (fun _ => 0))), (q10, .inl (gI g, 48, .inl (fun _ => 0))), (q11, .inl (gI g, 4, .inl (fun _ => 0)))] : va_W)) rfl dX11_init_105 (fun H locs hw => ?_)
  refine lv_aload_n hx hb dX11_init_108 rfl (lv_at hl 0 rfl) ?_
  refine lv_iconst (v := (4 : Int32)) hx hb dX11_init_109 rfl ?_
  refine r_newI C hw (N := 4) q1_83 (by decide) rfl (by decide) (Nat.le_of_ble_eq_true rfl) (Nat.le_of_ble_eq_true rfl) dX11_init_110 (fun q12 H hw => ?_)
  have hw : wl g A s.heap ([(h0, .inr (11, [.ref q1, .ref q2, .ref q3, .int 0, .ref q4, .int 0, .int (2 : Int32), .int (2 : Int32), .ref q5, .ref q6, .ref q7, .int 0, .int (1 : Int32), .int 0, .int 0, .int 0, .int 0, .int 0, .ref q8, .ref q9, .ref q10, .int 0, .ref q11, .null, .null, .null, .null, .null, .null, .int 0, .null])), (q1, .inl (gI g, 261, .inl (fun _ => 0))), (q2, .inl (gZ g, 2, .inl (fun _ => 0))), (q3, .inl (gI g, 200, .inl (fun _ => 0))), (q4, .inl (gI g, 60, .inl (fun _ => 0))), (q5, .inl (gI g, 24, .inl (fun _ => 0))), (q6, .inl (gI g, 6, .inl (fun _ => 0))), (q7, .inl (gI g, 96, .inl (fun _ => 0))), (q8, .inl (gZ g, 12, .inl (fun _ => 0))), (q9, .inl (gI g, 5025, .inl (fun _ => 0))), (q10, .inl (gI g, 48, .inl (fun _ => 0))), (q11, .inl (gI g, 4, .inl (fun _ => 0))), (q12, .inl (gI g, 4, .inl (fun _ => 0)))] : va_W) H _ := hw
  refine r_putR C hw 0 rfl cf_X11 23 (by decide) q4_196 rfl hin rfl rfl rfl (Nat.le_of_ble_eq_true rfl) (ws' := ([(h0, .inr (11, [.ref q1, .ref q2, .ref q3, .int 0, .ref q4, .int 0, .int (2 : Int32), .int (2 : Int32), .ref q5, .ref q6, .ref q7, .int 0, .int (1 : Int32), .int 0, .int 0, .int 0, .int 0, .int 0, .ref q8, .ref q9, .ref q10, .int 0, .ref q11, .ref q12, .null, .null, .null, .null, .null, .int 0, .null])), (q1, .inl (gI g, 261, .inl (fun _ => 0))), (q2, .inl (gZ g, 2, .inl (fun _ => 0))), (q3, .inl (gI g, 200, .inl (fun _ => 0))), (q4, .inl (gI g, 60, .inl (fun _ => 0))), (q5, .inl (gI g, 24, .inl (fun _ => 0))), (q6, .inl (gI g, 6, .inl (fun _ => 0))), (q7, .inl (gI g, 96, .inl (fun _ => 0))), (q8, .inl (gZ g, 12, .inl (fun _ => 0))), (q9, .inl (gI g, 5025, .inl (fun _ => 0))), (q10, .inl (gI g, 48, .inl (fun _ => 0))), (q11, .inl (gI g, 4, .inl (fun _ => 0))), (q12, .inl (gI g, 4, .inl (fun _ => 0)))] : va_W)) rfl dX11_init_112 (fun H locs hw => ?_)
  refine lv_aload_n hx hb dX11_init_115 rfl (lv_at hl 0 rfl) ?_
  refine lv_bipush (v := (36 : Int32)) hx hb dX11_init_116 rfl ?_
  refine r_newI C hw (N := 36) q1_83 (by decide) rfl (by decide) (Nat.le_of_ble_eq_true rfl) (Nat.le_of_ble_eq_true rfl) dX11_init_118 (fun q13 H hw => ?_)
  have hw : wl g A s.heap ([(h0, .inr (11, [.ref q1, .ref q2, .ref q3, .int 0, .ref q4, .int 0, .int (2 : Int32), .int (2 : Int32), .ref q5, .ref q6, .ref q7, .int 0, .int (1 : Int32), .int 0, .int 0, .int 0, .int 0, .int 0, .ref q8, .ref q9, .ref q10, .int 0, .ref q11, .ref q12, .null, .null, .null, .null, .null, .int 0, .null])), (q1, .inl (gI g, 261, .inl (fun _ => 0))), (q2, .inl (gZ g, 2, .inl (fun _ => 0))), (q3, .inl (gI g, 200, .inl (fun _ => 0))), (q4, .inl (gI g, 60, .inl (fun _ => 0))), (q5, .inl (gI g, 24, .inl (fun _ => 0))), (q6, .inl (gI g, 6, .inl (fun _ => 0))), (q7, .inl (gI g, 96, .inl (fun _ => 0))), (q8, .inl (gZ g, 12, .inl (fun _ => 0))), (q9, .inl (gI g, 5025, .inl (fun _ => 0))), (q10, .inl (gI g, 48, .inl (fun _ => 0))), (q11, .inl (gI g, 4, .inl (fun _ => 0))), (q12, .inl (gI g, 4, .inl (fun _ => 0))), (q13, .inl (gI g, 36, .inl (fun _ => 0)))] : va_W) H _ := hw
  refine r_putR C hw 0 rfl cf_X11 24 (by decide) q4_197 rfl hin rfl rfl rfl (Nat.le_of_ble_eq_true rfl) (ws' := ([(h0, .inr (11, [.ref q1, .ref q2, .ref q3, .int 0, .ref q4, .int 0, .int (2 : Int32), .int (2 : Int32), .ref q5, .ref q6, .ref q7, .int 0, .int (1 : Int32), .int 0, .int 0, .int 0, .int 0, .int 0, .ref q8, .ref q9, .ref q10, .int 0, .ref q11, .ref q12, .ref q13, .null, .null, .null, .null, .int 0, .null])), (q1, .inl (gI g, 261, .inl (fun _ => 0))), (q2, .inl (gZ g, 2, .inl (fun _ => 0))), (q3, .inl (gI g, 200, .inl (fun _ => 0))), (q4, .inl (gI g, 60, .inl (fun _ => 0))), (q5, .inl (gI g, 24, .inl (fun _ => 0))), (q6, .inl (gI g, 6, .inl (fun _ => 0))), (q7, .inl (gI g, 96, .inl (fun _ => 0))), (q8, .inl (gZ g, 12, .inl (fun _ => 0))), (q9, .inl (gI g, 5025, .inl (fun _ => 0))), (q10, .inl (gI g, 48, .inl (fun _ => 0))), (q11, .inl (gI g, 4, .inl (fun _ => 0))), (q12, .inl (gI g, 4, .inl (fun _ => 0))), (q13, .inl (gI g, 36, .inl (fun _ => 0)))] : va_W)) rfl dX11_init_120 (fun H locs hw => ?_)
  refine lv_aload_n hx hb dX11_init_123 rfl (lv_at hl 0 rfl) ?_
  refine lv_bipush (v := (64 : Int32)) hx hb dX11_init_124 rfl ?_
  refine r_newI C hw (N := 64) q1_83 (by decide) rfl (by decide) (Nat.le_of_ble_eq_true rfl) (Nat.le_of_ble_eq_true rfl) dX11_init_126 (fun q14 H hw => ?_)
  have hw : wl g A s.heap ([(h0, .inr (11, [.ref q1, .ref q2, .ref q3, .int 0, .ref q4, .int 0, .int (2 : Int32), .int (2 : Int32), .ref q5, .ref q6, .ref q7, .int 0, .int (1 : Int32), .int 0, .int 0, .int 0, .int 0, .int 0, .ref q8, .ref q9, .ref q10, .int 0, .ref q11, .ref q12, .ref q13, .null, .null, .null, .null, .int 0, .null])), (q1, .inl (gI g, 261, .inl (fun _ => 0))), (q2, .inl (gZ g, 2, .inl (fun _ => 0))), (q3, .inl (gI g, 200, .inl (fun _ => 0))), (q4, .inl (gI g, 60, .inl (fun _ => 0))), (q5, .inl (gI g, 24, .inl (fun _ => 0))), (q6, .inl (gI g, 6, .inl (fun _ => 0))), (q7, .inl (gI g, 96, .inl (fun _ => 0))), (q8, .inl (gZ g, 12, .inl (fun _ => 0))), (q9, .inl (gI g, 5025, .inl (fun _ => 0))), (q10, .inl (gI g, 48, .inl (fun _ => 0))), (q11, .inl (gI g, 4, .inl (fun _ => 0))), (q12, .inl (gI g, 4, .inl (fun _ => 0))), (q13, .inl (gI g, 36, .inl (fun _ => 0))), (q14, .inl (gI g, 64, .inl (fun _ => 0)))] : va_W) H _ := hw
  refine r_putR C hw 0 rfl cf_X11 25 (by decide) q4_198 rfl hin rfl rfl rfl (Nat.le_of_ble_eq_true rfl) (ws' := ([(h0, .inr (11, [.ref q1, .ref q2, .ref q3, .int 0, .ref q4, .int 0, .int (2 : Int32), .int (2 : Int32), .ref q5, .ref q6, .ref q7, .int 0, .int (1 : Int32), .int 0, .int 0, .int 0, .int 0, .int 0, .ref q8, .ref q9, .ref q10, .int 0, .ref q11, .ref q12, .ref q13, .ref q14, .null, .null, .null, .int 0, .null])), (q1, .inl (gI g, 261, .inl (fun _ => 0))), (q2, .inl (gZ g, 2, .inl (fun _ => 0))), (q3, .inl (gI g, 200, .inl (fun _ => 0))), (q4, .inl (gI g, 60, .inl (fun _ => 0))), (q5, .inl (gI g, 24, .inl (fun _ => 0))), (q6, .inl (gI g, 6, .inl (fun _ => 0))), (q7, .inl (gI g, 96, .inl (fun _ => 0))), (q8, .inl (gZ g, 12, .inl (fun _ => 0))), (q9, .inl (gI g, 5025, .inl (fun _ => 0))), (q10, .inl (gI g, 48, .inl (fun _ => 0))), (q11, .inl (gI g, 4, .inl (fun _ => 0))), (q12, .inl (gI g, 4, .inl (fun _ => 0))), (q13, .inl (gI g, 36, .inl (fun _ => 0))), (q14, .inl (gI g, 64, .inl (fun _ => 0)))] : va_W)) rfl dX11_init_128 (fun H locs hw => ?_)
  refine lv_aload_n hx hb dX11_init_131 rfl (lv_at hl 0 rfl) ?_
  refine lv_bipush (v := (72 : Int32)) hx hb dX11_init_132 rfl ?_
  refine r_newI C hw (N := 72) q1_83 (by decide) rfl (by decide) (Nat.le_of_ble_eq_true rfl) (Nat.le_of_ble_eq_true rfl) dX11_init_134 (fun q15 H hw => ?_)
  have hw : wl g A s.heap ([(h0, .inr (11, [.ref q1, .ref q2, .ref q3, .int 0, .ref q4, .int 0, .int (2 : Int32), .int (2 : Int32), .ref q5, .ref q6, .ref q7, .int 0, .int (1 : Int32), .int 0, .int 0, .int 0, .int 0, .int 0, .ref q8, .ref q9, .ref q10, .int 0, .ref q11, .ref q12, .ref q13, .ref q14, .null, .null, .null, .int 0, .null])), (q1, .inl (gI g, 261, .inl (fun _ => 0))), (q2, .inl (gZ g, 2, .inl (fun _ => 0))), (q3, .inl (gI g, 200, .inl (fun _ => 0))), (q4, .inl (gI g, 60, .inl (fun _ => 0))), (q5, .inl (gI g, 24, .inl (fun _ => 0))), (q6, .inl (gI g, 6, .inl (fun _ => 0))), (q7, .inl (gI g, 96, .inl (fun _ => 0))), (q8, .inl (gZ g, 12, .inl (fun _ => 0))), (q9, .inl (gI g, 5025, .inl (fun _ => 0))), (q10, .inl (gI g, 48, .inl (fun _ => 0))), (q11, .inl (gI g, 4, .inl (fun _ => 0))), (q12, .inl (gI g, 4, .inl (fun _ => 0))), (q13, .inl (gI g, 36, .inl (fun _ => 0))), (q14, .inl (gI g, 64, .inl (fun _ => 0))), (q15, .inl (gI g, 72, .inl (fun _ => 0)))] : va_W) H _ := hw
  refine r_putR C hw 0 rfl cf_X11 26 (by decide) q4_199 rfl hin rfl rfl rfl (Nat.le_of_ble_eq_true rfl) (ws' := ([(h0, .inr (11, [.ref q1, .ref q2, .ref q3, .int 0, .ref q4, .int 0, .int (2 : Int32), .int (2 : Int32), .ref q5, .ref q6, .ref q7, .int 0, .int (1 : Int32), .int 0, .int 0, .int 0, .int 0, .int 0, .ref q8, .ref q9, .ref q10, .int 0, .ref q11, .ref q12, .ref q13, .ref q14, .ref q15, .null, .null, .int 0, .null])), (q1, .inl (gI g, 261, .inl (fun _ => 0))), (q2, .inl (gZ g, 2, .inl (fun _ => 0))), (q3, .inl (gI g, 200, .inl (fun _ => 0))), (q4, .inl (gI g, 60, .inl (fun _ => 0))), (q5, .inl (gI g, 24, .inl (fun _ => 0))), (q6, .inl (gI g, 6, .inl (fun _ => 0))), (q7, .inl (gI g, 96, .inl (fun _ => 0))), (q8, .inl (gZ g, 12, .inl (fun _ => 0))), (q9, .inl (gI g, 5025, .inl (fun _ => 0))), (q10, .inl (gI g, 48, .inl (fun _ => 0))), (q11, .inl (gI g, 4, .inl (fun _ => 0))), (q12, .inl (gI g, 4, .inl (fun _ => 0))), (q13, .inl (gI g, 36, .inl (fun _ => 0))), (q14, .inl (gI g, 64, .inl (fun _ => 0))), (q15, .inl (gI g, 72, .inl (fun _ => 0)))] : va_W)) rfl dX11_init_136 (fun H locs hw => ?_)
  refine lv_aload_n hx hb dX11_init_139 rfl (lv_at hl 0 rfl) ?_
  refine lv_bipush (v := (64 : Int32)) hx hb dX11_init_140 rfl ?_
  refine r_newI C hw (N := 64) q1_83 (by decide) rfl (by decide) (Nat.le_of_ble_eq_true rfl) (Nat.le_of_ble_eq_true rfl) dX11_init_142 (fun q16 H hw => ?_)
  have hw : wl g A s.heap ([(h0, .inr (11, [.ref q1, .ref q2, .ref q3, .int 0, .ref q4, .int 0, .int (2 : Int32), .int (2 : Int32), .ref q5, .ref q6, .ref q7, .int 0, .int (1 : Int32), .int 0, .int 0, .int 0, .int 0, .int 0, .ref q8, .ref q9, .ref q10, .int 0, .ref q11, .ref q12, .ref q13, .ref q14, .ref q15, .null, .null, .int 0, .null])), (q1, .inl (gI g, 261, .inl (fun _ => 0))), (q2, .inl (gZ g, 2, .inl (fun _ => 0))), (q3, .inl (gI g, 200, .inl (fun _ => 0))), (q4, .inl (gI g, 60, .inl (fun _ => 0))), (q5, .inl (gI g, 24, .inl (fun _ => 0))), (q6, .inl (gI g, 6, .inl (fun _ => 0))), (q7, .inl (gI g, 96, .inl (fun _ => 0))), (q8, .inl (gZ g, 12, .inl (fun _ => 0))), (q9, .inl (gI g, 5025, .inl (fun _ => 0))), (q10, .inl (gI g, 48, .inl (fun _ => 0))), (q11, .inl (gI g, 4, .inl (fun _ => 0))), (q12, .inl (gI g, 4, .inl (fun _ => 0))), (q13, .inl (gI g, 36, .inl (fun _ => 0))), (q14, .inl (gI g, 64, .inl (fun _ => 0))), (q15, .inl (gI g, 72, .inl (fun _ => 0))), (q16, .inl (gI g, 64, .inl (fun _ => 0)))] : va_W) H _ := hw
  refine r_putR C hw 0 rfl cf_X11 27 (by decide) q4_200 rfl hin rfl rfl rfl (Nat.le_of_ble_eq_true rfl) (ws' := ([(h0, .inr (11, [.ref q1, .ref q2, .ref q3, .int 0, .ref q4, .int 0, .int (2 : Int32), .int (2 : Int32), .ref q5, .ref q6, .ref q7, .int 0, .int (1 : Int32), .int 0, .int 0, .int 0, .int 0, .int 0, .ref q8, .ref q9, .ref q10, .int 0, .ref q11, .ref q12, .ref q13, .ref q14, .ref q15, .ref q16, .null, .int 0, .null])), (q1, .inl (gI g, 261, .inl (fun _ => 0))), (q2, .inl (gZ g, 2, .inl (fun _ => 0))), (q3, .inl (gI g, 200, .inl (fun _ => 0))), (q4, .inl (gI g, 60, .inl (fun _ => 0))), (q5, .inl (gI g, 24, .inl (fun _ => 0))), (q6, .inl (gI g, 6, .inl (fun _ => 0))), (q7, .inl (gI g, 96, .inl (fun _ => 0))), (q8, .inl (gZ g, 12, .inl (fun _ => 0))), (q9, .inl (gI g, 5025, .inl (fun _ => 0))), (q10, .inl (gI g, 48, .inl (fun _ => 0))), (q11, .inl (gI g, 4, .inl (fun _ => 0))), (q12, .inl (gI g, 4, .inl (fun _ => 0))), (q13, .inl (gI g, 36, .inl (fun _ => 0))), (q14, .inl (gI g, 64, .inl (fun _ => 0))), (q15, .inl (gI g, 72, .inl (fun _ => 0))), (q16, .inl (gI g, 64, .inl (fun _ => 0)))] : va_W)) rfl dX11_init_144 (fun H locs hw => ?_)
  refine lv_aload_n hx hb dX11_init_147 rfl (lv_at hl 0 rfl) ?_
  refine lv_bipush (v := (40 : Int32)) hx hb dX11_init_148 rfl ?_
  refine r_newI C hw (N := 40) q1_83 (by decide) rfl (by decide) (Nat.le_of_ble_eq_true rfl) (Nat.le_of_ble_eq_true rfl) dX11_init_150 (fun q17 H hw => ?_)
  have hw : wl g A s.heap ([(h0, .inr (11, [.ref q1, .ref q2, .ref q3, .int 0, .ref q4, .int 0, .int (2 : Int32), .int (2 : Int32), .ref q5, .ref q6, .ref q7, .int 0, .int (1 : Int32), .int 0, .int 0, .int 0, .int 0, .int 0, .ref q8, .ref q9, .ref q10, .int 0, .ref q11, .ref q12, .ref q13, .ref q14, .ref q15, .ref q16, .null, .int 0, .null])), (q1, .inl (gI g, 261, .inl (fun _ => 0))), (q2, .inl (gZ g, 2, .inl (fun _ => 0))), (q3, .inl (gI g, 200, .inl (fun _ => 0))), (q4, .inl (gI g, 60, .inl (fun _ => 0))), (q5, .inl (gI g, 24, .inl (fun _ => 0))), (q6, .inl (gI g, 6, .inl (fun _ => 0))), (q7, .inl (gI g, 96, .inl (fun _ => 0))), (q8, .inl (gZ g, 12, .inl (fun _ => 0))), (q9, .inl (gI g, 5025, .inl (fun _ => 0))), (q10, .inl (gI g, 48, .inl (fun _ => 0))), (q11, .inl (gI g, 4, .inl (fun _ => 0))), (q12, .inl (gI g, 4, .inl (fun _ => 0))), (q13, .inl (gI g, 36, .inl (fun _ => 0))), (q14, .inl (gI g, 64, .inl (fun _ => 0))), (q15, .inl (gI g, 72, .inl (fun _ => 0))), (q16, .inl (gI g, 64, .inl (fun _ => 0))), (q17, .inl (gI g, 40, .inl (fun _ => 0)))] : va_W) H _ := hw
  refine r_putR C hw 0 rfl cf_X11 28 (by decide) q4_201 rfl hin rfl rfl rfl (Nat.le_of_ble_eq_true rfl) (ws' := ([(h0, .inr (11, [.ref q1, .ref q2, .ref q3, .int 0, .ref q4, .int 0, .int (2 : Int32), .int (2 : Int32), .ref q5, .ref q6, .ref q7, .int 0, .int (1 : Int32), .int 0, .int 0, .int 0, .int 0, .int 0, .ref q8, .ref q9, .ref q10, .int 0, .ref q11, .ref q12, .ref q13, .ref q14, .ref q15, .ref q16, .ref q17, .int 0, .null])), (q1, .inl (gI g, 261, .inl (fun _ => 0))), (q2, .inl (gZ g, 2, .inl (fun _ => 0))), (q3, .inl (gI g, 200, .inl (fun _ => 0))), (q4, .inl (gI g, 60, .inl (fun _ => 0))), (q5, .inl (gI g, 24, .inl (fun _ => 0))), (q6, .inl (gI g, 6, .inl (fun _ => 0))), (q7, .inl (gI g, 96, .inl (fun _ => 0))), (q8, .inl (gZ g, 12, .inl (fun _ => 0))), (q9, .inl (gI g, 5025, .inl (fun _ => 0))), (q10, .inl (gI g, 48, .inl (fun _ => 0))), (q11, .inl (gI g, 4, .inl (fun _ => 0))), (q12, .inl (gI g, 4, .inl (fun _ => 0))), (q13, .inl (gI g, 36, .inl (fun _ => 0))), (q14, .inl (gI g, 64, .inl (fun _ => 0))), (q15, .inl (gI g, 72, .inl (fun _ => 0))), (q16, .inl (gI g, 64, .inl (fun _ => 0))), (q17, .inl (gI g, 40, .inl (fun _ => 0)))] : va_W)) rfl dX11_init_152 (fun H locs hw => ?_)
  refine lv_aload_n hx hb dX11_init_155 rfl (lv_at hl 0 rfl) ?_
  refine lv_bipush (v := (82 : Int32)) hx hb dX11_init_156 rfl ?_
  refine r_newI C hw (N := 82) q1_83 (by decide) rfl (by decide) (Nat.le_of_ble_eq_true rfl) (Nat.le_of_ble_eq_true rfl) dX11_init_158 (fun q18 H hw => ?_)
  have hw : wl g A s.heap ([(h0, .inr (11, [.ref q1, .ref q2, .ref q3, .int 0, .ref q4, .int 0, .int (2 : Int32), .int (2 : Int32), .ref q5, .ref q6, .ref q7, .int 0, .int (1 : Int32), .int 0, .int 0, .int 0, .int 0, .int 0, .ref q8, .ref q9, .ref q10, .int 0, .ref q11, .ref q12, .ref q13, .ref q14, .ref q15, .ref q16, .ref q17, .int 0, .null])), (q1, .inl (gI g, 261, .inl (fun _ => 0))), (q2, .inl (gZ g, 2, .inl (fun _ => 0))), (q3, .inl (gI g, 200, .inl (fun _ => 0))), (q4, .inl (gI g, 60, .inl (fun _ => 0))), (q5, .inl (gI g, 24, .inl (fun _ => 0))), (q6, .inl (gI g, 6, .inl (fun _ => 0))), (q7, .inl (gI g, 96, .inl (fun _ => 0))), (q8, .inl (gZ g, 12, .inl (fun _ => 0))), (q9, .inl (gI g, 5025, .inl (fun _ => 0))), (q10, .inl (gI g, 48, .inl (fun _ => 0))), (q11, .inl (gI g, 4, .inl (fun _ => 0))), (q12, .inl (gI g, 4, .inl (fun _ => 0))), (q13, .inl (gI g, 36, .inl (fun _ => 0))), (q14, .inl (gI g, 64, .inl (fun _ => 0))), (q15, .inl (gI g, 72, .inl (fun _ => 0))), (q16, .inl (gI g, 64, .inl (fun _ => 0))), (q17, .inl (gI g, 40, .inl (fun _ => 0))), (q18, .inl (gI g, 82, .inl (fun _ => 0)))] : va_W) H _ := hw
  refine r_putR C hw 0 rfl cf_X11 30 (by decide) q4_203 rfl hin rfl rfl rfl (Nat.le_of_ble_eq_true rfl) (ws' := ([(h0, .inr (11, [.ref q1, .ref q2, .ref q3, .int 0, .ref q4, .int 0, .int (2 : Int32), .int (2 : Int32), .ref q5, .ref q6, .ref q7, .int 0, .int (1 : Int32), .int 0, .int 0, .int 0, .int 0, .int 0, .ref q8, .ref q9, .ref q10, .int 0, .ref q11, .ref q12, .ref q13, .ref q14, .ref q15, .ref q16, .ref q17, .int 0, .ref q18])), (q1, .inl (gI g, 261, .inl (fun _ => 0))), (q2, .inl (gZ g, 2, .inl (fun _ => 0))), (q3, .inl (gI g, 200, .inl (fun _ => 0))), (q4, .inl (gI g, 60, .inl (fun _ => 0))), (q5, .inl (gI g, 24, .inl (fun _ => 0))), (q6, .inl (gI g, 6, .inl (fun _ => 0))), (q7, .inl (gI g, 96, .inl (fun _ => 0))), (q8, .inl (gZ g, 12, .inl (fun _ => 0))), (q9, .inl (gI g, 5025, .inl (fun _ => 0))), (q10, .inl (gI g, 48, .inl (fun _ => 0))), (q11, .inl (gI g, 4, .inl (fun _ => 0))), (q12, .inl (gI g, 4, .inl (fun _ => 0))), (q13, .inl (gI g, 36, .inl (fun _ => 0))), (q14, .inl (gI g, 64, .inl (fun _ => 0))), (q15, .inl (gI g, 72, .inl (fun _ => 0))), (q16, .inl (gI g, 64, .inl (fun _ => 0))), (q17, .inl (gI g, 40, .inl (fun _ => 0))), (q18, .inl (gI g, 82, .inl (fun _ => 0)))] : va_W)) rfl dX11_init_160 (fun H locs hw => ?_)
  have hw : wl g A s.heap (gcM g (fun i => ([h0, q1, q2, q3, q4, q5, q6, q7, q8, q9, q10, q11, q12, q13, q14, q15, q16, q17, q18] : List Nat).getD i 0) sX11_init) H _ := hw
  obtain ⟨zq, hzq⟩ : ∃ z : Nat → Nat, z = (fun i => ([h0, q1, q2, q3, q4, q5, q6, q7, q8, q9, q10, q11, q12, q13, q14, q15, q16, q17, q18] : List Nat).getD i 0) := ⟨_, rfl⟩
  have hz0 : zq 0 = h0 := by rw [hzq]; rfl
  rw [← hzq] at hw
  have hl : lv_has ls 2 [(0, .ref (zq 0))] := by rw [hz0]; exact hl
  clear hzq
  refine W.widen (k := 18) (n := 6100) (Nat.le_of_ble_eq_true rfl) (Nat.le_of_ble_eq_true rfl) ?_
  refine lv_aload_n hx hb dX11_init_163 rfl (lv_at hl 0 rfl) ?_
  refine r_get C hw 0 rfl cf_X11 8 (by decide) q4_181 (v := .ref (zq 5)) rfl dX11_init_164 ?_
  refine lv_bipush (v := (20 : Int32)) hx hb dX11_init_167 rfl ?_
  refine lv_iconst (v := (4 : Int32)) hx hb dX11_init_169 rfl ?_
  refine r_iast C hw 5 (f := (sX11_init 5)) rfl (by decide) (ws' := (gcM g zq (u2 sX11_init 5 (20 : Int32).toNatClampNeg (4 : Int32)))) gcM_a5 dX11_init_170 (fun H locs hw => ?_)
  refine lv_iconst (v := (0 : Int32)) hx hb dX11_init_171 rfl ?_
  refine lv_istore_n (lv' := [(1, .int (0 : Int32)), (0, .ref (zq 0))]) hx hb dX11_init_172 rfl hl (by decide) rfl (fun ls hl => ?_)
  exact klX11_init_173 (zm := zq) (om := om) C hz0 fu _ _ _ _ _ hf hw (lv_sub hl [1, 0] rfl)
theorem wl_perm {g : evG} {A : Nat → Prop} {H0 H : Heap} {ws ws1 : va_W} {locs : List Loc} (w : wl g A H0 ws H locs) (is : List Nat) (hn : va_nd is = true) (hs : is.map (fun i => ws[i]?) = ws1.map some) : wl g A H0 ws1 H locs := ⟨wl_P w.1 hs, va_D.sub w.2.1 is hn hs, w.2.2⟩
theorem va_up_01 {a b : Nat} : va_up (va_up (fun _ => none) 0 (some a)) (Int32.toNatClampNeg 1) (some b) = (fun i => if i = 0 then some a else if i = 1 then some b else none) := by
  funext i
  show (if i = 1 then some b else if i = 0 then some a else none) = _
  by_cases h : i = 0
  · subst h; rfl
  · rw [if_neg h, if_neg h]
set_option maxRecDepth 100000 in
set_option maxHeartbeats 4000000 in
theorem c_X1_init {l : Launch} {g : evG} {h0 : Nat} {zx : Nat → Nat} : CN l g yX1_init (Cond.code yX1_init cX1_init 2 none) 2 1 4 33 [.ref h0, .ref (zx 0)] ([(h0, .inr (1, [.null, .int 0, .int 0]))] : va_W) (fun u : (Nat → Nat) × (Nat → Nat) => u.1 0 = h0) (fun u : (Nat → Nat) × (Nat → Nat) => gcL g u.1 u.2 (fun _ _ => 0) ++ (gcK g u.2 zx (fun _ _ => 0))) := by
  refine ct_n rfl rfl (Nat.le_of_ble_eq_true rfl) ?_
  intro p e s m args below meth c A ls C hin hw hl
  have C : ctx g p s m args meth c RX1 cX1_init 2 none A := C
  have hl : lv_has ls 2 [(0, .ref h0), (1, .ref (zx 0))] := hl
  obtain ⟨hx, hb, hml, hown, hts, -⟩ := id C
  refine lv_aload_n hx hb dX1_init_0 rfl (lv_at hl 0 rfl) ?_
  refine r_objInit C hl.1 q1_104 q1_26 q1_27 dX1_init_1 (Nat.le_of_ble_eq_true rfl) (Nat.le_of_ble_eq_true rfl) ?_
  refine lv_aload_n hx hb dX1_init_4 rfl (lv_at hl 0 rfl) ?_
  refine r_newOb C hw cf_X8 (fs := [.null, .int 0, .int 0, .int 0]) q1_105 q1_106 q1_6 (by decide) (Nat.le_of_ble_eq_true rfl) (Nat.le_of_ble_eq_true rfl) dX1_init_5 (fun q1 H hw => ?_)
  refine lv_dup hx hb dX1_init_8 rfl ?_
  refine lv_aload_n hx hb dX1_init_9 rfl (lv_at hl 1 rfl) ?_
  refine r_callC C hw (c_X8_init (h0 := q1) (zx := zx) rfl) md_X8_init rfl q1_107 ⟨Nat.le_of_ble_eq_true rfl, Nat.le_of_ble_eq_true rfl⟩ ⟨Nat.le_of_ble_eq_true rfl, Nat.le_of_ble_eq_true rfl⟩ hl.1 rfl rfl (Nat.le_of_ble_eq_true rfl) dX1_init_10 (fun u1 H locs hu hw9 => ?_)
  have hu : (u1 0) = q1 := hu
  subst hu
  have hw : wl g A s.heap ([(h0, .inr (1, [.null, .int 0, .int 0]))] ++ ((gcK g u1 zx (fun _ _ => 0)))) H locs := hw9
  clear hw9
  refine r_putR C hw 0 rfl cf_X1 0 (by decide) q1_125 rfl hin rfl rfl rfl (Nat.le_of_ble_eq_true rfl) (ws' := ([(h0, .inr (1, [.ref (u1 0), .int 0, .int 0]))] ++ ((gcK g u1 zx (fun _ _ => 0))))) rfl dX1_init_13 (fun H locs hw => ?_)
  have hw : wl g A s.heap ((fun u : (Nat → Nat) × (Nat → Nat) => gcL g u.1 u.2 (fun _ _ => 0) ++ (gcK g u.2 zx (fun _ _ => 0))) ((fun i => ([h0] : List Nat).getD i 0), u1)) H _ := wl_perm hw [0, 1] rfl rfl
  exact r_cret (K := (fun u : (Nat → Nat) × (Nat → Nat) => gcL g u.1 u.2 (fun _ _ => 0) ++ (gcK g u.2 zx (fun _ _ => 0)))) C ((fun i => ([h0] : List Nat).getD i 0), u1) hw rfl dX1_init_16
set_option maxRecDepth 100000 in
set_option maxHeartbeats 4000000 in
theorem c_X10_init {l : Launch} {g : evG} {h0 : Nat} {oT oD : Gp} (hfT : fX9_init = some oT) (hfD : fX0_init = some oD) : CN l g yX10_init (Cond.code yX10_init cX10_init 1 none) 3 48 11184 65 [.ref h0] ([(h0, .inr (10, [.null, .null, .null, .null, .null, .null, .null, .null, .null, .null, .null, .null]))] : va_W) (fun u : Nat → Nat → Nat => u 0 0 = h0) (fun ad : Nat → Nat → Nat => gcE g ad (fun _ _ => 0) ++ (gcP g (ad 9) (ad 1) (fun _ _ => 0) ++ (gcL g (ad 4) (ad 5) (fun _ _ => 0) ++ (gcD g (ad 6) oD ++ (gcK g (ad 5) (ad 3) (fun _ _ => 0) ++ (gcX g (ad 3) (fun _ _ => 0) ++ (gcT g (ad 1) oT ++ (gcT g (ad 2) oT ++ (gcD g (ad 7) oD ++ (gcD g (ad 8) oD ++ (gcN g (ad 10) (fun _ _ => 0) ++ (gcH g (ad 11) (fun _ _ => 0) ++ (gcG g (ad 12) (fun _ _ => 0) ++ (gcR g (ad 13) (fun _ _ => 0))))))))))))))) := by
  refine ct_n rfl rfl (Nat.le_of_ble_eq_true rfl) ?_
  intro p e s m args below meth c A ls C hin hw hl
  have C : ctx g p s m args meth c RX10 cX10_init 1 none A := C
  have hl : lv_has ls 1 [(0, .ref h0)] := hl
  obtain ⟨hx, hb, hml, hown, hts, -⟩ := id C
  have hao : va_AO "EvenDays$Days" s := C.2.2.2.2.2.2.2.2.2.1.2
  refine lv_aload_n hx hb dX10_init_0 rfl (lv_at hl 0 rfl) ?_
  refine r_objInit C hl.1 q1_25 q1_26 q1_27 dX10_init_1 (Nat.le_of_ble_eq_true rfl) (Nat.le_of_ble_eq_true rfl) ?_
  refine lv_aload_n hx hb dX10_init_4 rfl (lv_at hl 0 rfl) ?_
  refine r_newOb C hw cf_X9 (fs := [.int 0, .int 0, .int 0, .int 0, .null, .null, .null, .null, .null]) q1_28 q1_29 q1_2 (by decide) (Nat.le_of_ble_eq_true rfl) (Nat.le_of_ble_eq_true rfl) dX10_init_5 (fun q1 H hw => ?_)
  refine lv_dup hx hb dX10_init_8 rfl ?_
  refine r_callC C hw (c_X9_init (h0 := q1) hfT) md_X9_init rfl q1_30 ⟨Nat.le_of_ble_eq_true rfl, Nat.le_of_ble_eq_true rfl⟩ ⟨Nat.le_of_ble_eq_true rfl, Nat.le_of_ble_eq_true rfl⟩ hl.1 rfl rfl (Nat.le_of_ble_eq_true rfl) dX10_init_9 (fun u1 H locs hu hw9 => ?_)
  have hu : (u1 0) = q1 := hu
  subst hu
  have hw : wl g A s.heap ([(h0, .inr (10, [.null, .null, .null, .null, .null, .null, .null, .null, .null, .null, .null, .null]))] ++ ((gcT g u1 oT))) H locs := hw9
  clear hw9
  refine r_putR C hw 0 rfl cf_X10 0 (by decide) q2_10 rfl hin rfl rfl rfl (Nat.le_of_ble_eq_true rfl) (ws' := ([(h0, .inr (10, [.ref (u1 0), .null, .null, .null, .null, .null, .null, .null, .null, .null, .null, .null]))] ++ ((gcT g u1 oT)))) rfl dX10_init_12 (fun H locs hw => ?_)
  refine lv_aload_n hx hb dX10_init_15 rfl (lv_at hl 0 rfl) ?_
  refine r_newOb C hw cf_X9 (fs := [.int 0, .int 0, .int 0, .int 0, .null, .null, .null, .null, .null]) q1_28 q1_29 q1_2 (by decide) (Nat.le_of_ble_eq_true rfl) (Nat.le_of_ble_eq_true rfl) dX10_init_16 (fun q2 H hw => ?_)
  refine lv_dup hx hb dX10_init_19 rfl ?_
  refine r_callC C hw (c_X9_init (h0 := q2) hfT) md_X9_init rfl q1_30 ⟨Nat.le_of_ble_eq_true rfl, Nat.le_of_ble_eq_true rfl⟩ ⟨Nat.le_of_ble_eq_true rfl, Nat.le_of_ble_eq_true rfl⟩ hl.1 rfl rfl (Nat.le_of_ble_eq_true rfl) dX10_init_20 (fun u2 H locs hu hw9 => ?_)
  have hu : (u2 0) = q2 := hu
  subst hu
  have hw : wl g A s.heap ([(h0, .inr (10, [.ref (u1 0), .null, .null, .null, .null, .null, .null, .null, .null, .null, .null, .null]))] ++ ((gcT g u1 oT) ++ ((gcT g u2 oT)))) H locs := hw9
  clear hw9
  refine r_putR C hw 0 rfl cf_X10 1 (by decide) q2_11 rfl hin rfl rfl rfl (Nat.le_of_ble_eq_true rfl) (ws' := ([(h0, .inr (10, [.ref (u1 0), .ref (u2 0), .null, .null, .null, .null, .null, .null, .null, .null, .null, .null]))] ++ ((gcT g u1 oT) ++ ((gcT g u2 oT))))) rfl dX10_init_23 (fun H locs hw => ?_)
  refine lv_aload_n hx hb dX10_init_26 rfl (lv_at hl 0 rfl) ?_
  refine r_newOb C hw cf_X7 (fs := [.int 0, .null]) q1_84 q1_85 q1_4 (by decide) (Nat.le_of_ble_eq_true rfl) (Nat.le_of_ble_eq_true rfl) dX10_init_27 (fun q3 H hw => ?_)
  refine lv_dup hx hb dX10_init_30 rfl ?_
  refine r_callCN C hw (c_X7_init (h0 := q3) rfl) md_X7_init rfl nq_14 ⟨Nat.le_of_ble_eq_true rfl, Nat.le_of_ble_eq_true rfl⟩ ⟨Nat.le_of_ble_eq_true rfl, Nat.le_of_ble_eq_true rfl⟩ hl.1 rfl rfl (Nat.le_of_ble_eq_true rfl) dX10_init_31 (fun u3 H locs hu hw9 => ?_)
  have hu : (u3 0) = q3 := hu
  subst hu
  have hw : wl g A s.heap ([(h0, .inr (10, [.ref (u1 0), .ref (u2 0), .null, .null, .null, .null, .null, .null, .null, .null, .null, .null]))] ++ ((gcT g u1 oT) ++ ((gcT g u2 oT) ++ ((gcX g u3 (fun _ _ => 0)))))) H locs := hw9
  clear hw9
  refine r_putR C hw 0 rfl cf_X10 2 (by decide) q2_12 rfl hin rfl rfl rfl (Nat.le_of_ble_eq_true rfl) (ws' := ([(h0, .inr (10, [.ref (u1 0), .ref (u2 0), .ref (u3 0), .null, .null, .null, .null, .null, .null, .null, .null, .null]))] ++ ((gcT g u1 oT) ++ ((gcT g u2 oT) ++ ((gcX g u3 (fun _ _ => 0))))))) rfl dX10_init_34 (fun H locs hw => ?_)
  refine lv_aload_n hx hb dX10_init_37 rfl (lv_at hl 0 rfl) ?_
  refine r_newOb C hw cf_X1 (fs := [.null, .int 0, .int 0]) q1_99 q1_100 q1_5 (by decide) (Nat.le_of_ble_eq_true rfl) (Nat.le_of_ble_eq_true rfl) dX10_init_38 (fun q4 H hw => ?_)
  refine lv_dup hx hb dX10_init_41 rfl ?_
  refine lv_aload_n hx hb dX10_init_42 rfl (lv_at hl 0 rfl) ?_
  refine r_get C hw 0 rfl cf_X10 2 (by decide) q2_12 (v := .ref (u3 0)) rfl dX10_init_43 ?_
  refine r_callC C hw (c_X1_init (h0 := q4) (zx := u3)) md_X1_init rfl q1_101 ⟨Nat.le_of_ble_eq_true rfl, Nat.le_of_ble_eq_true rfl⟩ ⟨Nat.le_of_ble_eq_true rfl, Nat.le_of_ble_eq_true rfl⟩ hl.1 rfl rfl (Nat.le_of_ble_eq_true rfl) dX10_init_46 (fun u4 H locs hu hw9 => ?_)
  have hu : (u4.1 0) = q4 := hu
  subst hu
  have hw : wl g A s.heap ([(h0, .inr (10, [.ref (u1 0), .ref (u2 0), .ref (u3 0), .null, .null, .null, .null, .null, .null, .null, .null, .null]))] ++ ((gcT g u1 oT) ++ ((gcT g u2 oT) ++ ((gcX g u3 (fun _ _ => 0)) ++ ((gcL g u4.1 u4.2 (fun _ _ => 0) ++ (gcK g u4.2 u3 (fun _ _ => 0)))))))) H locs := hw9
  clear hw9
  refine r_putR C hw 0 rfl cf_X10 3 (by decide) q2_13 rfl hin rfl rfl rfl (Nat.le_of_ble_eq_true rfl) (ws' := ([(h0, .inr (10, [.ref (u1 0), .ref (u2 0), .ref (u3 0), .ref (u4.1 0), .null, .null, .null, .null, .null, .null, .null, .null]))] ++ ((gcT g u1 oT) ++ ((gcT g u2 oT) ++ ((gcX g u3 (fun _ _ => 0)) ++ ((gcL g u4.1 u4.2 (fun _ _ => 0) ++ (gcK g u4.2 u3 (fun _ _ => 0))))))))) rfl dX10_init_49 (fun H locs hw => ?_)
  refine lv_aload_n hx hb dX10_init_52 rfl (lv_at hl 0 rfl) ?_
  refine r_newOb C hw cf_X0 (fs := [.int 0, .int 0, .null, .null, .null, .null]) q1_136 q1_137 q1_7 (by decide) (Nat.le_of_ble_eq_true rfl) (Nat.le_of_ble_eq_true rfl) dX10_init_53 (fun q5 H hw => ?_)
  refine lv_dup hx hb dX10_init_56 rfl ?_
  refine r_callC C hw (c_X0_init (h0 := q5) hfD) md_X0_init rfl q1_138 ⟨Nat.le_of_ble_eq_true rfl, Nat.le_of_ble_eq_true rfl⟩ ⟨Nat.le_of_ble_eq_true rfl, Nat.le_of_ble_eq_true rfl⟩ hl.1 rfl rfl (Nat.le_of_ble_eq_true rfl) dX10_init_57 (fun u5 H locs hu hw9 => ?_)
  have hu : (u5 0) = q5 := hu
  subst hu
  have hw : wl g A s.heap ([(h0, .inr (10, [.ref (u1 0), .ref (u2 0), .ref (u3 0), .ref (u4.1 0), .null, .null, .null, .null, .null, .null, .null, .null]))] ++ ((gcT g u1 oT) ++ ((gcT g u2 oT) ++ ((gcX g u3 (fun _ _ => 0)) ++ ((gcL g u4.1 u4.2 (fun _ _ => 0) ++ (gcK g u4.2 u3 (fun _ _ => 0))) ++ ((gcD g u5 oD))))))) H locs := hw9
  clear hw9
  refine r_putR C hw 0 rfl cf_X10 4 (by decide) q2_14 rfl hin rfl rfl rfl (Nat.le_of_ble_eq_true rfl) (ws' := ([(h0, .inr (10, [.ref (u1 0), .ref (u2 0), .ref (u3 0), .ref (u4.1 0), .ref (u5 0), .null, .null, .null, .null, .null, .null, .null]))] ++ ((gcT g u1 oT) ++ ((gcT g u2 oT) ++ ((gcX g u3 (fun _ _ => 0)) ++ ((gcL g u4.1 u4.2 (fun _ _ => 0) ++ (gcK g u4.2 u3 (fun _ _ => 0))) ++ ((gcD g u5 oD)))))))) rfl dX10_init_60 (fun H locs hw => ?_)
  refine lv_aload_n hx hb dX10_init_63 rfl (lv_at hl 0 rfl) ?_
  refine lv_iconst (v := (2 : Int32)) hx hb dX10_init_64 rfl ?_
  refine r_newO C hw q1_136 hao (N := 2) (by decide) rfl (by decide) (Nat.le_of_ble_eq_true rfl) (Nat.le_of_ble_eq_true rfl) dX10_init_65 (fun q6 H hw => ?_)
  have hw : wl g A s.heap ([(h0, .inr (10, [.ref (u1 0), .ref (u2 0), .ref (u3 0), .ref (u4.1 0), .ref (u5 0), .null, .null, .null, .null, .null, .null, .null]))] ++ ((gcT g u1 oT) ++ ((gcT g u2 oT) ++ ((gcX g u3 (fun _ _ => 0)) ++ ((gcL g u4.1 u4.2 (fun _ _ => 0) ++ (gcK g u4.2 u3 (fun _ _ => 0))) ++ ((gcD g u5 oD) ++ ([(q6, .inl (gO g, 2, .inr (.inr (.inr (.inr (fun _ => none))))))]))))))) H _ := hw
  refine lv_dup hx hb dX10_init_68 rfl ?_
  refine lv_iconst (v := (0 : Int32)) hx hb dX10_init_69 rfl ?_
  refine r_newOb C hw cf_X0 (fs := [.int 0, .int 0, .null, .null, .null, .null]) q1_136 q1_137 q1_7 (by decide) (Nat.le_of_ble_eq_true rfl) (Nat.le_of_ble_eq_true rfl) dX10_init_70 (fun q7 H hw => ?_)
  refine lv_dup hx hb dX10_init_73 rfl ?_
  refine r_callC C hw (c_X0_init (h0 := q7) hfD) md_X0_init rfl q1_138 ⟨Nat.le_of_ble_eq_true rfl, Nat.le_of_ble_eq_true rfl⟩ ⟨Nat.le_of_ble_eq_true rfl, Nat.le_of_ble_eq_true rfl⟩ hl.1 rfl rfl (Nat.le_of_ble_eq_true rfl) dX10_init_74 (fun u6 H locs hu hw9 => ?_)
  have hu : (u6 0) = q7 := hu
  subst hu
  have hw : wl g A s.heap ([(h0, .inr (10, [.ref (u1 0), .ref (u2 0), .ref (u3 0), .ref (u4.1 0), .ref (u5 0), .null, .null, .null, .null, .null, .null, .null]))] ++ ((gcT g u1 oT) ++ ((gcT g u2 oT) ++ ((gcX g u3 (fun _ _ => 0)) ++ ((gcL g u4.1 u4.2 (fun _ _ => 0) ++ (gcK g u4.2 u3 (fun _ _ => 0))) ++ ((gcD g u5 oD) ++ ([(q6, .inl (gO g, 2, .inr (.inr (.inr (.inr (fun _ => none))))))] ++ ((gcD g u6 oD))))))))) H locs := hw9
  clear hw9
  refine r_astO C hw 22 23 rfl rfl (i := (0 : Int32)) (by decide) (ws' := ([(h0, .inr (10, [.ref (u1 0), .ref (u2 0), .ref (u3 0), .ref (u4.1 0), .ref (u5 0), .null, .null, .null, .null, .null, .null, .null]))] ++ ((gcT g u1 oT) ++ ((gcT g u2 oT) ++ ((gcX g u3 (fun _ _ => 0)) ++ ((gcL g u4.1 u4.2 (fun _ _ => 0) ++ (gcK g u4.2 u3 (fun _ _ => 0))) ++ ((gcD g u5 oD) ++ ([(q6, .inl (gO g, 2, .inr (.inr (.inr (.inr (va_up (fun _ => none) 0 (some (u6 0))))))))] ++ ((gcD g u6 oD)))))))))) rfl dX10_init_77 (fun H locs hw => ?_)
  refine lv_dup hx hb dX10_init_78 rfl ?_
  refine lv_iconst (v := (1 : Int32)) hx hb dX10_init_79 rfl ?_
  refine r_newOb C hw cf_X0 (fs := [.int 0, .int 0, .null, .null, .null, .null]) q1_136 q1_137 q1_7 (by decide) (Nat.le_of_ble_eq_true rfl) (Nat.le_of_ble_eq_true rfl) dX10_init_80 (fun q8 H hw => ?_)
  refine lv_dup hx hb dX10_init_83 rfl ?_
  refine r_callC C hw (c_X0_init (h0 := q8) hfD) md_X0_init rfl q1_138 ⟨Nat.le_of_ble_eq_true rfl, Nat.le_of_ble_eq_true rfl⟩ ⟨Nat.le_of_ble_eq_true rfl, Nat.le_of_ble_eq_true rfl⟩ hl.1 rfl rfl (Nat.le_of_ble_eq_true rfl) dX10_init_84 (fun u7 H locs hu hw9 => ?_)
  have hu : (u7 0) = q8 := hu
  subst hu
  have hw : wl g A s.heap ([(h0, .inr (10, [.ref (u1 0), .ref (u2 0), .ref (u3 0), .ref (u4.1 0), .ref (u5 0), .null, .null, .null, .null, .null, .null, .null]))] ++ ((gcT g u1 oT) ++ ((gcT g u2 oT) ++ ((gcX g u3 (fun _ _ => 0)) ++ ((gcL g u4.1 u4.2 (fun _ _ => 0) ++ (gcK g u4.2 u3 (fun _ _ => 0))) ++ ((gcD g u5 oD) ++ ([(q6, .inl (gO g, 2, .inr (.inr (.inr (.inr (va_up (fun _ => none) 0 (some (u6 0))))))))] ++ ((gcD g u6 oD) ++ ((gcD g u7 oD)))))))))) H locs := hw9
  clear hw9
  refine r_astO C hw 22 28 rfl rfl (i := (1 : Int32)) (by decide) (ws' := ([(h0, .inr (10, [.ref (u1 0), .ref (u2 0), .ref (u3 0), .ref (u4.1 0), .ref (u5 0), .null, .null, .null, .null, .null, .null, .null]))] ++ ((gcT g u1 oT) ++ ((gcT g u2 oT) ++ ((gcX g u3 (fun _ _ => 0)) ++ ((gcL g u4.1 u4.2 (fun _ _ => 0) ++ (gcK g u4.2 u3 (fun _ _ => 0))) ++ ((gcD g u5 oD) ++ ([(q6, .inl (gO g, 2, .inr (.inr (.inr (.inr (fun i => if i = 0 then some (u6 0) else if i = 1 then some (u7 0) else none))))))] ++ ((gcD g u6 oD) ++ ((gcD g u7 oD))))))))))) (by rw [va_up_01]; rfl) dX10_init_87 (fun H locs hw => ?_)
  refine r_putR C hw 0 rfl cf_X10 5 (by decide) q2_15 rfl hin rfl rfl rfl (Nat.le_of_ble_eq_true rfl) (ws' := ([(h0, .inr (10, [.ref (u1 0), .ref (u2 0), .ref (u3 0), .ref (u4.1 0), .ref (u5 0), .ref q6, .null, .null, .null, .null, .null, .null]))] ++ ((gcT g u1 oT) ++ ((gcT g u2 oT) ++ ((gcX g u3 (fun _ _ => 0)) ++ ((gcL g u4.1 u4.2 (fun _ _ => 0) ++ (gcK g u4.2 u3 (fun _ _ => 0))) ++ ((gcD g u5 oD) ++ ([(q6, .inl (gO g, 2, .inr (.inr (.inr (.inr (fun i => if i = 0 then some (u6 0) else if i = 1 then some (u7 0) else none))))))] ++ ((gcD g u6 oD) ++ ((gcD g u7 oD))))))))))) rfl dX10_init_88 (fun H locs hw => ?_)
  refine lv_aload_n hx hb dX10_init_91 rfl (lv_at hl 0 rfl) ?_
  refine lv_iconst (v := (2 : Int32)) hx hb dX10_init_92 rfl ?_
  refine r_newZ C hw (N := 2) q1_196 (by decide) rfl (by decide) (Nat.le_of_ble_eq_true rfl) (Nat.le_of_ble_eq_true rfl) dX10_init_93 (fun q9 H hw => ?_)
  have hw : wl g A s.heap ([(h0, .inr (10, [.ref (u1 0), .ref (u2 0), .ref (u3 0), .ref (u4.1 0), .ref (u5 0), .ref q6, .null, .null, .null, .null, .null, .null]))] ++ ((gcT g u1 oT) ++ ((gcT g u2 oT) ++ ((gcX g u3 (fun _ _ => 0)) ++ ((gcL g u4.1 u4.2 (fun _ _ => 0) ++ (gcK g u4.2 u3 (fun _ _ => 0))) ++ ((gcD g u5 oD) ++ ([(q6, .inl (gO g, 2, .inr (.inr (.inr (.inr (fun i => if i = 0 then some (u6 0) else if i = 1 then some (u7 0) else none))))))] ++ ((gcD g u6 oD) ++ ((gcD g u7 oD) ++ ([(q9, .inl (gZ g, 2, .inl (fun _ => 0)))])))))))))) H _ := hw
  refine r_putR C hw 0 rfl cf_X10 6 (by decide) q2_16 rfl hin rfl rfl rfl (Nat.le_of_ble_eq_true rfl) (ws' := ([(h0, .inr (10, [.ref (u1 0), .ref (u2 0), .ref (u3 0), .ref (u4.1 0), .ref (u5 0), .ref q6, .ref q9, .null, .null, .null, .null, .null]))] ++ ((gcT g u1 oT) ++ ((gcT g u2 oT) ++ ((gcX g u3 (fun _ _ => 0)) ++ ((gcL g u4.1 u4.2 (fun _ _ => 0) ++ (gcK g u4.2 u3 (fun _ _ => 0))) ++ ((gcD g u5 oD) ++ ([(q6, .inl (gO g, 2, .inr (.inr (.inr (.inr (fun i => if i = 0 then some (u6 0) else if i = 1 then some (u7 0) else none))))))] ++ ((gcD g u6 oD) ++ ((gcD g u7 oD) ++ ([(q9, .inl (gZ g, 2, .inl (fun _ => 0)))]))))))))))) rfl dX10_init_95 (fun H locs hw => ?_)
  refine lv_aload_n hx hb dX10_init_98 rfl (lv_at hl 0 rfl) ?_
  refine r_newOb C hw cf_X5 (fs := [.null, .null, .null, .null, .int 0, .int 0]) q1_169 q1_170 q1_8 (by decide) (Nat.le_of_ble_eq_true rfl) (Nat.le_of_ble_eq_true rfl) dX10_init_99 (fun q10 H hw => ?_)
  refine lv_dup hx hb dX10_init_102 rfl ?_
  refine lv_aload_n hx hb dX10_init_103 rfl (lv_at hl 0 rfl) ?_
  refine r_get C hw 0 rfl cf_X10 0 (by decide) q2_10 (v := .ref (u1 0)) rfl dX10_init_104 ?_
  refine r_callC C hw (c_X5_init (h0 := q10) (zt := u1) rfl) md_X5_init rfl q1_171 ⟨Nat.le_of_ble_eq_true rfl, Nat.le_of_ble_eq_true rfl⟩ ⟨Nat.le_of_ble_eq_true rfl, Nat.le_of_ble_eq_true rfl⟩ hl.1 rfl rfl (Nat.le_of_ble_eq_true rfl) dX10_init_107 (fun u8 H locs hu hw9 => ?_)
  have hu : (u8 0) = q10 := hu
  subst hu
  have hw : wl g A s.heap ([(h0, .inr (10, [.ref (u1 0), .ref (u2 0), .ref (u3 0), .ref (u4.1 0), .ref (u5 0), .ref q6, .ref q9, .null, .null, .null, .null, .null]))] ++ ((gcT g u1 oT) ++ ((gcT g u2 oT) ++ ((gcX g u3 (fun _ _ => 0)) ++ ((gcL g u4.1 u4.2 (fun _ _ => 0) ++ (gcK g u4.2 u3 (fun _ _ => 0))) ++ ((gcD g u5 oD) ++ ([(q6, .inl (gO g, 2, .inr (.inr (.inr (.inr (fun i => if i = 0 then some (u6 0) else if i = 1 then some (u7 0) else none))))))] ++ ((gcD g u6 oD) ++ ((gcD g u7 oD) ++ ([(q9, .inl (gZ g, 2, .inl (fun _ => 0)))] ++ ((gcP g u8 u1 (fun _ _ => 0))))))))))))) H locs := hw9
  clear hw9
  refine r_putR C hw 0 rfl cf_X10 7 (by decide) q2_17 rfl hin rfl rfl rfl (Nat.le_of_ble_eq_true rfl) (ws' := ([(h0, .inr (10, [.ref (u1 0), .ref (u2 0), .ref (u3 0), .ref (u4.1 0), .ref (u5 0), .ref q6, .ref q9, .ref (u8 0), .null, .null, .null, .null]))] ++ ((gcT g u1 oT) ++ ((gcT g u2 oT) ++ ((gcX g u3 (fun _ _ => 0)) ++ ((gcL g u4.1 u4.2 (fun _ _ => 0) ++ (gcK g u4.2 u3 (fun _ _ => 0))) ++ ((gcD g u5 oD) ++ ([(q6, .inl (gO g, 2, .inr (.inr (.inr (.inr (fun i => if i = 0 then some (u6 0) else if i = 1 then some (u7 0) else none))))))] ++ ((gcD g u6 oD) ++ ((gcD g u7 oD) ++ ([(q9, .inl (gZ g, 2, .inl (fun _ => 0)))] ++ ((gcP g u8 u1 (fun _ _ => 0)))))))))))))) rfl dX10_init_110 (fun H locs hw => ?_)
  refine lv_aload_n hx hb dX10_init_113 rfl (lv_at hl 0 rfl) ?_
  refine r_newOb C hw cf_X3 (fs := [.null]) q1_197 q1_198 q1_9 (by decide) (Nat.le_of_ble_eq_true rfl) (Nat.le_of_ble_eq_true rfl) dX10_init_114 (fun q11 H hw => ?_)
  refine lv_dup hx hb dX10_init_117 rfl ?_
  refine r_callCN C hw (c_X3_init (h0 := q11) rfl) md_X3_init rfl nq_23 ⟨Nat.le_of_ble_eq_true rfl, Nat.le_of_ble_eq_true rfl⟩ ⟨Nat.le_of_ble_eq_true rfl, Nat.le_of_ble_eq_true rfl⟩ hl.1 rfl rfl (Nat.le_of_ble_eq_true rfl) dX10_init_118 (fun u9 H locs hu hw9 => ?_)
  have hu : (u9 0) = q11 := hu
  subst hu
  have hw : wl g A s.heap ([(h0, .inr (10, [.ref (u1 0), .ref (u2 0), .ref (u3 0), .ref (u4.1 0), .ref (u5 0), .ref q6, .ref q9, .ref (u8 0), .null, .null, .null, .null]))] ++ ((gcT g u1 oT) ++ ((gcT g u2 oT) ++ ((gcX g u3 (fun _ _ => 0)) ++ ((gcL g u4.1 u4.2 (fun _ _ => 0) ++ (gcK g u4.2 u3 (fun _ _ => 0))) ++ ((gcD g u5 oD) ++ ([(q6, .inl (gO g, 2, .inr (.inr (.inr (.inr (fun i => if i = 0 then some (u6 0) else if i = 1 then some (u7 0) else none))))))] ++ ((gcD g u6 oD) ++ ((gcD g u7 oD) ++ ([(q9, .inl (gZ g, 2, .inl (fun _ => 0)))] ++ ((gcP g u8 u1 (fun _ _ => 0)) ++ ((gcN g u9 (fun _ _ => 0)))))))))))))) H locs := hw9
  clear hw9
  refine r_putR C hw 0 rfl cf_X10 8 (by decide) q2_18 rfl hin rfl rfl rfl (Nat.le_of_ble_eq_true rfl) (ws' := ([(h0, .inr (10, [.ref (u1 0), .ref (u2 0), .ref (u3 0), .ref (u4.1 0), .ref (u5 0), .ref q6, .ref q9, .ref (u8 0), .ref (u9 0), .null, .null, .null]))] ++ ((gcT g u1 oT) ++ ((gcT g u2 oT) ++ ((gcX g u3 (fun _ _ => 0)) ++ ((gcL g u4.1 u4.2 (fun _ _ => 0) ++ (gcK g u4.2 u3 (fun _ _ => 0))) ++ ((gcD g u5 oD) ++ ([(q6, .inl (gO g, 2, .inr (.inr (.inr (.inr (fun i => if i = 0 then some (u6 0) else if i = 1 then some (u7 0) else none))))))] ++ ((gcD g u6 oD) ++ ((gcD g u7 oD) ++ ([(q9, .inl (gZ g, 2, .inl (fun _ => 0)))] ++ ((gcP g u8 u1 (fun _ _ => 0)) ++ ((gcN g u9 (fun _ _ => 0))))))))))))))) rfl dX10_init_121 (fun H locs hw => ?_)
  refine lv_aload_n hx hb dX10_init_124 rfl (lv_at hl 0 rfl) ?_
  refine r_newOb C hw cf_X4 (fs := [.null, .null]) q1_207 q1_208 q1_10 (by decide) (Nat.le_of_ble_eq_true rfl) (Nat.le_of_ble_eq_true rfl) dX10_init_125 (fun q12 H hw => ?_)
  refine lv_dup hx hb dX10_init_128 rfl ?_
  refine r_callCN C hw (c_X4_init (h0 := q12) rfl) md_X4_init rfl nq_24 ⟨Nat.le_of_ble_eq_true rfl, Nat.le_of_ble_eq_true rfl⟩ ⟨Nat.le_of_ble_eq_true rfl, Nat.le_of_ble_eq_true rfl⟩ hl.1 rfl rfl (Nat.le_of_ble_eq_true rfl) dX10_init_129 (fun u10 H locs hu hw9 => ?_)
  have hu : (u10 0) = q12 := hu
  subst hu
  have hw : wl g A s.heap ([(h0, .inr (10, [.ref (u1 0), .ref (u2 0), .ref (u3 0), .ref (u4.1 0), .ref (u5 0), .ref q6, .ref q9, .ref (u8 0), .ref (u9 0), .null, .null, .null]))] ++ ((gcT g u1 oT) ++ ((gcT g u2 oT) ++ ((gcX g u3 (fun _ _ => 0)) ++ ((gcL g u4.1 u4.2 (fun _ _ => 0) ++ (gcK g u4.2 u3 (fun _ _ => 0))) ++ ((gcD g u5 oD) ++ ([(q6, .inl (gO g, 2, .inr (.inr (.inr (.inr (fun i => if i = 0 then some (u6 0) else if i = 1 then some (u7 0) else none))))))] ++ ((gcD g u6 oD) ++ ((gcD g u7 oD) ++ ([(q9, .inl (gZ g, 2, .inl (fun _ => 0)))] ++ ((gcP g u8 u1 (fun _ _ => 0)) ++ ((gcN g u9 (fun _ _ => 0)) ++ ((gcH g u10 (fun _ _ => 0))))))))))))))) H locs := hw9
  clear hw9
  refine r_putR C hw 0 rfl cf_X10 9 (by decide) q2_19 rfl hin rfl rfl rfl (Nat.le_of_ble_eq_true rfl) (ws' := ([(h0, .inr (10, [.ref (u1 0), .ref (u2 0), .ref (u3 0), .ref (u4.1 0), .ref (u5 0), .ref q6, .ref q9, .ref (u8 0), .ref (u9 0), .ref (u10 0), .null, .null]))] ++ ((gcT g u1 oT) ++ ((gcT g u2 oT) ++ ((gcX g u3 (fun _ _ => 0)) ++ ((gcL g u4.1 u4.2 (fun _ _ => 0) ++ (gcK g u4.2 u3 (fun _ _ => 0))) ++ ((gcD g u5 oD) ++ ([(q6, .inl (gO g, 2, .inr (.inr (.inr (.inr (fun i => if i = 0 then some (u6 0) else if i = 1 then some (u7 0) else none))))))] ++ ((gcD g u6 oD) ++ ((gcD g u7 oD) ++ ([(q9, .inl (gZ g, 2, .inl (fun _ => 0)))] ++ ((gcP g u8 u1 (fun _ _ => 0)) ++ ((gcN g u9 (fun _ _ => 0)) ++ ((gcH g u10 (fun _ _ => 0)))))))))))))))) rfl dX10_init_132 (fun H locs hw => ?_)
  refine lv_aload_n hx hb dX10_init_135 rfl (lv_at hl 0 rfl) ?_
  refine r_newOb C hw cf_X2 (fs := [.null, .null]) q1_220 q1_221 q1_11 (by decide) (Nat.le_of_ble_eq_true rfl) (Nat.le_of_ble_eq_true rfl) dX10_init_136 (fun q13 H hw => ?_)
  refine lv_dup hx hb dX10_init_139 rfl ?_
  refine r_callCN C hw (c_X2_init (h0 := q13) rfl) md_X2_init rfl nq_25 ⟨Nat.le_of_ble_eq_true rfl, Nat.le_of_ble_eq_true rfl⟩ ⟨Nat.le_of_ble_eq_true rfl, Nat.le_of_ble_eq_true rfl⟩ hl.1 rfl rfl (Nat.le_of_ble_eq_true rfl) dX10_init_140 (fun u11 H locs hu hw9 => ?_)
  have hu : (u11 0) = q13 := hu
  subst hu
  have hw : wl g A s.heap ([(h0, .inr (10, [.ref (u1 0), .ref (u2 0), .ref (u3 0), .ref (u4.1 0), .ref (u5 0), .ref q6, .ref q9, .ref (u8 0), .ref (u9 0), .ref (u10 0), .null, .null]))] ++ ((gcT g u1 oT) ++ ((gcT g u2 oT) ++ ((gcX g u3 (fun _ _ => 0)) ++ ((gcL g u4.1 u4.2 (fun _ _ => 0) ++ (gcK g u4.2 u3 (fun _ _ => 0))) ++ ((gcD g u5 oD) ++ ([(q6, .inl (gO g, 2, .inr (.inr (.inr (.inr (fun i => if i = 0 then some (u6 0) else if i = 1 then some (u7 0) else none))))))] ++ ((gcD g u6 oD) ++ ((gcD g u7 oD) ++ ([(q9, .inl (gZ g, 2, .inl (fun _ => 0)))] ++ ((gcP g u8 u1 (fun _ _ => 0)) ++ ((gcN g u9 (fun _ _ => 0)) ++ ((gcH g u10 (fun _ _ => 0)) ++ ((gcG g u11 (fun _ _ => 0)))))))))))))))) H locs := hw9
  clear hw9
  refine r_putR C hw 0 rfl cf_X10 10 (by decide) q2_20 rfl hin rfl rfl rfl (Nat.le_of_ble_eq_true rfl) (ws' := ([(h0, .inr (10, [.ref (u1 0), .ref (u2 0), .ref (u3 0), .ref (u4.1 0), .ref (u5 0), .ref q6, .ref q9, .ref (u8 0), .ref (u9 0), .ref (u10 0), .ref (u11 0), .null]))] ++ ((gcT g u1 oT) ++ ((gcT g u2 oT) ++ ((gcX g u3 (fun _ _ => 0)) ++ ((gcL g u4.1 u4.2 (fun _ _ => 0) ++ (gcK g u4.2 u3 (fun _ _ => 0))) ++ ((gcD g u5 oD) ++ ([(q6, .inl (gO g, 2, .inr (.inr (.inr (.inr (fun i => if i = 0 then some (u6 0) else if i = 1 then some (u7 0) else none))))))] ++ ((gcD g u6 oD) ++ ((gcD g u7 oD) ++ ([(q9, .inl (gZ g, 2, .inl (fun _ => 0)))] ++ ((gcP g u8 u1 (fun _ _ => 0)) ++ ((gcN g u9 (fun _ _ => 0)) ++ ((gcH g u10 (fun _ _ => 0)) ++ ((gcG g u11 (fun _ _ => 0))))))))))))))))) rfl dX10_init_143 (fun H locs hw => ?_)
  refine lv_aload_n hx hb dX10_init_146 rfl (lv_at hl 0 rfl) ?_
  refine r_newOb C hw cf_X6 (fs := [.int 0, .null, .null]) q1_233 q1_234 q1_12 (by decide) (Nat.le_of_ble_eq_true rfl) (Nat.le_of_ble_eq_true rfl) dX10_init_147 (fun q14 H hw => ?_)
  refine lv_dup hx hb dX10_init_150 rfl ?_
  refine r_callCN C hw (c_X6_init (h0 := q14) rfl) md_X6_init rfl nq_26 ⟨Nat.le_of_ble_eq_true rfl, Nat.le_of_ble_eq_true rfl⟩ ⟨Nat.le_of_ble_eq_true rfl, Nat.le_of_ble_eq_true rfl⟩ hl.1 rfl rfl (Nat.le_of_ble_eq_true rfl) dX10_init_151 (fun u12 H locs hu hw9 => ?_)
  have hu : (u12 0) = q14 := hu
  subst hu
  have hw : wl g A s.heap ([(h0, .inr (10, [.ref (u1 0), .ref (u2 0), .ref (u3 0), .ref (u4.1 0), .ref (u5 0), .ref q6, .ref q9, .ref (u8 0), .ref (u9 0), .ref (u10 0), .ref (u11 0), .null]))] ++ ((gcT g u1 oT) ++ ((gcT g u2 oT) ++ ((gcX g u3 (fun _ _ => 0)) ++ ((gcL g u4.1 u4.2 (fun _ _ => 0) ++ (gcK g u4.2 u3 (fun _ _ => 0))) ++ ((gcD g u5 oD) ++ ([(q6, .inl (gO g, 2, .inr (.inr (.inr (.inr (fun i => if i = 0 then some (u6 0) else if i = 1 then some (u7 0) else none))))))] ++ ((gcD g u6 oD) ++ ((gcD g u7 oD) ++ ([(q9, .inl (gZ g, 2, .inl (fun _ => 0)))] ++ ((gcP g u8 u1 (fun _ _ => 0)) ++ ((gcN g u9 (fun _ _ => 0)) ++ ((gcH g u10 (fun _ _ => 0)) ++ ((gcG g u11 (fun _ _ => 0)) ++ ((gcR g u12 (fun _ _ => 0))))))))))))))))) H locs := hw9
  clear hw9
  refine r_putR C hw 0 rfl cf_X10 11 (by decide) q2_21 rfl hin rfl rfl rfl (Nat.le_of_ble_eq_true rfl) (ws' := ([(h0, .inr (10, [.ref (u1 0), .ref (u2 0), .ref (u3 0), .ref (u4.1 0), .ref (u5 0), .ref q6, .ref q9, .ref (u8 0), .ref (u9 0), .ref (u10 0), .ref (u11 0), .ref (u12 0)]))] ++ ((gcT g u1 oT) ++ ((gcT g u2 oT) ++ ((gcX g u3 (fun _ _ => 0)) ++ ((gcL g u4.1 u4.2 (fun _ _ => 0) ++ (gcK g u4.2 u3 (fun _ _ => 0))) ++ ((gcD g u5 oD) ++ ([(q6, .inl (gO g, 2, .inr (.inr (.inr (.inr (fun i => if i = 0 then some (u6 0) else if i = 1 then some (u7 0) else none))))))] ++ ((gcD g u6 oD) ++ ((gcD g u7 oD) ++ ([(q9, .inl (gZ g, 2, .inl (fun _ => 0)))] ++ ((gcP g u8 u1 (fun _ _ => 0)) ++ ((gcN g u9 (fun _ _ => 0)) ++ ((gcH g u10 (fun _ _ => 0)) ++ ((gcG g u11 (fun _ _ => 0)) ++ ((gcR g u12 (fun _ _ => 0)))))))))))))))))) rfl dX10_init_154 (fun H locs hw => ?_)
  have hw : wl g A s.heap ((fun ad : Nat → Nat → Nat => gcE g ad (fun _ _ => 0) ++ (gcP g (ad 9) (ad 1) (fun _ _ => 0) ++ (gcL g (ad 4) (ad 5) (fun _ _ => 0) ++ (gcD g (ad 6) oD ++ (gcK g (ad 5) (ad 3) (fun _ _ => 0) ++ (gcX g (ad 3) (fun _ _ => 0) ++ (gcT g (ad 1) oT ++ (gcT g (ad 2) oT ++ (gcD g (ad 7) oD ++ (gcD g (ad 8) oD ++ (gcN g (ad 10) (fun _ _ => 0) ++ (gcH g (ad 11) (fun _ _ => 0) ++ (gcG g (ad 12) (fun _ _ => 0) ++ (gcR g (ad 13) (fun _ _ => 0))))))))))))))) (fun k => ([(fun i => ([h0, q6, q9] : List Nat).getD i 0), u1, u2, u3, u4.1, u4.2, u5, u6, u7, u8, u9, u10, u11, u12] : List (Nat → Nat)).getD k (fun _ => 0))) H _ := wl_perm hw [0, 22, 33, 34, 35, 36, 37, 15, 17, 18, 19, 20, 21, 16, 13, 14, 1, 2, 3, 4, 5, 6, 7, 8, 9, 10, 11, 12, 23, 24, 25, 26, 27, 28, 29, 30, 31, 32, 38, 39, 40, 41, 42, 43, 44, 45, 46, 47, 48] rfl rfl
  exact r_cret (K := (fun ad : Nat → Nat → Nat => gcE g ad (fun _ _ => 0) ++ (gcP g (ad 9) (ad 1) (fun _ _ => 0) ++ (gcL g (ad 4) (ad 5) (fun _ _ => 0) ++ (gcD g (ad 6) oD ++ (gcK g (ad 5) (ad 3) (fun _ _ => 0) ++ (gcX g (ad 3) (fun _ _ => 0) ++ (gcT g (ad 1) oT ++ (gcT g (ad 2) oT ++ (gcD g (ad 7) oD ++ (gcD g (ad 8) oD ++ (gcN g (ad 10) (fun _ _ => 0) ++ (gcH g (ad 11) (fun _ _ => 0) ++ (gcG g (ad 12) (fun _ _ => 0) ++ (gcR g (ad 13) (fun _ _ => 0)))))))))))))))) C (fun k => ([(fun i => ([h0, q6, q9] : List Nat).getD i 0), u1, u2, u3, u4.1, u4.2, u5, u6, u7, u8, u9, u10, u11, u12] : List (Nat → Nat)).getD k (fun _ => 0)) hw rfl dX10_init_157
