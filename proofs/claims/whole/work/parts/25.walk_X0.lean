set_option maxRecDepth 100000 in
set_option maxHeartbeats 4000000 in
theorem c_X0_beginAnew {l : Launch} {g : evG} {zd : Nat → Nat} {od : Gp}  {Td : Gp} (hf : fX0_beginAnew Td = some (od)) : CTv l g yX0_beginAnew (Cond.code yX0_beginAnew cX0_beginAnew 1 none) 1 23 [.ref (zd 0)] (gcD g zd Td) (gcD g zd od) := by
  refine ct_v rfl (Nat.le_of_ble_eq_true rfl) ?_
  intro p e s m args below meth c A ls C hw hl
  have C : ctx g p s m args meth c RX0 cX0_beginAnew 1 none A := C
  have hl : lv_has ls 1 [(0, .ref (zd 0))] := hl
  obtain ⟨hx, hb, hml, hown, hts, -⟩ := id C
  unfold fX0_beginAnew at hf
  refine lv_aload_n hx hb dX0_beginAnew_0 rfl (lv_at hl 0 rfl) ?_
  refine lv_iconst (v := (0 : Int32)) hx hb dX0_beginAnew_1 rfl ?_
  refine r_puti C hw 0 rfl cf_X0 0 (by decide) q1_147 rfl rfl (Nat.le_of_ble_eq_true rfl) (ws' := (gcD g zd (u2 Td 0 0 (0 : Int32)))) gcD_p0 dX0_beginAnew_2 (fun H locs hw => ?_)
  refine lv_aload_n hx hb dX0_beginAnew_5 rfl (lv_at hl 0 rfl) ?_
  refine lv_iconst (v := (0 : Int32)) hx hb dX0_beginAnew_6 rfl ?_
  refine r_puti C hw 0 rfl cf_X0 1 (by decide) q1_149 rfl rfl (Nat.le_of_ble_eq_true rfl) (ws' := (gcD g zd (u2 (u2 Td 0 0 (0 : Int32)) 0 1 (0 : Int32)))) gcD_p1 dX0_beginAnew_7 (fun H locs hw => ?_)
  refine lv_aload_n hx hb dX0_beginAnew_10 rfl (lv_at hl 0 rfl) ?_
  refine r_get C hw 0 rfl cf_X0 2 (by decide) q1_150 (v := .ref (zd 1)) rfl dX0_beginAnew_11 ?_
  refine lv_iconst (v := (0 : Int32)) hx hb dX0_beginAnew_14 rfl ?_
  refine r_callSv C hw (c_fill (f := (Td 1)) (n := 2) (a := zd 1) (v := (0 : Int32)) (by decide)) md_J7_fill_53178 [1] rfl rfl rfl q1_146 ⟨Nat.le_of_ble_eq_true rfl, Nat.le_of_ble_eq_true rfl⟩ ⟨Nat.zero_le _, Nat.zero_le _⟩ hl.1 rfl rfl (Nat.le_of_ble_eq_true rfl) dX0_beginAnew_15 (fun H locs hw => ?_)
  have hw : wl g A s.heap (gcD g zd (uc (u2 (u2 Td 0 0 (0 : Int32)) 0 1 (0 : Int32)) 1 (ev_fill (Td 1) 2 (0 : Int32)))) H locs := wl.eq hw gcD_u1
  refine lv_aload_n hx hb dX0_beginAnew_18 rfl (lv_at hl 0 rfl) ?_
  refine r_get C hw 0 rfl cf_X0 3 (by decide) q1_152 (v := .ref (zd 2)) rfl dX0_beginAnew_19 ?_
  refine lv_iconst (v := (0 : Int32)) hx hb dX0_beginAnew_22 rfl ?_
  refine r_callSv C hw (c_fill (f := (Td 2)) (n := 12) (a := zd 2) (v := (0 : Int32)) (by decide)) md_J7_fill_53178 [2] rfl rfl rfl q1_146 ⟨Nat.le_of_ble_eq_true rfl, Nat.le_of_ble_eq_true rfl⟩ ⟨Nat.zero_le _, Nat.zero_le _⟩ hl.1 rfl rfl (Nat.le_of_ble_eq_true rfl) dX0_beginAnew_23 (fun H locs hw => ?_)
  have hw : wl g A s.heap (gcD g zd (uc (uc (u2 (u2 Td 0 0 (0 : Int32)) 0 1 (0 : Int32)) 1 (ev_fill (Td 1) 2 (0 : Int32))) 2 (ev_fill (Td 2) 12 (0 : Int32)))) H locs := wl.eq hw gcD_u2
  refine lv_aload_n hx hb dX0_beginAnew_26 rfl (lv_at hl 0 rfl) ?_
  refine r_get C hw 0 rfl cf_X0 4 (by decide) q1_153 (v := .ref (zd 3)) rfl dX0_beginAnew_27 ?_
  refine lv_iconst (v := (0 : Int32)) hx hb dX0_beginAnew_30 rfl ?_
  refine r_callSv C hw (c_fill (f := (Td 3)) (n := 12) (a := zd 3) (v := (0 : Int32)) (by decide)) md_J7_fill_53178 [3] rfl rfl rfl q1_146 ⟨Nat.le_of_ble_eq_true rfl, Nat.le_of_ble_eq_true rfl⟩ ⟨Nat.zero_le _, Nat.zero_le _⟩ hl.1 rfl rfl (Nat.le_of_ble_eq_true rfl) dX0_beginAnew_31 (fun H locs hw => ?_)
  have hw : wl g A s.heap (gcD g zd (uc (uc (uc (u2 (u2 Td 0 0 (0 : Int32)) 0 1 (0 : Int32)) 1 (ev_fill (Td 1) 2 (0 : Int32))) 2 (ev_fill (Td 2) 12 (0 : Int32))) 3 (ev_fill (Td 3) 12 (0 : Int32)))) H locs := wl.eq hw gcD_u3
  refine lv_aload_n hx hb dX0_beginAnew_34 rfl (lv_at hl 0 rfl) ?_
  refine r_get C hw 0 rfl cf_X0 5 (by decide) q1_154 (v := .ref (zd 4)) rfl dX0_beginAnew_35 ?_
  refine lv_iconst (v := (-1 : Int32)) hx hb dX0_beginAnew_38 rfl ?_
  refine r_callSv C hw (c_fill (f := (Td 4)) (n := 48) (a := zd 4) (v := (-1 : Int32)) (by decide)) md_J7_fill_53178 [4] rfl rfl rfl q1_146 ⟨Nat.le_of_ble_eq_true rfl, Nat.le_of_ble_eq_true rfl⟩ ⟨Nat.zero_le _, Nat.zero_le _⟩ hl.1 rfl rfl (Nat.le_of_ble_eq_true rfl) dX0_beginAnew_39 (fun H locs hw => ?_)
  have hw : wl g A s.heap (gcD g zd (uc (uc (uc (uc (u2 (u2 Td 0 0 (0 : Int32)) 0 1 (0 : Int32)) 1 (ev_fill (Td 1) 2 (0 : Int32))) 2 (ev_fill (Td 2) 12 (0 : Int32))) 3 (ev_fill (Td 3) 12 (0 : Int32))) 4 (ev_fill (Td 4) 48 (-1 : Int32)))) H locs := wl.eq hw gcD_u4
  obtain rfl := so1 hf
  exact r_vret C hw dX0_beginAnew_42
set_option maxRecDepth 100000 in
set_option maxHeartbeats 4000000 in
theorem kX0_becomeLike_81 {l : Launch} {g : evG} {p : Program} {e : Env} {s : State} {m : MethodId} {args : Array Value} {below : List Frame} {meth : Method} {c : Code} {A : Nat → Prop} {zd : Nat → Nat} {zo : Nat → Nat} {od : Gp} (C : ctx g p s m args meth c RX0 cX0_becomeLike 3 none A) {To : Gp} {rec81 : Gp → Int32 → Option (Gp)} (hr81 : ∀ (Td : Gp) (x2 : Int32) (H : Heap) (locs : List Loc) (ls : Array Slot), rec81 Td x2 = some (od) → wl g A s.heap (gcD g zd Td ++ (gcD g zo To)) H locs → lv_has ls 3 [(0, .ref (zd 0)), (1, .ref (zo 0)), (2, .int x2)] → W p l e (rmK 0 0) s m args below meth c H locs 0 0 (MQ below (Qv g A (gcD g zd od ++ (gcD g zo To))) args s 0 0 A) (F0 m 81 ls [])) {Td : Gp} {x2 : Int32} {H : Heap} {locs : List Loc} {ls : Array Slot} (hf : fX0_becomeLike_81 To rec81 Td x2 = some (od)) (hw : wl g A s.heap (gcD g zd Td ++ (gcD g zo To)) H locs) (hl : lv_has ls 3 [(0, .ref (zd 0)), (1, .ref (zo 0)), (2, .int x2)]) : W p l e (rmK 0 0) s m args below meth c H locs 0 0 (MQ below (Qv g A (gcD g zd od ++ (gcD g zo To))) args s 0 0 A) (F0 m 81 ls []) := by
  obtain ⟨hx, hb, hml, hown, hts, -⟩ := id C
  unfold fX0_becomeLike_81 at hf
  refine lv_iload_n hx hb dX0_becomeLike_81 rfl (lv_at hl 2 rfl) ?_
  refine lv_bipush (v := (48 : Int32)) hx hb dX0_becomeLike_82 rfl ?_
  refine lv_icmp_ge (tgt := 105) hx hb dX0_becomeLike_84 (by decide) (fun hc3 => ?_) (fun hc3 => ?_)
  · have hf := it_p hf hc3
    obtain rfl := so1 hf
    exact r_vret C hw dX0_becomeLike_105
  · have hf := it_n hf hc3
    refine lv_aload_n hx hb dX0_becomeLike_87 rfl (lv_at hl 0 rfl) ?_
    refine r_get C hw 0 rfl cf_X0 5 (by decide) q1_154 (v := .ref (zd 4)) rfl dX0_becomeLike_88 ?_
    refine lv_iload_n hx hb dX0_becomeLike_91 rfl (lv_at hl 2 rfl) ?_
    refine lv_aload_n hx hb dX0_becomeLike_92 rfl (lv_at hl 1 rfl) ?_
    refine r_get C hw 5 rfl cf_X0 5 (by decide) q1_154 (v := .ref (zo 4)) rfl dX0_becomeLike_93 ?_
    refine lv_iload_n hx hb dX0_becomeLike_96 rfl (lv_at hl 2 rfl) ?_
    obtain ⟨hi1, hf⟩ := it_g hf
    refine r_iald C hw 9 (f := (To 4)) rfl hi1 dX0_becomeLike_97 ?_
    obtain ⟨hi2, hf⟩ := it_g hf
    refine r_iast C hw 4 (f := (Td 4)) rfl hi2 (ws' := (gcD g zd (u2 Td 4 x2.toNatClampNeg (To 4 x2.toNatClampNeg)) ++ (gcD g zo To))) (set_l (Nat.le_of_ble_eq_true rfl) gcD_a4) dX0_becomeLike_98 (fun H locs hw => ?_)
    refine lv_iinc (v := (x2 + (1 : Int32))) (lv' := [(2, .int (x2 + (1 : Int32))), (0, .ref (zd 0)), (1, .ref (zo 0))]) hx hb dX0_becomeLike_99 hl (k := 2) rfl rfl (by decide) rfl (fun ls hl => ?_)
    refine lv_goto (tgt := 81) hx hb dX0_becomeLike_102 (by decide) ?_
    exact hr81 _ _ _ _ _ hf hw (lv_sub hl [1, 2, 0] rfl)
set_option maxRecDepth 100000 in
set_option maxHeartbeats 4000000 in
theorem klX0_becomeLike_81 {l : Launch} {g : evG} {p : Program} {e : Env} {s : State} {m : MethodId} {args : Array Value} {below : List Frame} {meth : Method} {c : Code} {A : Nat → Prop} {zd : Nat → Nat} {zo : Nat → Nat} {od : Gp} (C : ctx g p s m args meth c RX0 cX0_becomeLike 3 none A) {To : Gp} : ∀ (n : Nat) (Td : Gp) (x2 : Int32) (H : Heap) (locs : List Loc) (ls : Array Slot), lX0_becomeLike_81 To n Td x2 = some (od) → wl g A s.heap (gcD g zd Td ++ (gcD g zo To)) H locs → lv_has ls 3 [(0, .ref (zd 0)), (1, .ref (zo 0)), (2, .int x2)] → W p l e (rmK 0 0) s m args below meth c H locs 0 0 (MQ below (Qv g A (gcD g zd od ++ (gcD g zo To))) args s 0 0 A) (F0 m 81 ls []) := by
  intro n
  induction n with
  | zero => intro _ _ _ _ _ hf; exact no_f hf
  | succ n ih => intro _ _ _ _ _ hf hw hl; exact kX0_becomeLike_81 (zd := zd) (zo := zo) (od := od) C (rec81 := lX0_becomeLike_81 To n) ih hf hw hl
set_option maxRecDepth 100000 in
set_option maxHeartbeats 4000000 in
theorem kX0_becomeLike_43 {l : Launch} {g : evG} {p : Program} {e : Env} {s : State} {m : MethodId} {args : Array Value} {below : List Frame} {meth : Method} {c : Code} {A : Nat → Prop} {zd : Nat → Nat} {zo : Nat → Nat} {od : Gp} (C : ctx g p s m args meth c RX0 cX0_becomeLike 3 none A) {To : Gp} {rec43 : Gp → Int32 → Option (Gp)} (hr43 : ∀ (Td : Gp) (x2 : Int32) (H : Heap) (locs : List Loc) (ls : Array Slot), rec43 Td x2 = some (od) → wl g A s.heap (gcD g zd Td ++ (gcD g zo To)) H locs → lv_has ls 3 [(0, .ref (zd 0)), (1, .ref (zo 0)), (2, .int x2)] → W p l e (rmK 0 0) s m args below meth c H locs 0 0 (MQ below (Qv g A (gcD g zd od ++ (gcD g zo To))) args s 0 0 A) (F0 m 43 ls [])) {Td : Gp} {x2 : Int32} {H : Heap} {locs : List Loc} {ls : Array Slot} (hf : fX0_becomeLike_43 To rec43 Td x2 = some (od)) (hw : wl g A s.heap (gcD g zd Td ++ (gcD g zo To)) H locs) (hl : lv_has ls 3 [(0, .ref (zd 0)), (1, .ref (zo 0)), (2, .int x2)]) : W p l e (rmK 0 0) s m args below meth c H locs 0 0 (MQ below (Qv g A (gcD g zd od ++ (gcD g zo To))) args s 0 0 A) (F0 m 43 ls []) := by
  obtain ⟨hx, hb, hml, hown, hts, -⟩ := id C
  unfold fX0_becomeLike_43 at hf
  refine lv_iload_n hx hb dX0_becomeLike_43 rfl (lv_at hl 2 rfl) ?_
  refine lv_bipush (v := (12 : Int32)) hx hb dX0_becomeLike_44 rfl ?_
  refine lv_icmp_ge (tgt := 79) hx hb dX0_becomeLike_46 (by decide) (fun hc5 => ?_) (fun hc5 => ?_)
  · have hf := it_p hf hc5
    refine lv_iconst (v := (0 : Int32)) hx hb dX0_becomeLike_79 rfl ?_
    refine lv_istore_n (lv' := [(2, .int (0 : Int32)), (0, .ref (zd 0)), (1, .ref (zo 0))]) hx hb dX0_becomeLike_80 rfl hl (by decide) rfl (fun ls hl => ?_)
    exact klX0_becomeLike_81 (zd := zd) (zo := zo) (od := od) C fu _ _ _ _ _ hf hw (lv_sub hl [1, 2, 0] rfl)
  · have hf := it_n hf hc5
    refine lv_aload_n hx hb dX0_becomeLike_49 rfl (lv_at hl 0 rfl) ?_
    refine r_get C hw 0 rfl cf_X0 3 (by decide) q1_152 (v := .ref (zd 2)) rfl dX0_becomeLike_50 ?_
    refine lv_iload_n hx hb dX0_becomeLike_53 rfl (lv_at hl 2 rfl) ?_
    refine lv_aload_n hx hb dX0_becomeLike_54 rfl (lv_at hl 1 rfl) ?_
    refine r_get C hw 5 rfl cf_X0 3 (by decide) q1_152 (v := .ref (zo 2)) rfl dX0_becomeLike_55 ?_
    refine lv_iload_n hx hb dX0_becomeLike_58 rfl (lv_at hl 2 rfl) ?_
    obtain ⟨hi1, hf⟩ := it_g hf
    refine r_iald C hw 7 (f := (To 2)) rfl hi1 dX0_becomeLike_59 ?_
    obtain ⟨hi2, hf⟩ := it_g hf
    refine r_iast C hw 2 (f := (Td 2)) rfl hi2 (ws' := (gcD g zd (u2 Td 2 x2.toNatClampNeg (To 2 x2.toNatClampNeg)) ++ (gcD g zo To))) (set_l (Nat.le_of_ble_eq_true rfl) gcD_a2) dX0_becomeLike_60 (fun H locs hw => ?_)
    refine lv_aload_n hx hb dX0_becomeLike_61 rfl (lv_at hl 0 rfl) ?_
    refine r_get C hw 0 rfl cf_X0 4 (by decide) q1_153 (v := .ref (zd 3)) rfl dX0_becomeLike_62 ?_
    refine lv_iload_n hx hb dX0_becomeLike_65 rfl (lv_at hl 2 rfl) ?_
    refine lv_aload_n hx hb dX0_becomeLike_66 rfl (lv_at hl 1 rfl) ?_
    refine r_get C hw 5 rfl cf_X0 4 (by decide) q1_153 (v := .ref (zo 3)) rfl dX0_becomeLike_67 ?_
    refine lv_iload_n hx hb dX0_becomeLike_70 rfl (lv_at hl 2 rfl) ?_
    obtain ⟨hi3, hf⟩ := it_g hf
    refine r_iald C hw 8 (f := (To 3)) rfl hi3 dX0_becomeLike_71 ?_
    obtain ⟨hi4, hf⟩ := it_g hf
    refine r_iast C hw 3 (f := ((u2 Td 2 x2.toNatClampNeg (To 2 x2.toNatClampNeg)) 3)) rfl hi4 (ws' := (gcD g zd (u2 (u2 Td 2 x2.toNatClampNeg (To 2 x2.toNatClampNeg)) 3 x2.toNatClampNeg (To 3 x2.toNatClampNeg)) ++ (gcD g zo To))) (set_l (Nat.le_of_ble_eq_true rfl) gcD_a3) dX0_becomeLike_72 (fun H locs hw => ?_)
    refine lv_iinc (v := (x2 + (1 : Int32))) (lv' := [(2, .int (x2 + (1 : Int32))), (0, .ref (zd 0)), (1, .ref (zo 0))]) hx hb dX0_becomeLike_73 hl (k := 2) rfl rfl (by decide) rfl (fun ls hl => ?_)
    refine lv_goto (tgt := 43) hx hb dX0_becomeLike_76 (by decide) ?_
    exact hr43 _ _ _ _ _ hf hw (lv_sub hl [1, 2, 0] rfl)
set_option maxRecDepth 100000 in
set_option maxHeartbeats 4000000 in
theorem klX0_becomeLike_43 {l : Launch} {g : evG} {p : Program} {e : Env} {s : State} {m : MethodId} {args : Array Value} {below : List Frame} {meth : Method} {c : Code} {A : Nat → Prop} {zd : Nat → Nat} {zo : Nat → Nat} {od : Gp} (C : ctx g p s m args meth c RX0 cX0_becomeLike 3 none A) {To : Gp} : ∀ (n : Nat) (Td : Gp) (x2 : Int32) (H : Heap) (locs : List Loc) (ls : Array Slot), lX0_becomeLike_43 To n Td x2 = some (od) → wl g A s.heap (gcD g zd Td ++ (gcD g zo To)) H locs → lv_has ls 3 [(0, .ref (zd 0)), (1, .ref (zo 0)), (2, .int x2)] → W p l e (rmK 0 0) s m args below meth c H locs 0 0 (MQ below (Qv g A (gcD g zd od ++ (gcD g zo To))) args s 0 0 A) (F0 m 43 ls []) := by
  intro n
  induction n with
  | zero => intro _ _ _ _ _ hf; exact no_f hf
  | succ n ih => intro _ _ _ _ _ hf hw hl; exact kX0_becomeLike_43 (zd := zd) (zo := zo) (od := od) C (rec43 := lX0_becomeLike_43 To n) ih hf hw hl
set_option maxRecDepth 100000 in
set_option maxHeartbeats 4000000 in
theorem kX0_becomeLike_18 {l : Launch} {g : evG} {p : Program} {e : Env} {s : State} {m : MethodId} {args : Array Value} {below : List Frame} {meth : Method} {c : Code} {A : Nat → Prop} {zd : Nat → Nat} {zo : Nat → Nat} {od : Gp} (C : ctx g p s m args meth c RX0 cX0_becomeLike 3 none A) {To : Gp} {rec18 : Gp → Int32 → Option (Gp)} (hr18 : ∀ (Td : Gp) (x2 : Int32) (H : Heap) (locs : List Loc) (ls : Array Slot), rec18 Td x2 = some (od) → wl g A s.heap (gcD g zd Td ++ (gcD g zo To)) H locs → lv_has ls 3 [(0, .ref (zd 0)), (1, .ref (zo 0)), (2, .int x2)] → W p l e (rmK 0 0) s m args below meth c H locs 0 0 (MQ below (Qv g A (gcD g zd od ++ (gcD g zo To))) args s 0 0 A) (F0 m 18 ls [])) {Td : Gp} {x2 : Int32} {H : Heap} {locs : List Loc} {ls : Array Slot} (hf : fX0_becomeLike_18 To rec18 Td x2 = some (od)) (hw : wl g A s.heap (gcD g zd Td ++ (gcD g zo To)) H locs) (hl : lv_has ls 3 [(0, .ref (zd 0)), (1, .ref (zo 0)), (2, .int x2)]) : W p l e (rmK 0 0) s m args below meth c H locs 0 0 (MQ below (Qv g A (gcD g zd od ++ (gcD g zo To))) args s 0 0 A) (F0 m 18 ls []) := by
  obtain ⟨hx, hb, hml, hown, hts, -⟩ := id C
  unfold fX0_becomeLike_18 at hf
  refine lv_iload_n hx hb dX0_becomeLike_18 rfl (lv_at hl 2 rfl) ?_
  refine lv_iconst (v := (2 : Int32)) hx hb dX0_becomeLike_19 rfl ?_
  refine lv_icmp_ge (tgt := 41) hx hb dX0_becomeLike_20 (by decide) (fun hc3 => ?_) (fun hc3 => ?_)
  · have hf := it_p hf hc3
    refine lv_iconst (v := (0 : Int32)) hx hb dX0_becomeLike_41 rfl ?_
    refine lv_istore_n (lv' := [(2, .int (0 : Int32)), (0, .ref (zd 0)), (1, .ref (zo 0))]) hx hb dX0_becomeLike_42 rfl hl (by decide) rfl (fun ls hl => ?_)
    exact klX0_becomeLike_43 (zd := zd) (zo := zo) (od := od) C fu _ _ _ _ _ hf hw (lv_sub hl [1, 2, 0] rfl)
  · have hf := it_n hf hc3
    refine lv_aload_n hx hb dX0_becomeLike_23 rfl (lv_at hl 0 rfl) ?_
    refine r_get C hw 0 rfl cf_X0 2 (by decide) q1_150 (v := .ref (zd 1)) rfl dX0_becomeLike_24 ?_
    refine lv_iload_n hx hb dX0_becomeLike_27 rfl (lv_at hl 2 rfl) ?_
    refine lv_aload_n hx hb dX0_becomeLike_28 rfl (lv_at hl 1 rfl) ?_
    refine r_get C hw 5 rfl cf_X0 2 (by decide) q1_150 (v := .ref (zo 1)) rfl dX0_becomeLike_29 ?_
    refine lv_iload_n hx hb dX0_becomeLike_32 rfl (lv_at hl 2 rfl) ?_
    obtain ⟨hi1, hf⟩ := it_g hf
    refine r_iald C hw 6 (f := (To 1)) rfl hi1 dX0_becomeLike_33 ?_
    obtain ⟨hi2, hf⟩ := it_g hf
    refine r_iast C hw 1 (f := (Td 1)) rfl hi2 (ws' := (gcD g zd (u2 Td 1 x2.toNatClampNeg (To 1 x2.toNatClampNeg)) ++ (gcD g zo To))) (set_l (Nat.le_of_ble_eq_true rfl) gcD_a1) dX0_becomeLike_34 (fun H locs hw => ?_)
    refine lv_iinc (v := (x2 + (1 : Int32))) (lv' := [(2, .int (x2 + (1 : Int32))), (0, .ref (zd 0)), (1, .ref (zo 0))]) hx hb dX0_becomeLike_35 hl (k := 2) rfl rfl (by decide) rfl (fun ls hl => ?_)
    refine lv_goto (tgt := 18) hx hb dX0_becomeLike_38 (by decide) ?_
    exact hr18 _ _ _ _ _ hf hw (lv_sub hl [1, 2, 0] rfl)
set_option maxRecDepth 100000 in
set_option maxHeartbeats 4000000 in
theorem klX0_becomeLike_18 {l : Launch} {g : evG} {p : Program} {e : Env} {s : State} {m : MethodId} {args : Array Value} {below : List Frame} {meth : Method} {c : Code} {A : Nat → Prop} {zd : Nat → Nat} {zo : Nat → Nat} {od : Gp} (C : ctx g p s m args meth c RX0 cX0_becomeLike 3 none A) {To : Gp} : ∀ (n : Nat) (Td : Gp) (x2 : Int32) (H : Heap) (locs : List Loc) (ls : Array Slot), lX0_becomeLike_18 To n Td x2 = some (od) → wl g A s.heap (gcD g zd Td ++ (gcD g zo To)) H locs → lv_has ls 3 [(0, .ref (zd 0)), (1, .ref (zo 0)), (2, .int x2)] → W p l e (rmK 0 0) s m args below meth c H locs 0 0 (MQ below (Qv g A (gcD g zd od ++ (gcD g zo To))) args s 0 0 A) (F0 m 18 ls []) := by
  intro n
  induction n with
  | zero => intro _ _ _ _ _ hf; exact no_f hf
  | succ n ih => intro _ _ _ _ _ hf hw hl; exact kX0_becomeLike_18 (zd := zd) (zo := zo) (od := od) C (rec18 := lX0_becomeLike_18 To n) ih hf hw hl
set_option maxRecDepth 100000 in
set_option maxHeartbeats 4000000 in
theorem c_X0_becomeLike {l : Launch} {g : evG} {zd : Nat → Nat} {zo : Nat → Nat} {od : Gp}  {Td : Gp} {To : Gp} (hf : fX0_becomeLike Td To = some (od)) : CTv l g yX0_becomeLike (Cond.code yX0_becomeLike cX0_becomeLike 3 none) 0 0 [.ref (zd 0), .ref (zo 0)] (gcD g zd Td ++ (gcD g zo To)) (gcD g zd od ++ (gcD g zo To)) := by
  refine ct_v rfl (Nat.le_of_ble_eq_true rfl) ?_
  intro p e s m args below meth c A ls C hw hl
  have C : ctx g p s m args meth c RX0 cX0_becomeLike 3 none A := C
  have hl : lv_has ls 3 [(0, .ref (zd 0)), (1, .ref (zo 0))] := hl
  obtain ⟨hx, hb, hml, hown, hts, -⟩ := id C
  unfold fX0_becomeLike at hf
  refine lv_aload_n hx hb dX0_becomeLike_0 rfl (lv_at hl 0 rfl) ?_
  refine lv_aload_n hx hb dX0_becomeLike_1 rfl (lv_at hl 1 rfl) ?_
  refine r_get C hw 5 rfl cf_X0 0 (by decide) q1_147 (v := .int (To 0 0)) rfl dX0_becomeLike_2 ?_
  refine r_puti C hw 0 rfl cf_X0 0 (by decide) q1_147 rfl rfl (Nat.le_of_ble_eq_true rfl) (ws' := (gcD g zd (u2 Td 0 0 (To 0 0)) ++ (gcD g zo To))) (set_l (Nat.le_of_ble_eq_true rfl) gcD_p0) dX0_becomeLike_5 (fun H locs hw => ?_)
  refine lv_aload_n hx hb dX0_becomeLike_8 rfl (lv_at hl 0 rfl) ?_
  refine lv_aload_n hx hb dX0_becomeLike_9 rfl (lv_at hl 1 rfl) ?_
  refine r_get C hw 5 rfl cf_X0 1 (by decide) q1_149 (v := .int (To 0 1)) rfl dX0_becomeLike_10 ?_
  refine r_puti C hw 0 rfl cf_X0 1 (by decide) q1_149 rfl rfl (Nat.le_of_ble_eq_true rfl) (ws' := (gcD g zd (u2 (u2 Td 0 0 (To 0 0)) 0 1 (To 0 1)) ++ (gcD g zo To))) (set_l (Nat.le_of_ble_eq_true rfl) gcD_p1) dX0_becomeLike_13 (fun H locs hw => ?_)
  refine lv_iconst (v := (0 : Int32)) hx hb dX0_becomeLike_16 rfl ?_
  refine lv_istore_n (lv' := [(2, .int (0 : Int32)), (0, .ref (zd 0)), (1, .ref (zo 0))]) hx hb dX0_becomeLike_17 rfl hl (by decide) rfl (fun ls hl => ?_)
  exact klX0_becomeLike_18 (zd := zd) (zo := zo) (od := od) C fu _ _ _ _ _ hf hw (lv_sub hl [1, 2, 0] rfl)
set_option maxRecDepth 100000 in
set_option maxHeartbeats 4000000 in
theorem c_X0_tellOtherwise {l : Launch} {g : evG} {zd : Nat → Nat} {od : Gp}  {Td : Gp} {x1 : Int32} {x2 : Int32} {x3 : Int32} {x4 : Int32} (hf : fX0_tellOtherwise Td x1 x2 x3 x4 = some (od)) : CTv l g yX0_tellOtherwise (Cond.code yX0_tellOtherwise cX0_tellOtherwise 6 none) 2 43 [.ref (zd 0), .int x1, .int x2, .int x3, .int x4] (gcD g zd Td) (gcD g zd od) := by
  refine ct_v rfl (Nat.le_of_ble_eq_true rfl) ?_
  intro p e s m args below meth c A ls C hw hl
  have C : ctx g p s m args meth c RX0 cX0_tellOtherwise 6 none A := C
  have hl : lv_has ls 6 [(0, .ref (zd 0)), (1, .int x1), (2, .int x2), (3, .int x3), (4, .int x4)] := hl
  obtain ⟨hx, hb, hml, hown, hts, -⟩ := id C
  unfold fX0_tellOtherwise at hf
  refine lv_iload_n hx hb dX0_tellOtherwise_0 rfl (lv_at hl 1 rfl) ?_
  refine lv_iload_n hx hb dX0_tellOtherwise_1 rfl (lv_at hl 2 rfl) ?_
  refine lv_iload_n hx hb dX0_tellOtherwise_2 rfl (lv_at hl 3 rfl) ?_
  obtain ⟨r1, hc2, hf⟩ := bd1_e hf
  refine r_callNi0 C hw (c_X10_slotIndex hc2) md_X10_slotIndex [] rfl rfl nq_33 ⟨Nat.le_of_ble_eq_true rfl, Nat.le_of_ble_eq_true rfl⟩ ⟨Nat.zero_le _, Nat.zero_le _⟩ hl.1 rfl rfl (Nat.le_of_ble_eq_true rfl) dX0_tellOtherwise_3 (fun H locs hw => ?_)
  refine lv_istore (lv' := [(5, .int r1), (0, .ref (zd 0)), (1, .int x1), (2, .int x2), (3, .int x3), (4, .int x4)]) hx hb dX0_tellOtherwise_6 hl (by decide) rfl (fun ls hl => ?_)
  refine lv_iload hx hb dX0_tellOtherwise_8 (lv_at hl 0 rfl) ?_
  refine lv_iconst (v := (0 : Int32)) hx hb dX0_tellOtherwise_10 rfl ?_
  refine lv_bipush (v := (47 : Int32)) hx hb dX0_tellOtherwise_11 rfl ?_
  obtain ⟨r3, hc4, hf⟩ := bd1_e hf
  refine r_callNi0 C hw (c_X10_within hc4) md_X10_within [] rfl rfl nq_34 ⟨Nat.le_of_ble_eq_true rfl, Nat.le_of_ble_eq_true rfl⟩ ⟨Nat.zero_le _, Nat.zero_le _⟩ hl.1 rfl rfl (Nat.le_of_ble_eq_true rfl) dX0_tellOtherwise_13 (fun H locs hw => ?_)
  refine lv_if_eq (tgt := 28) hx hb dX0_tellOtherwise_16 (by decide) (fun hc6 => ?_) (fun hc6 => ?_)
  · have hf := it_p hf hc6
    obtain rfl := so1 hf
    exact r_vret C hw dX0_tellOtherwise_28
  · have hf := it_n hf hc6
    refine lv_aload_n hx hb dX0_tellOtherwise_19 rfl (lv_at hl 1 rfl) ?_
    refine r_get C hw 0 rfl cf_X0 5 (by decide) q1_154 (v := .ref (zd 4)) rfl dX0_tellOtherwise_20 ?_
    refine lv_iload hx hb dX0_tellOtherwise_23 (lv_at hl 0 rfl) ?_
    refine lv_iload hx hb dX0_tellOtherwise_25 (lv_at hl 5 rfl) ?_
    obtain ⟨hi5, hf⟩ := it_g hf
    refine r_iast C hw 4 (f := (Td 4)) rfl hi5 (ws' := (gcD g zd (u2 Td 4 r1.toNatClampNeg x4))) gcD_a4 dX0_tellOtherwise_27 (fun H locs hw => ?_)
    obtain rfl := so1 hf
    exact r_vret C hw dX0_tellOtherwise_28
set_option maxRecDepth 100000 in
set_option maxHeartbeats 4000000 in
theorem c_X0_tellIll {l : Launch} {g : evG} {zd : Nat → Nat} {od : Gp}  {Td : Gp} {x1 : Int32} {x2 : Int32} {x3 : Int32} (hf : fX0_tellIll Td x1 x2 x3 = some (od)) : CTv l g yX0_tellIll (Cond.code yX0_tellIll cX0_tellIll 5 none) 1 21 [.ref (zd 0), .int x1, .int x2, .int x3] (gcD g zd Td) (gcD g zd od) := by
  refine ct_v rfl (Nat.le_of_ble_eq_true rfl) ?_
  intro p e s m args below meth c A ls C hw hl
  have C : ctx g p s m args meth c RX0 cX0_tellIll 5 none A := C
  have hl : lv_has ls 5 [(0, .ref (zd 0)), (1, .int x1), (2, .int x2), (3, .int x3)] := hl
  obtain ⟨hx, hb, hml, hown, hts, -⟩ := id C
  unfold fX0_tellIll at hf
  refine lv_iconst (v := (1 : Int32)) hx hb dX0_tellIll_0 rfl ?_
  refine lv_iload_n hx hb dX0_tellIll_1 rfl (lv_at hl 1 rfl) ?_
  refine lv_iload_n hx hb dX0_tellIll_2 rfl (lv_at hl 2 rfl) ?_
  obtain ⟨r1, hc2, hf⟩ := bd1_e hf
  refine r_callNi0 C hw (c_X10_personIndex hc2) md_X10_personIndex [] rfl rfl nq_35 ⟨Nat.le_of_ble_eq_true rfl, Nat.le_of_ble_eq_true rfl⟩ ⟨Nat.zero_le _, Nat.zero_le _⟩ hl.1 rfl rfl (Nat.le_of_ble_eq_true rfl) dX0_tellIll_3 (fun H locs hw => ?_)
  refine lv_ishl hx hb dX0_tellIll_6 ?_
  refine lv_istore (lv' := [(4, .int ((1 : Int32) <<< (r1 &&& 31))), (0, .ref (zd 0)), (1, .int x1), (2, .int x2), (3, .int x3)]) hx hb dX0_tellIll_7 hl (by decide) rfl (fun ls hl => ?_)
  refine lv_aload_n hx hb dX0_tellIll_9 rfl (lv_at hl 1 rfl) ?_
  refine lv_iload_n hx hb dX0_tellIll_10 rfl (lv_at hl 4 rfl) ?_
  refine lv_if_eq (tgt := 24) hx hb dX0_tellIll_11 (by decide) (fun hc3 => ?_) (fun hc3 => ?_)
  · have hf := it_p hf hc3
    refine lv_aload_n hx hb dX0_tellIll_24 rfl (lv_at hl 1 rfl) ?_
    refine r_get C hw 0 rfl cf_X0 1 (by decide) q1_149 (v := .int (Td 0 1)) rfl dX0_tellIll_25 ?_
    refine lv_iload hx hb dX0_tellIll_28 (lv_at hl 0 rfl) ?_
    refine lv_iconst (v := (-1 : Int32)) hx hb dX0_tellIll_30 rfl ?_
    refine lv_ixor hx hb dX0_tellIll_31 ?_
    refine lv_iand hx hb dX0_tellIll_32 ?_
    refine r_puti C hw 0 rfl cf_X0 1 (by decide) q1_149 rfl rfl (Nat.le_of_ble_eq_true rfl) (ws' := (gcD g zd (u2 Td 0 1 ((Td 0 1) &&& (((1 : Int32) <<< (r1 &&& 31)) ^^^ (-1 : Int32)))))) gcD_p1 dX0_tellIll_33 (fun H locs hw => ?_)
    obtain rfl := so1 hf
    exact r_vret C hw dX0_tellIll_36
  · have hf := it_n hf hc3
    refine lv_aload_n hx hb dX0_tellIll_14 rfl (lv_at hl 1 rfl) ?_
    refine r_get C hw 0 rfl cf_X0 1 (by decide) q1_149 (v := .int (Td 0 1)) rfl dX0_tellIll_15 ?_
    refine lv_iload hx hb dX0_tellIll_18 (lv_at hl 0 rfl) ?_
    refine lv_ior hx hb dX0_tellIll_20 ?_
    refine lv_goto (tgt := 33) hx hb dX0_tellIll_21 (by decide) ?_
    refine r_puti C hw 0 rfl cf_X0 1 (by decide) q1_149 rfl rfl (Nat.le_of_ble_eq_true rfl) (ws' := (gcD g zd (u2 Td 0 1 ((Td 0 1) ||| ((1 : Int32) <<< (r1 &&& 31)))))) gcD_p1 dX0_tellIll_33 (fun H locs hw => ?_)
    obtain rfl := so1 hf
    exact r_vret C hw dX0_tellIll_36
set_option maxRecDepth 100000 in
set_option maxHeartbeats 4000000 in
theorem c_X0_isIll {l : Launch} {g : evG} {zd : Nat → Nat} {r : Int32}  {Td : Gp} {x1 : Int32} {x2 : Int32} (hf : fX0_isIll Td x1 x2 = some (r)) : CTi l g yX0_isIll (Cond.code yX0_isIll cX0_isIll 3 (some .boolean)) 1 21 [.ref (zd 0), .int x1, .int x2] (gcD g zd Td) (gcD g zd Td) r := by
  refine ct_i rfl (Nat.le_of_ble_eq_true rfl) ?_
  intro p e s m args below meth c A ls C hw hl
  have C : ctx g p s m args meth c RX0 cX0_isIll 3 (some .boolean) A := C
  have hl : lv_has ls 3 [(0, .ref (zd 0)), (1, .int x1), (2, .int x2)] := hl
  obtain ⟨hx, hb, hml, hown, hts, -⟩ := id C
  unfold fX0_isIll at hf
  refine lv_aload_n hx hb dX0_isIll_0 rfl (lv_at hl 0 rfl) ?_
  refine r_get C hw 0 rfl cf_X0 1 (by decide) q1_149 (v := .int (Td 0 1)) rfl dX0_isIll_1 ?_
  refine lv_iload_n hx hb dX0_isIll_4 rfl (lv_at hl 1 rfl) ?_
  refine lv_iload_n hx hb dX0_isIll_5 rfl (lv_at hl 2 rfl) ?_
  obtain ⟨r1, hc2, hf⟩ := bd1_e hf
  refine r_callNi0 C hw (c_X10_personIndex hc2) md_X10_personIndex [] rfl rfl nq_35 ⟨Nat.le_of_ble_eq_true rfl, Nat.le_of_ble_eq_true rfl⟩ ⟨Nat.zero_le _, Nat.zero_le _⟩ hl.1 rfl rfl (Nat.le_of_ble_eq_true rfl) dX0_isIll_6 (fun H locs hw => ?_)
  refine lv_ishr hx hb dX0_isIll_9 ?_
  refine lv_iconst (v := (1 : Int32)) hx hb dX0_isIll_10 rfl ?_
  refine lv_iand hx hb dX0_isIll_11 ?_
  refine lv_if_eq (tgt := 19) hx hb dX0_isIll_12 (by decide) (fun hc3 => ?_) (fun hc3 => ?_)
  · have hf := it_p hf hc3
    refine lv_iconst (v := (0 : Int32)) hx hb dX0_isIll_19 rfl ?_
    obtain rfl := so1 hf
    exact r_zret C hw rfl rfl dX0_isIll_20
  · have hf := it_n hf hc3
    refine lv_iconst (v := (1 : Int32)) hx hb dX0_isIll_15 rfl ?_
    refine lv_goto (tgt := 20) hx hb dX0_isIll_16 (by decide) ?_
    obtain rfl := so1 hf
    exact r_zret C hw rfl rfl dX0_isIll_20
set_option maxRecDepth 100000 in
set_option maxHeartbeats 4000000 in
theorem c_X0_faultsOf {l : Launch} {g : evG} {zd : Nat → Nat} {r : Int32}  {Td : Gp} {x1 : Int32} {x2 : Int32} (hf : fX0_faultsOf Td x1 x2 = some (r)) : CTi l g yX0_faultsOf (Cond.code yX0_faultsOf cX0_faultsOf 4 (some .int)) 1 22 [.ref (zd 0), .int x1, .int x2] (gcD g zd Td) (gcD g zd Td) r := by
  refine ct_i rfl (Nat.le_of_ble_eq_true rfl) ?_
  intro p e s m args below meth c A ls C hw hl
  have C : ctx g p s m args meth c RX0 cX0_faultsOf 4 (some .int) A := C
  have hl : lv_has ls 4 [(0, .ref (zd 0)), (1, .int x1), (2, .int x2)] := hl
  obtain ⟨hx, hb, hml, hown, hts, -⟩ := id C
  unfold fX0_faultsOf at hf
  refine lv_iload_n hx hb dX0_faultsOf_0 rfl (lv_at hl 1 rfl) ?_
  refine lv_iload_n hx hb dX0_faultsOf_1 rfl (lv_at hl 2 rfl) ?_
  obtain ⟨r1, hc2, hf⟩ := bd1_e hf
  refine r_callNi0 C hw (c_X10_personIndex hc2) md_X10_personIndex [] rfl rfl nq_35 ⟨Nat.le_of_ble_eq_true rfl, Nat.le_of_ble_eq_true rfl⟩ ⟨Nat.zero_le _, Nat.zero_le _⟩ hl.1 rfl rfl (Nat.le_of_ble_eq_true rfl) dX0_faultsOf_2 (fun H locs hw => ?_)
  refine lv_istore_n (lv' := [(3, .int r1), (0, .ref (zd 0)), (1, .int x1), (2, .int x2)]) hx hb dX0_faultsOf_5 rfl hl (by decide) rfl (fun ls hl => ?_)
  refine lv_iload_n hx hb dX0_faultsOf_6 rfl (lv_at hl 0 rfl) ?_
  refine lv_iconst (v := (0 : Int32)) hx hb dX0_faultsOf_7 rfl ?_
  refine lv_bipush (v := (11 : Int32)) hx hb dX0_faultsOf_8 rfl ?_
  obtain ⟨r3, hc4, hf⟩ := bd1_e hf
  refine r_callNi0 C hw (c_X10_within hc4) md_X10_within [] rfl rfl nq_34 ⟨Nat.le_of_ble_eq_true rfl, Nat.le_of_ble_eq_true rfl⟩ ⟨Nat.zero_le _, Nat.zero_le _⟩ hl.1 rfl rfl (Nat.le_of_ble_eq_true rfl) dX0_faultsOf_10 (fun H locs hw => ?_)
  refine lv_if_eq (tgt := 25) hx hb dX0_faultsOf_13 (by decide) (fun hc6 => ?_) (fun hc6 => ?_)
  · have hf := it_p hf hc6
    refine lv_iconst (v := (0 : Int32)) hx hb dX0_faultsOf_25 rfl ?_
    obtain rfl := so1 hf
    exact r_iret C hw rfl dX0_faultsOf_26
  · have hf := it_n hf hc6
    refine lv_aload_n hx hb dX0_faultsOf_16 rfl (lv_at hl 1 rfl) ?_
    refine r_get C hw 0 rfl cf_X0 3 (by decide) q1_152 (v := .ref (zd 2)) rfl dX0_faultsOf_17 ?_
    refine lv_iload_n hx hb dX0_faultsOf_20 rfl (lv_at hl 0 rfl) ?_
    obtain ⟨hi5, hf⟩ := it_g hf
    refine r_iald C hw 2 (f := (Td 2)) rfl hi5 dX0_faultsOf_21 ?_
    refine lv_goto (tgt := 26) hx hb dX0_faultsOf_22 (by decide) ?_
    obtain rfl := so1 hf
    exact r_iret C hw rfl dX0_faultsOf_26
set_option maxRecDepth 100000 in
set_option maxHeartbeats 4000000 in
theorem c_X0_owedBy {l : Launch} {g : evG} {zd : Nat → Nat} {r : Int32}  {Td : Gp} {x1 : Int32} {x2 : Int32} (hf : fX0_owedBy Td x1 x2 = some (r)) : CTi l g yX0_owedBy (Cond.code yX0_owedBy cX0_owedBy 4 (some .int)) 1 22 [.ref (zd 0), .int x1, .int x2] (gcD g zd Td) (gcD g zd Td) r := by
  refine ct_i rfl (Nat.le_of_ble_eq_true rfl) ?_
  intro p e s m args below meth c A ls C hw hl
  have C : ctx g p s m args meth c RX0 cX0_owedBy 4 (some .int) A := C
  have hl : lv_has ls 4 [(0, .ref (zd 0)), (1, .int x1), (2, .int x2)] := hl
  obtain ⟨hx, hb, hml, hown, hts, -⟩ := id C
  unfold fX0_owedBy at hf
  refine lv_iload_n hx hb dX0_owedBy_0 rfl (lv_at hl 1 rfl) ?_
  refine lv_iload_n hx hb dX0_owedBy_1 rfl (lv_at hl 2 rfl) ?_
  obtain ⟨r1, hc2, hf⟩ := bd1_e hf
  refine r_callNi0 C hw (c_X10_personIndex hc2) md_X10_personIndex [] rfl rfl nq_35 ⟨Nat.le_of_ble_eq_true rfl, Nat.le_of_ble_eq_true rfl⟩ ⟨Nat.zero_le _, Nat.zero_le _⟩ hl.1 rfl rfl (Nat.le_of_ble_eq_true rfl) dX0_owedBy_2 (fun H locs hw => ?_)
  refine lv_istore_n (lv' := [(3, .int r1), (0, .ref (zd 0)), (1, .int x1), (2, .int x2)]) hx hb dX0_owedBy_5 rfl hl (by decide) rfl (fun ls hl => ?_)
  refine lv_iload_n hx hb dX0_owedBy_6 rfl (lv_at hl 0 rfl) ?_
  refine lv_iconst (v := (0 : Int32)) hx hb dX0_owedBy_7 rfl ?_
  refine lv_bipush (v := (11 : Int32)) hx hb dX0_owedBy_8 rfl ?_
  obtain ⟨r3, hc4, hf⟩ := bd1_e hf
  refine r_callNi0 C hw (c_X10_within hc4) md_X10_within [] rfl rfl nq_34 ⟨Nat.le_of_ble_eq_true rfl, Nat.le_of_ble_eq_true rfl⟩ ⟨Nat.zero_le _, Nat.zero_le _⟩ hl.1 rfl rfl (Nat.le_of_ble_eq_true rfl) dX0_owedBy_10 (fun H locs hw => ?_)
  refine lv_if_eq (tgt := 25) hx hb dX0_owedBy_13 (by decide) (fun hc6 => ?_) (fun hc6 => ?_)
  · have hf := it_p hf hc6
    refine lv_iconst (v := (0 : Int32)) hx hb dX0_owedBy_25 rfl ?_
    obtain rfl := so1 hf
    exact r_iret C hw rfl dX0_owedBy_26
  · have hf := it_n hf hc6
    refine lv_aload_n hx hb dX0_owedBy_16 rfl (lv_at hl 1 rfl) ?_
    refine r_get C hw 0 rfl cf_X0 4 (by decide) q1_153 (v := .ref (zd 3)) rfl dX0_owedBy_17 ?_
    refine lv_iload_n hx hb dX0_owedBy_20 rfl (lv_at hl 0 rfl) ?_
    obtain ⟨hi5, hf⟩ := it_g hf
    refine r_iald C hw 3 (f := (Td 3)) rfl hi5 dX0_owedBy_21 ?_
    refine lv_goto (tgt := 26) hx hb dX0_owedBy_22 (by decide) ?_
    obtain rfl := so1 hf
    exact r_iret C hw rfl dX0_owedBy_26
set_option maxRecDepth 100000 in
set_option maxHeartbeats 4000000 in
theorem c_X0_odd {l : Launch} {g : evG} {zd : Nat → Nat} {r : Int32}  {Td : Gp} (hf : fX0_odd Td = some (r)) : CTi l g yX0_odd (Cond.code yX0_odd cX0_odd 1 (some .int)) 0 0 [.ref (zd 0)] (gcD g zd Td) (gcD g zd Td) r := by
  refine ct_i rfl (Nat.le_of_ble_eq_true rfl) ?_
  intro p e s m args below meth c A ls C hw hl
  have C : ctx g p s m args meth c RX0 cX0_odd 1 (some .int) A := C
  have hl : lv_has ls 1 [(0, .ref (zd 0))] := hl
  obtain ⟨hx, hb, hml, hown, hts, -⟩ := id C
  unfold fX0_odd at hf
  refine lv_aload_n hx hb dX0_odd_0 rfl (lv_at hl 0 rfl) ?_
  refine r_get C hw 0 rfl cf_X0 0 (by decide) q1_147 (v := .int (Td 0 0)) rfl dX0_odd_1 ?_
  refine lv_iconst (v := (1 : Int32)) hx hb dX0_odd_4 rfl ?_
  refine lv_iand hx hb dX0_odd_5 ?_
  obtain rfl := so1 hf
  exact r_iret C hw rfl dX0_odd_6
set_option maxRecDepth 100000 in
set_option maxHeartbeats 4000000 in
theorem c_X0_toldFor {l : Launch} {g : evG} {zd : Nat → Nat} {r : Int32}  {Td : Gp} {x1 : Int32} {x2 : Int32} {x3 : Int32} (hf : fX0_toldFor Td x1 x2 x3 = some (r)) : CTi l g yX0_toldFor (Cond.code yX0_toldFor cX0_toldFor 5 (some .int)) 2 43 [.ref (zd 0), .int x1, .int x2, .int x3] (gcD g zd Td) (gcD g zd Td) r := by
  refine ct_i rfl (Nat.le_of_ble_eq_true rfl) ?_
  intro p e s m args below meth c A ls C hw hl
  have C : ctx g p s m args meth c RX0 cX0_toldFor 5 (some .int) A := C
  have hl : lv_has ls 5 [(0, .ref (zd 0)), (1, .int x1), (2, .int x2), (3, .int x3)] := hl
  obtain ⟨hx, hb, hml, hown, hts, -⟩ := id C
  unfold fX0_toldFor at hf
  refine lv_iload_n hx hb dX0_toldFor_0 rfl (lv_at hl 1 rfl) ?_
  refine lv_iload_n hx hb dX0_toldFor_1 rfl (lv_at hl 2 rfl) ?_
  refine lv_iload_n hx hb dX0_toldFor_2 rfl (lv_at hl 3 rfl) ?_
  obtain ⟨r1, hc2, hf⟩ := bd1_e hf
  refine r_callNi0 C hw (c_X10_slotIndex hc2) md_X10_slotIndex [] rfl rfl nq_33 ⟨Nat.le_of_ble_eq_true rfl, Nat.le_of_ble_eq_true rfl⟩ ⟨Nat.zero_le _, Nat.zero_le _⟩ hl.1 rfl rfl (Nat.le_of_ble_eq_true rfl) dX0_toldFor_3 (fun H locs hw => ?_)
  refine lv_istore (lv' := [(4, .int r1), (0, .ref (zd 0)), (1, .int x1), (2, .int x2), (3, .int x3)]) hx hb dX0_toldFor_6 hl (by decide) rfl (fun ls hl => ?_)
  refine lv_iload hx hb dX0_toldFor_8 (lv_at hl 0 rfl) ?_
  refine lv_iconst (v := (0 : Int32)) hx hb dX0_toldFor_10 rfl ?_
  refine lv_bipush (v := (47 : Int32)) hx hb dX0_toldFor_11 rfl ?_
  obtain ⟨r3, hc4, hf⟩ := bd1_e hf
  refine r_callNi0 C hw (c_X10_within hc4) md_X10_within [] rfl rfl nq_34 ⟨Nat.le_of_ble_eq_true rfl, Nat.le_of_ble_eq_true rfl⟩ ⟨Nat.zero_le _, Nat.zero_le _⟩ hl.1 rfl rfl (Nat.le_of_ble_eq_true rfl) dX0_toldFor_13 (fun H locs hw => ?_)
  refine lv_if_eq (tgt := 29) hx hb dX0_toldFor_16 (by decide) (fun hc6 => ?_) (fun hc6 => ?_)
  · have hf := it_p hf hc6
    refine lv_iconst (v := (-1 : Int32)) hx hb dX0_toldFor_29 rfl ?_
    obtain rfl := so1 hf
    exact r_iret C hw rfl dX0_toldFor_30
  · have hf := it_n hf hc6
    refine lv_aload_n hx hb dX0_toldFor_19 rfl (lv_at hl 1 rfl) ?_
    refine r_get C hw 0 rfl cf_X0 5 (by decide) q1_154 (v := .ref (zd 4)) rfl dX0_toldFor_20 ?_
    refine lv_iload hx hb dX0_toldFor_23 (lv_at hl 0 rfl) ?_
    obtain ⟨hi5, hf⟩ := it_g hf
    refine r_iald C hw 4 (f := (Td 4)) rfl hi5 dX0_toldFor_25 ?_
    refine lv_goto (tgt := 30) hx hb dX0_toldFor_26 (by decide) ?_
    obtain rfl := so1 hf
    exact r_iret C hw rfl dX0_toldFor_30
set_option maxRecDepth 100000 in
set_option maxHeartbeats 4000000 in
theorem c_X0_isToldOtherwise {l : Launch} {g : evG} {zd : Nat → Nat} {zt : Nat → Nat} {r : Int32}  {Td : Gp} {Tt : Gp} {x2 : Int32} {x3 : Int32} {x4 : Int32} (hf : fX0_isToldOtherwise Td Tt x2 x3 x4 = some (r)) : CTi l g yX0_isToldOtherwise (Cond.code yX0_isToldOtherwise cX0_isToldOtherwise 6 (some .boolean)) 3 68 [.ref (zd 0), .ref (zt 0), .int x2, .int x3, .int x4] (gcD g zd Td ++ (gcT g zt Tt)) (gcD g zd Td ++ (gcT g zt Tt)) r := by
  refine ct_i rfl (Nat.le_of_ble_eq_true rfl) ?_
  intro p e s m args below meth c A ls C hw hl
  have C : ctx g p s m args meth c RX0 cX0_isToldOtherwise 6 (some .boolean) A := C
  have hl : lv_has ls 6 [(0, .ref (zd 0)), (1, .ref (zt 0)), (2, .int x2), (3, .int x3), (4, .int x4)] := hl
  obtain ⟨hx, hb, hml, hown, hts, -⟩ := id C
  unfold fX0_isToldOtherwise at hf
  refine lv_aload_n hx hb dX0_isToldOtherwise_0 rfl (lv_at hl 0 rfl) ?_
  refine lv_iload_n hx hb dX0_isToldOtherwise_1 rfl (lv_at hl 2 rfl) ?_
  refine lv_iload_n hx hb dX0_isToldOtherwise_2 rfl (lv_at hl 3 rfl) ?_
  refine lv_iload hx hb dX0_isToldOtherwise_3 (lv_at hl 4 rfl) ?_
  obtain ⟨r1, hc2, hf⟩ := bd1_e hf
  refine r_callVi0 C hw (c_X0_toldFor (zd := zd) hc2) md_X0_toldFor [0, 1, 2, 3, 4] rfl rfl q3_81 0 rfl cf_X0.1 ⟨Nat.le_of_ble_eq_true rfl, Nat.le_of_ble_eq_true rfl⟩ ⟨Nat.zero_le _, Nat.zero_le _⟩ hl.1 rfl rfl (Nat.le_of_ble_eq_true rfl) dX0_isToldOtherwise_5 (fun H locs hw => ?_)
  refine lv_istore (lv' := [(5, .int r1), (0, .ref (zd 0)), (1, .ref (zt 0)), (2, .int x2), (3, .int x3), (4, .int x4)]) hx hb dX0_isToldOtherwise_8 hl (by decide) rfl (fun ls hl => ?_)
  refine lv_iload hx hb dX0_isToldOtherwise_10 (lv_at hl 0 rfl) ?_
  refine lv_iconst (v := (-1 : Int32)) hx hb dX0_isToldOtherwise_12 rfl ?_
  refine lv_icmp_eq (tgt := 37) hx hb dX0_isToldOtherwise_13 (by decide) (fun hc8 => ?_) (fun hc8 => ?_)
  · have hf := it_p hf hc8
    refine lv_iconst (v := (0 : Int32)) hx hb dX0_isToldOtherwise_37 rfl ?_
    obtain rfl := so1 hf
    exact r_zret C hw rfl rfl dX0_isToldOtherwise_38
  · have hf := it_n hf hc8
    refine lv_iload hx hb dX0_isToldOtherwise_16 (lv_at hl 0 rfl) ?_
    refine lv_aload_n hx hb dX0_isToldOtherwise_18 rfl (lv_at hl 2 rfl) ?_
    refine lv_aload_n hx hb dX0_isToldOtherwise_19 rfl (lv_at hl 1 rfl) ?_
    obtain ⟨r3, hc4, hf⟩ := bd1_e hf
    refine r_callVi0 C hw (c_X0_odd (zd := zd) hc4) md_X0_odd [0, 1, 2, 3, 4] rfl rfl q3_85 0 rfl cf_X0.1 ⟨Nat.le_of_ble_eq_true rfl, Nat.le_of_ble_eq_true rfl⟩ ⟨Nat.zero_le _, Nat.zero_le _⟩ hl.1 rfl rfl (Nat.le_of_ble_eq_true rfl) dX0_isToldOtherwise_20 (fun H locs hw => ?_)
    refine lv_iload_n hx hb dX0_isToldOtherwise_23 rfl (lv_at hl 3 rfl) ?_
    refine lv_iload_n hx hb dX0_isToldOtherwise_24 rfl (lv_at hl 4 rfl) ?_
    refine lv_iload hx hb dX0_isToldOtherwise_25 (lv_at hl 5 rfl) ?_
    obtain ⟨r5, hc6, hf⟩ := bd1_e hf
    refine r_callVi0 C hw (c_X9_meantOn (zt := zt) hc6) md_X9_meantOn [5, 6, 7, 8, 9, 10] rfl rfl q3_89 5 rfl cf_X9.1 ⟨Nat.le_of_ble_eq_true rfl, Nat.le_of_ble_eq_true rfl⟩ ⟨Nat.zero_le _, Nat.zero_le _⟩ hl.1 rfl rfl (Nat.le_of_ble_eq_true rfl) dX0_isToldOtherwise_27 (fun H locs hw => ?_)
    refine lv_icmp_eq (tgt := 37) hx hb dX0_isToldOtherwise_30 (by decide) (fun hc7 => ?_) (fun hc7 => ?_)
    · have hf := it_p hf hc7
      refine lv_iconst (v := (0 : Int32)) hx hb dX0_isToldOtherwise_37 rfl ?_
      obtain rfl := so1 hf
      exact r_zret C hw rfl rfl dX0_isToldOtherwise_38
    · have hf := it_n hf hc7
      refine lv_iconst (v := (1 : Int32)) hx hb dX0_isToldOtherwise_33 rfl ?_
      refine lv_goto (tgt := 38) hx hb dX0_isToldOtherwise_34 (by decide) ?_
      obtain rfl := so1 hf
      exact r_zret C hw rfl rfl dX0_isToldOtherwise_38
set_option maxRecDepth 100000 in
set_option maxHeartbeats 4000000 in
theorem kX0_workOf_41 {l : Launch} {g : evG} {p : Program} {e : Env} {s : State} {m : MethodId} {args : Array Value} {below : List Frame} {meth : Method} {c : Code} {A : Nat → Prop} {zd : Nat → Nat} {zt : Nat → Nat} {r : Int32} (C : ctx g p s m args meth c RX0 cX0_workOf 6 (some .int) A) {Td Tt : Gp} {x2 : Int32} {x3 : Int32} {x4 : Int32} {x5 : Int32} {H : Heap} {locs : List Loc} {ls : Array Slot} (hf : fX0_workOf_41 Td Tt x2 x3 x4 x5 = some (r)) (hw : wl g A s.heap (gcD g zd Td ++ (gcT g zt Tt)) H locs) (hl : lv_has ls 6 [(1, .ref (zt 0)), (2, .int x2), (3, .int x3), (4, .int x4), (5, .int x5)]) : W p l e (rmK 3 68) s m args below meth c H locs 0 0 (MQ below (Qi g A (gcD g zd Td ++ (gcT g zt Tt)) r) args s 0 0 A) (F0 m 41 ls []) := by
  obtain ⟨hx, hb, hml, hown, hts, -⟩ := id C
  unfold fX0_workOf_41 at hf
  refine lv_aload_n hx hb dX0_workOf_41 rfl (lv_at hl 0 rfl) ?_
  refine lv_iload_n hx hb dX0_workOf_42 rfl (lv_at hl 1 rfl) ?_
  refine lv_iload_n hx hb dX0_workOf_43 rfl (lv_at hl 2 rfl) ?_
  refine lv_iload hx hb dX0_workOf_44 (lv_at hl 3 rfl) ?_
  refine lv_iload hx hb dX0_workOf_46 (lv_at hl 4 rfl) ?_
  obtain ⟨r1, hc2, hf⟩ := bd1_e hf
  refine r_callVi0 C hw (c_X9_mayDo (zt := zt) hc2) md_X9_mayDo [5, 6, 7, 8, 9, 10] rfl rfl q3_90 5 rfl cf_X9.1 ⟨Nat.le_of_ble_eq_true rfl, Nat.le_of_ble_eq_true rfl⟩ ⟨Nat.zero_le _, Nat.zero_le _⟩ hl.1 rfl rfl (Nat.le_of_ble_eq_true rfl) dX0_workOf_48 (fun H locs hw => ?_)
  refine lv_if_eq (tgt := 59) hx hb dX0_workOf_51 (by decide) (fun hc3 => ?_) (fun hc3 => ?_)
  · have hf := it_p hf hc3
    refine lv_iconst (v := (5 : Int32)) hx hb dX0_workOf_59 rfl ?_
    obtain rfl := so1 hf
    exact r_iret C hw rfl dX0_workOf_60
  · have hf := it_n hf hc3
    refine lv_iload hx hb dX0_workOf_54 (lv_at hl 4 rfl) ?_
    refine lv_goto (tgt := 60) hx hb dX0_workOf_56 (by decide) ?_
    obtain rfl := so1 hf
    exact r_iret C hw rfl dX0_workOf_60
set_option maxRecDepth 100000 in
set_option maxHeartbeats 4000000 in
theorem c_X0_workOf {l : Launch} {g : evG} {zd : Nat → Nat} {zt : Nat → Nat} {r : Int32}  {Td : Gp} {Tt : Gp} {x2 : Int32} {x3 : Int32} {x4 : Int32} (hf : fX0_workOf Td Tt x2 x3 x4 = some (r)) : CTi l g yX0_workOf (Cond.code yX0_workOf cX0_workOf 6 (some .int)) 3 68 [.ref (zd 0), .ref (zt 0), .int x2, .int x3, .int x4] (gcD g zd Td ++ (gcT g zt Tt)) (gcD g zd Td ++ (gcT g zt Tt)) r := by
  refine ct_i rfl (Nat.le_of_ble_eq_true rfl) ?_
  intro p e s m args below meth c A ls C hw hl
  have C : ctx g p s m args meth c RX0 cX0_workOf 6 (some .int) A := C
  have hl : lv_has ls 6 [(0, .ref (zd 0)), (1, .ref (zt 0)), (2, .int x2), (3, .int x3), (4, .int x4)] := hl
  obtain ⟨hx, hb, hml, hown, hts, -⟩ := id C
  unfold fX0_workOf at hf
  refine lv_aload_n hx hb dX0_workOf_0 rfl (lv_at hl 0 rfl) ?_
  refine lv_iload_n hx hb dX0_workOf_1 rfl (lv_at hl 2 rfl) ?_
  refine lv_iload_n hx hb dX0_workOf_2 rfl (lv_at hl 3 rfl) ?_
  obtain ⟨r1, hc2, hf⟩ := bd1_e hf
  refine r_callVi0 C hw (c_X0_isIll (zd := zd) hc2) md_X0_isIll [0, 1, 2, 3, 4] rfl rfl q3_80 0 rfl cf_X0.1 ⟨Nat.le_of_ble_eq_true rfl, Nat.le_of_ble_eq_true rfl⟩ ⟨Nat.zero_le _, Nat.zero_le _⟩ hl.1 rfl rfl (Nat.le_of_ble_eq_true rfl) dX0_workOf_3 (fun H locs hw => ?_)
  refine lv_if_eq (tgt := 11) hx hb dX0_workOf_6 (by decide) (fun hc10 => ?_) (fun hc10 => ?_)
  · have hf := it_p hf hc10
    refine lv_aload_n hx hb dX0_workOf_11 rfl (lv_at hl 0 rfl) ?_
    refine lv_iload_n hx hb dX0_workOf_12 rfl (lv_at hl 2 rfl) ?_
    refine lv_iload_n hx hb dX0_workOf_13 rfl (lv_at hl 3 rfl) ?_
    refine lv_iload hx hb dX0_workOf_14 (lv_at hl 4 rfl) ?_
    obtain ⟨r3, hc4, hf⟩ := bd1_e hf
    refine r_callVi0 C hw (c_X0_toldFor (zd := zd) hc4) md_X0_toldFor [0, 1, 2, 3, 4] rfl rfl q3_81 0 rfl cf_X0.1 ⟨Nat.le_of_ble_eq_true rfl, Nat.le_of_ble_eq_true rfl⟩ ⟨Nat.zero_le _, Nat.zero_le _⟩ hl.1 rfl rfl (Nat.le_of_ble_eq_true rfl) dX0_workOf_16 (fun H locs hw => ?_)
    refine lv_istore (lv' := [(5, .int r3), (0, .ref (zd 0)), (1, .ref (zt 0)), (2, .int x2), (3, .int x3), (4, .int x4)]) hx hb dX0_workOf_19 hl (by decide) rfl (fun ls hl => ?_)
    refine lv_iload hx hb dX0_workOf_21 (lv_at hl 0 rfl) ?_
    refine lv_iconst (v := (-1 : Int32)) hx hb dX0_workOf_23 rfl ?_
    refine lv_icmp_ne (tgt := 41) hx hb dX0_workOf_24 (by decide) (fun hc9 => ?_) (fun hc9 => ?_)
    · have hf := it_n hf hc9
      exact kX0_workOf_41 (zd := zd) (zt := zt) (r := r) C hf hw (lv_sub hl [2, 3, 4, 5, 0] rfl)
    · have hf := it_p hf hc9
      refine lv_aload_n hx hb dX0_workOf_27 rfl (lv_at hl 2 rfl) ?_
      refine lv_aload_n hx hb dX0_workOf_28 rfl (lv_at hl 1 rfl) ?_
      obtain ⟨r5, hc6, hf⟩ := bd1_e hf
      refine r_callVi0 C hw (c_X0_odd (zd := zd) hc6) md_X0_odd [0, 1, 2, 3, 4] rfl rfl q3_85 0 rfl cf_X0.1 ⟨Nat.le_of_ble_eq_true rfl, Nat.le_of_ble_eq_true rfl⟩ ⟨Nat.zero_le _, Nat.zero_le _⟩ hl.1 rfl rfl (Nat.le_of_ble_eq_true rfl) dX0_workOf_29 (fun H locs hw => ?_)
      refine lv_iload_n hx hb dX0_workOf_32 rfl (lv_at hl 3 rfl) ?_
      refine lv_iload_n hx hb dX0_workOf_33 rfl (lv_at hl 4 rfl) ?_
      refine lv_iload hx hb dX0_workOf_34 (lv_at hl 5 rfl) ?_
      obtain ⟨r7, hc8, hf⟩ := bd1_e hf
      refine r_callVi0 C hw (c_X9_meantOn (zt := zt) hc8) md_X9_meantOn [5, 6, 7, 8, 9, 10] rfl rfl q3_89 5 rfl cf_X9.1 ⟨Nat.le_of_ble_eq_true rfl, Nat.le_of_ble_eq_true rfl⟩ ⟨Nat.zero_le _, Nat.zero_le _⟩ hl.1 rfl rfl (Nat.le_of_ble_eq_true rfl) dX0_workOf_36 (fun H locs hw => ?_)
      refine lv_istore (lv' := [(5, .int r7), (0, .ref (zd 0)), (1, .ref (zt 0)), (2, .int x2), (3, .int x3), (4, .int x4)]) hx hb dX0_workOf_39 hl (by decide) rfl (fun ls hl => ?_)
      exact kX0_workOf_41 (zd := zd) (zt := zt) (r := r) C hf hw (lv_sub hl [2, 3, 4, 5, 0] rfl)
  · have hf := it_n hf hc10
    refine lv_iconst (v := (5 : Int32)) hx hb dX0_workOf_9 rfl ?_
    obtain rfl := so1 hf
    exact r_iret C hw rfl dX0_workOf_10
set_option maxRecDepth 100000 in
set_option maxHeartbeats 4000000 in
theorem c_X0_isBreach {l : Launch} {g : evG} {zd : Nat → Nat} {zt : Nat → Nat} {r : Int32}  {Td : Gp} {Tt : Gp} {x2 : Int32} {x3 : Int32} (hf : fX0_isBreach Td Tt x2 x3 = some (r)) : CTi l g yX0_isBreach (Cond.code yX0_isBreach cX0_isBreach 6 (some .boolean)) 4 93 [.ref (zd 0), .ref (zt 0), .int x2, .int x3] (gcD g zd Td ++ (gcT g zt Tt)) (gcD g zd Td ++ (gcT g zt Tt)) r := by
  refine ct_i rfl (Nat.le_of_ble_eq_true rfl) ?_
  intro p e s m args below meth c A ls C hw hl
  have C : ctx g p s m args meth c RX0 cX0_isBreach 6 (some .boolean) A := C
  have hl : lv_has ls 6 [(0, .ref (zd 0)), (1, .ref (zt 0)), (2, .int x2), (3, .int x3)] := hl
  obtain ⟨hx, hb, hml, hown, hts, -⟩ := id C
  unfold fX0_isBreach at hf
  refine lv_aload_n hx hb dX0_isBreach_0 rfl (lv_at hl 0 rfl) ?_
  refine lv_iconst (v := (0 : Int32)) hx hb dX0_isBreach_1 rfl ?_
  refine lv_iload_n hx hb dX0_isBreach_2 rfl (lv_at hl 2 rfl) ?_
  obtain ⟨r1, hc2, hf⟩ := bd1_e hf
  refine r_callVi0 C hw (c_X0_isIll (zd := zd) hc2) md_X0_isIll [0, 1, 2, 3, 4] rfl rfl q3_80 0 rfl cf_X0.1 ⟨Nat.le_of_ble_eq_true rfl, Nat.le_of_ble_eq_true rfl⟩ ⟨Nat.zero_le _, Nat.zero_le _⟩ hl.1 rfl rfl (Nat.le_of_ble_eq_true rfl) dX0_isBreach_3 (fun H locs hw => ?_)
  refine lv_if_ne (tgt := 18) hx hb dX0_isBreach_6 (by decide) (fun hc15 => ?_) (fun hc15 => ?_)
  · have hf := it_n hf hc15
    refine lv_iconst (v := (0 : Int32)) hx hb dX0_isBreach_18 rfl ?_
    obtain rfl := so1 hf
    exact r_zret C hw rfl rfl dX0_isBreach_19
  · have hf := it_p hf hc15
    refine lv_aload_n hx hb dX0_isBreach_9 rfl (lv_at hl 0 rfl) ?_
    refine lv_iconst (v := (1 : Int32)) hx hb dX0_isBreach_10 rfl ?_
    refine lv_iload_n hx hb dX0_isBreach_11 rfl (lv_at hl 2 rfl) ?_
    obtain ⟨r3, hc4, hf⟩ := bd1_e hf
    refine r_callVi0 C hw (c_X0_isIll (zd := zd) hc4) md_X0_isIll [0, 1, 2, 3, 4] rfl rfl q3_80 0 rfl cf_X0.1 ⟨Nat.le_of_ble_eq_true rfl, Nat.le_of_ble_eq_true rfl⟩ ⟨Nat.zero_le _, Nat.zero_le _⟩ hl.1 rfl rfl (Nat.le_of_ble_eq_true rfl) dX0_isBreach_12 (fun H locs hw => ?_)
    refine lv_if_eq (tgt := 20) hx hb dX0_isBreach_15 (by decide) (fun hc14 => ?_) (fun hc14 => ?_)
    · have hf := it_p hf hc14
      refine lv_aload_n hx hb dX0_isBreach_20 rfl (lv_at hl 0 rfl) ?_
      refine lv_aload_n hx hb dX0_isBreach_21 rfl (lv_at hl 1 rfl) ?_
      refine lv_iconst (v := (0 : Int32)) hx hb dX0_isBreach_22 rfl ?_
      refine lv_iload_n hx hb dX0_isBreach_23 rfl (lv_at hl 2 rfl) ?_
      refine lv_iload_n hx hb dX0_isBreach_24 rfl (lv_at hl 3 rfl) ?_
      obtain ⟨r5, hc6, hf⟩ := bd1_e hf
      refine r_callVi0 C hw (c_X0_workOf (zd := zd) (zt := zt) hc6) md_X0_workOf [0, 1, 2, 3, 4, 5, 6, 7, 8, 9, 10] rfl rfl q3_76 0 rfl cf_X0.1 ⟨Nat.le_of_ble_eq_true rfl, Nat.le_of_ble_eq_true rfl⟩ ⟨Nat.zero_le _, Nat.zero_le _⟩ hl.1 rfl rfl (Nat.le_of_ble_eq_true rfl) dX0_isBreach_25 (fun H locs hw => ?_)
      refine lv_istore (lv' := [(4, .int r5), (0, .ref (zd 0)), (1, .ref (zt 0)), (2, .int x2), (3, .int x3)]) hx hb dX0_isBreach_28 hl (by decide) rfl (fun ls hl => ?_)
      refine lv_aload_n hx hb dX0_isBreach_30 rfl (lv_at hl 1 rfl) ?_
      refine lv_aload_n hx hb dX0_isBreach_31 rfl (lv_at hl 2 rfl) ?_
      refine lv_iconst (v := (1 : Int32)) hx hb dX0_isBreach_32 rfl ?_
      refine lv_iload_n hx hb dX0_isBreach_33 rfl (lv_at hl 3 rfl) ?_
      refine lv_iload_n hx hb dX0_isBreach_34 rfl (lv_at hl 4 rfl) ?_
      obtain ⟨r7, hc8, hf⟩ := bd1_e hf
      refine r_callVi0 C hw (c_X0_workOf (zd := zd) (zt := zt) hc8) md_X0_workOf [0, 1, 2, 3, 4, 5, 6, 7, 8, 9, 10] rfl rfl q3_76 0 rfl cf_X0.1 ⟨Nat.le_of_ble_eq_true rfl, Nat.le_of_ble_eq_true rfl⟩ ⟨Nat.zero_le _, Nat.zero_le _⟩ hl.1 rfl rfl (Nat.le_of_ble_eq_true rfl) dX0_isBreach_35 (fun H locs hw => ?_)
      refine lv_istore (lv' := [(5, .int r7), (4, .int r5), (0, .ref (zd 0)), (1, .ref (zt 0)), (2, .int x2), (3, .int x3)]) hx hb dX0_isBreach_38 hl (by decide) rfl (fun ls hl => ?_)
      refine lv_aload_n hx hb dX0_isBreach_40 rfl (lv_at hl 3 rfl) ?_
      refine lv_aload_n hx hb dX0_isBreach_41 rfl (lv_at hl 2 rfl) ?_
      obtain ⟨r9, hc10, hf⟩ := bd1_e hf
      refine r_callVi0 C hw (c_X0_odd (zd := zd) hc10) md_X0_odd [0, 1, 2, 3, 4] rfl rfl q3_85 0 rfl cf_X0.1 ⟨Nat.le_of_ble_eq_true rfl, Nat.le_of_ble_eq_true rfl⟩ ⟨Nat.zero_le _, Nat.zero_le _⟩ hl.1 rfl rfl (Nat.le_of_ble_eq_true rfl) dX0_isBreach_42 (fun H locs hw => ?_)
      refine lv_iload_n hx hb dX0_isBreach_45 rfl (lv_at hl 4 rfl) ?_
      refine lv_iload hx hb dX0_isBreach_46 (lv_at hl 1 rfl) ?_
      refine lv_iload hx hb dX0_isBreach_48 (lv_at hl 0 rfl) ?_
      obtain ⟨r11, hc12, hf⟩ := bd1_e hf
      refine r_callVi0 C hw (c_X9_keepsTreaty (zt := zt) hc12) md_X9_keepsTreaty [5, 6, 7, 8, 9, 10] rfl rfl q3_107 5 rfl cf_X9.1 ⟨Nat.le_of_ble_eq_true rfl, Nat.le_of_ble_eq_true rfl⟩ ⟨Nat.zero_le _, Nat.zero_le _⟩ hl.1 rfl rfl (Nat.le_of_ble_eq_true rfl) dX0_isBreach_50 (fun H locs hw => ?_)
      refine lv_if_ne (tgt := 60) hx hb dX0_isBreach_53 (by decide) (fun hc13 => ?_) (fun hc13 => ?_)
      · have hf := it_n hf hc13
        refine lv_iconst (v := (0 : Int32)) hx hb dX0_isBreach_60 rfl ?_
        obtain rfl := so1 hf
        exact r_zret C hw rfl rfl dX0_isBreach_61
      · have hf := it_p hf hc13
        refine lv_iconst (v := (1 : Int32)) hx hb dX0_isBreach_56 rfl ?_
        refine lv_goto (tgt := 61) hx hb dX0_isBreach_57 (by decide) ?_
        obtain rfl := so1 hf
        exact r_zret C hw rfl rfl dX0_isBreach_61
    · have hf := it_n hf hc14
      refine lv_iconst (v := (0 : Int32)) hx hb dX0_isBreach_18 rfl ?_
      obtain rfl := so1 hf
      exact r_zret C hw rfl rfl dX0_isBreach_19
set_option maxRecDepth 100000 in
set_option maxHeartbeats 4000000 in
theorem c_X0_addFault {l : Launch} {g : evG} {zd : Nat → Nat} {od : Gp}  {Td : Gp} {x1 : Int32} {x2 : Int32} {x3 : Int32} (hf : fX0_addFault Td x1 x2 x3 = some (od)) : CTv l g yX0_addFault (Cond.code yX0_addFault cX0_addFault 5 none) 1 22 [.ref (zd 0), .int x1, .int x2, .int x3] (gcD g zd Td) (gcD g zd od) := by
  refine ct_v rfl (Nat.le_of_ble_eq_true rfl) ?_
  intro p e s m args below meth c A ls C hw hl
  have C : ctx g p s m args meth c RX0 cX0_addFault 5 none A := C
  have hl : lv_has ls 5 [(0, .ref (zd 0)), (1, .int x1), (2, .int x2), (3, .int x3)] := hl
  obtain ⟨hx, hb, hml, hown, hts, -⟩ := id C
  unfold fX0_addFault at hf
  refine lv_iload_n hx hb dX0_addFault_0 rfl (lv_at hl 1 rfl) ?_
  refine lv_iload_n hx hb dX0_addFault_1 rfl (lv_at hl 2 rfl) ?_
  obtain ⟨r1, hc2, hf⟩ := bd1_e hf
  refine r_callNi0 C hw (c_X10_personIndex hc2) md_X10_personIndex [] rfl rfl nq_35 ⟨Nat.le_of_ble_eq_true rfl, Nat.le_of_ble_eq_true rfl⟩ ⟨Nat.zero_le _, Nat.zero_le _⟩ hl.1 rfl rfl (Nat.le_of_ble_eq_true rfl) dX0_addFault_2 (fun H locs hw => ?_)
  refine lv_istore (lv' := [(4, .int r1), (0, .ref (zd 0)), (1, .int x1), (2, .int x2), (3, .int x3)]) hx hb dX0_addFault_5 hl (by decide) rfl (fun ls hl => ?_)
  refine lv_iload hx hb dX0_addFault_7 (lv_at hl 0 rfl) ?_
  refine lv_iconst (v := (0 : Int32)) hx hb dX0_addFault_9 rfl ?_
  refine lv_bipush (v := (11 : Int32)) hx hb dX0_addFault_10 rfl ?_
  obtain ⟨r3, hc4, hf⟩ := bd1_e hf
  refine r_callNi0 C hw (c_X10_within hc4) md_X10_within [] rfl rfl nq_34 ⟨Nat.le_of_ble_eq_true rfl, Nat.le_of_ble_eq_true rfl⟩ ⟨Nat.zero_le _, Nat.zero_le _⟩ hl.1 rfl rfl (Nat.le_of_ble_eq_true rfl) dX0_addFault_12 (fun H locs hw => ?_)
  refine lv_if_ne (tgt := 19) hx hb dX0_addFault_15 (by decide) (fun hc9 => ?_) (fun hc9 => ?_)
  · have hf := it_n hf hc9
    refine lv_aload_n hx hb dX0_addFault_19 rfl (lv_at hl 1 rfl) ?_
    refine r_get C hw 0 rfl cf_X0 3 (by decide) q1_152 (v := .ref (zd 2)) rfl dX0_addFault_20 ?_
    refine lv_iload hx hb dX0_addFault_23 (lv_at hl 0 rfl) ?_
    refine lv_dup2_11 hx hb dX0_addFault_25 rfl rfl ?_
    obtain ⟨hi5, hf⟩ := it_g hf
    refine r_iald C hw 2 (f := (Td 2)) rfl hi5 dX0_addFault_26 ?_
    refine lv_iconst (v := (1 : Int32)) hx hb dX0_addFault_27 rfl ?_
    refine lv_iadd hx hb dX0_addFault_28 ?_
    obtain ⟨hi6, hf⟩ := it_g hf
    refine r_iast C hw 2 (f := (Td 2)) rfl hi6 (ws' := (gcD g zd (u2 Td 2 r1.toNatClampNeg ((Td 2 r1.toNatClampNeg) + (1 : Int32))))) gcD_a2 dX0_addFault_29 (fun H locs hw => ?_)
    refine lv_aload_n hx hb dX0_addFault_30 rfl (lv_at hl 1 rfl) ?_
    refine r_get C hw 0 rfl cf_X0 4 (by decide) q1_153 (v := .ref (zd 3)) rfl dX0_addFault_31 ?_
    refine lv_iload hx hb dX0_addFault_34 (lv_at hl 0 rfl) ?_
    refine lv_dup2_11 hx hb dX0_addFault_36 rfl rfl ?_
    obtain ⟨hi7, hf⟩ := it_g hf
    refine r_iald C hw 3 (f := (Td 3)) rfl hi7 dX0_addFault_37 ?_
    refine lv_iload_n hx hb dX0_addFault_38 rfl (lv_at hl 4 rfl) ?_
    refine lv_iadd hx hb dX0_addFault_39 ?_
    obtain ⟨hi8, hf⟩ := it_g hf
    refine r_iast C hw 3 (f := ((u2 Td 2 r1.toNatClampNeg ((Td 2 r1.toNatClampNeg) + (1 : Int32))) 3)) rfl hi8 (ws' := (gcD g zd (u2 (u2 Td 2 r1.toNatClampNeg ((Td 2 r1.toNatClampNeg) + (1 : Int32))) 3 r1.toNatClampNeg ((Td 3 r1.toNatClampNeg) + x3)))) gcD_a3 dX0_addFault_40 (fun H locs hw => ?_)
    obtain rfl := so1 hf
    exact r_vret C hw dX0_addFault_41
  · have hf := it_p hf hc9
    obtain rfl := so1 hf
    exact r_vret C hw dX0_addFault_18
set_option maxRecDepth 100000 in
set_option maxHeartbeats 4000000 in
theorem kX0_blame_50 {l : Launch} {g : evG} {p : Program} {e : Env} {s : State} {m : MethodId} {args : Array Value} {below : List Frame} {meth : Method} {c : Code} {A : Nat → Prop} {zd : Nat → Nat} {zt : Nat → Nat} {od : Gp} (C : ctx g p s m args meth c RX0 cX0_blame 6 none A) {Tt : Gp} {Td : Gp} {x2 : Int32} {H : Heap} {locs : List Loc} {ls : Array Slot} (hf : fX0_blame_50 Tt Td x2 = some (od)) (hw : wl g A s.heap (gcD g zd Td ++ (gcT g zt Tt)) H locs) (hl : lv_has ls 6 [(0, .ref (zd 0)), (1, .ref (zt 0)), (2, .int x2)]) : W p l e (rmK 4 93) s m args below meth c H locs 0 0 (MQ below (Qv g A (gcD g zd od ++ (gcT g zt Tt))) args s 0 0 A) (F0 m 50 ls []) := by
  obtain ⟨hx, hb, hml, hown, hts, -⟩ := id C
  unfold fX0_blame_50 at hf
  refine lv_aload_n hx hb dX0_blame_50 rfl (lv_at hl 0 rfl) ?_
  refine lv_iconst (v := (1 : Int32)) hx hb dX0_blame_51 rfl ?_
  refine lv_iload_n hx hb dX0_blame_52 rfl (lv_at hl 2 rfl) ?_
  refine lv_aload_n hx hb dX0_blame_53 rfl (lv_at hl 1 rfl) ?_
  refine r_getN C hw 5 rfl cf_X9 3 (by decide) nq_12 (v := .int (Tt 0 3)) rfl dX0_blame_54 ?_
  obtain ⟨Td_1, hc2, hf⟩ := bd1_e hf
  refine r_callVv C hw (c_X0_addFault (zd := zd) hc2) md_X0_addFault [0, 1, 2, 3, 4] rfl rfl rfl q3_119 0 rfl cf_X0.1 ⟨Nat.le_of_ble_eq_true rfl, Nat.le_of_ble_eq_true rfl⟩ ⟨Nat.zero_le _, Nat.zero_le _⟩ hl.1 rfl rfl (Nat.le_of_ble_eq_true rfl) dX0_blame_57 (fun H locs hw => ?_)
  have hw : wl g A s.heap (gcD g zd Td_1 ++ (gcT g zt Tt)) H locs := hw
  obtain rfl := so1 hf
  exact r_vret C hw dX0_blame_60
set_option maxRecDepth 100000 in
set_option maxHeartbeats 4000000 in
theorem kX0_blame_40 {l : Launch} {g : evG} {p : Program} {e : Env} {s : State} {m : MethodId} {args : Array Value} {below : List Frame} {meth : Method} {c : Code} {A : Nat → Prop} {zd : Nat → Nat} {zt : Nat → Nat} {od : Gp} (C : ctx g p s m args meth c RX0 cX0_blame 6 none A) {Tt : Gp} {Td : Gp} {x2 : Int32} {x4 : Int32} {x5 : Int32} {H : Heap} {locs : List Loc} {ls : Array Slot} (hf : fX0_blame_40 Tt Td x2 x4 x5 = some (od)) (hw : wl g A s.heap (gcD g zd Td ++ (gcT g zt Tt)) H locs) (hl : lv_has ls 6 [(0, .ref (zd 0)), (1, .ref (zt 0)), (2, .int x2), (4, .int x4), (5, .int x5)]) : W p l e (rmK 4 93) s m args below meth c H locs 0 0 (MQ below (Qv g A (gcD g zd od ++ (gcT g zt Tt))) args s 0 0 A) (F0 m 40 ls []) := by
  obtain ⟨hx, hb, hml, hown, hts, -⟩ := id C
  unfold fX0_blame_40 at hf
  refine lv_iload hx hb dX0_blame_40 (lv_at hl 4 rfl) ?_
  refine lv_if_ne (tgt := 50) hx hb dX0_blame_42 (by decide) (fun hc2 => ?_) (fun hc2 => ?_)
  · have hf := it_n hf hc2
    exact kX0_blame_50 (zd := zd) (zt := zt) (od := od) C hf hw (lv_sub hl [0, 1, 2] rfl)
  · have hf := it_p hf hc2
    refine lv_iload hx hb dX0_blame_45 (lv_at hl 3 rfl) ?_
    refine lv_if_ne (tgt := 60) hx hb dX0_blame_47 (by decide) (fun hc1 => ?_) (fun hc1 => ?_)
    · have hf := it_n hf hc1
      obtain rfl := so1 hf
      exact r_vret C hw dX0_blame_60
    · have hf := it_p hf hc1
      exact kX0_blame_50 (zd := zd) (zt := zt) (od := od) C hf hw (lv_sub hl [0, 1, 2] rfl)
set_option maxRecDepth 100000 in
set_option maxHeartbeats 4000000 in
theorem kX0_blame_30 {l : Launch} {g : evG} {p : Program} {e : Env} {s : State} {m : MethodId} {args : Array Value} {below : List Frame} {meth : Method} {c : Code} {A : Nat → Prop} {zd : Nat → Nat} {zt : Nat → Nat} {od : Gp} (C : ctx g p s m args meth c RX0 cX0_blame 6 none A) {Tt : Gp} {Td : Gp} {x2 : Int32} {x4 : Int32} {x5 : Int32} {H : Heap} {locs : List Loc} {ls : Array Slot} (hf : fX0_blame_30 Tt Td x2 x4 x5 = some (od)) (hw : wl g A s.heap (gcD g zd Td ++ (gcT g zt Tt)) H locs) (hl : lv_has ls 6 [(0, .ref (zd 0)), (1, .ref (zt 0)), (2, .int x2), (4, .int x4), (5, .int x5)]) : W p l e (rmK 4 93) s m args below meth c H locs 0 0 (MQ below (Qv g A (gcD g zd od ++ (gcT g zt Tt))) args s 0 0 A) (F0 m 30 ls []) := by
  obtain ⟨hx, hb, hml, hown, hts, -⟩ := id C
  unfold fX0_blame_30 at hf
  refine lv_aload_n hx hb dX0_blame_30 rfl (lv_at hl 0 rfl) ?_
  refine lv_iconst (v := (0 : Int32)) hx hb dX0_blame_31 rfl ?_
  refine lv_iload_n hx hb dX0_blame_32 rfl (lv_at hl 2 rfl) ?_
  refine lv_aload_n hx hb dX0_blame_33 rfl (lv_at hl 1 rfl) ?_
  refine r_getN C hw 5 rfl cf_X9 3 (by decide) nq_12 (v := .int (Tt 0 3)) rfl dX0_blame_34 ?_
  obtain ⟨Td_1, hc2, hf⟩ := bd1_e hf
  refine r_callVv C hw (c_X0_addFault (zd := zd) hc2) md_X0_addFault [0, 1, 2, 3, 4] rfl rfl rfl q3_119 0 rfl cf_X0.1 ⟨Nat.le_of_ble_eq_true rfl, Nat.le_of_ble_eq_true rfl⟩ ⟨Nat.zero_le _, Nat.zero_le _⟩ hl.1 rfl rfl (Nat.le_of_ble_eq_true rfl) dX0_blame_37 (fun H locs hw => ?_)
  have hw : wl g A s.heap (gcD g zd Td_1 ++ (gcT g zt Tt)) H locs := hw
  exact kX0_blame_40 (zd := zd) (zt := zt) (od := od) C hf hw (lv_sub hl [0, 1, 2, 3, 4] rfl)
set_option maxRecDepth 100000 in
set_option maxHeartbeats 4000000 in
theorem c_X0_blame {l : Launch} {g : evG} {zd : Nat → Nat} {zt : Nat → Nat} {od : Gp}  {Td : Gp} {Tt : Gp} {x2 : Int32} {x3 : Int32} (hf : fX0_blame Td Tt x2 x3 = some (od)) : CTv l g yX0_blame (Cond.code yX0_blame cX0_blame 6 none) 4 93 [.ref (zd 0), .ref (zt 0), .int x2, .int x3] (gcD g zd Td ++ (gcT g zt Tt)) (gcD g zd od ++ (gcT g zt Tt)) := by
  refine ct_v rfl (Nat.le_of_ble_eq_true rfl) ?_
  intro p e s m args below meth c A ls C hw hl
  have C : ctx g p s m args meth c RX0 cX0_blame 6 none A := C
  have hl : lv_has ls 6 [(0, .ref (zd 0)), (1, .ref (zt 0)), (2, .int x2), (3, .int x3)] := hl
  obtain ⟨hx, hb, hml, hown, hts, -⟩ := id C
  unfold fX0_blame at hf
  refine lv_aload_n hx hb dX0_blame_0 rfl (lv_at hl 0 rfl) ?_
  refine lv_aload_n hx hb dX0_blame_1 rfl (lv_at hl 1 rfl) ?_
  refine lv_iconst (v := (0 : Int32)) hx hb dX0_blame_2 rfl ?_
  refine lv_iload_n hx hb dX0_blame_3 rfl (lv_at hl 2 rfl) ?_
  refine lv_iload_n hx hb dX0_blame_4 rfl (lv_at hl 3 rfl) ?_
  obtain ⟨r1, hc2, hf⟩ := bd1_e hf
  refine r_callVi0 C hw (c_X0_isToldOtherwise (zd := zd) (zt := zt) hc2) md_X0_isToldOtherwise [0, 1, 2, 3, 4, 5, 6, 7, 8, 9, 10] rfl rfl q3_115 0 rfl cf_X0.1 ⟨Nat.le_of_ble_eq_true rfl, Nat.le_of_ble_eq_true rfl⟩ ⟨Nat.zero_le _, Nat.zero_le _⟩ hl.1 rfl rfl (Nat.le_of_ble_eq_true rfl) dX0_blame_5 (fun H locs hw => ?_)
  refine lv_istore (lv' := [(4, .int r1), (0, .ref (zd 0)), (1, .ref (zt 0)), (2, .int x2), (3, .int x3)]) hx hb dX0_blame_8 hl (by decide) rfl (fun ls hl => ?_)
  refine lv_aload_n hx hb dX0_blame_10 rfl (lv_at hl 1 rfl) ?_
  refine lv_aload_n hx hb dX0_blame_11 rfl (lv_at hl 2 rfl) ?_
  refine lv_iconst (v := (1 : Int32)) hx hb dX0_blame_12 rfl ?_
  refine lv_iload_n hx hb dX0_blame_13 rfl (lv_at hl 3 rfl) ?_
  refine lv_iload_n hx hb dX0_blame_14 rfl (lv_at hl 4 rfl) ?_
  obtain ⟨r3, hc4, hf⟩ := bd1_e hf
  refine r_callVi0 C hw (c_X0_isToldOtherwise (zd := zd) (zt := zt) hc4) md_X0_isToldOtherwise [0, 1, 2, 3, 4, 5, 6, 7, 8, 9, 10] rfl rfl q3_115 0 rfl cf_X0.1 ⟨Nat.le_of_ble_eq_true rfl, Nat.le_of_ble_eq_true rfl⟩ ⟨Nat.zero_le _, Nat.zero_le _⟩ hl.1 rfl rfl (Nat.le_of_ble_eq_true rfl) dX0_blame_15 (fun H locs hw => ?_)
  refine lv_istore (lv' := [(5, .int r3), (4, .int r1), (0, .ref (zd 0)), (1, .ref (zt 0)), (2, .int x2), (3, .int x3)]) hx hb dX0_blame_18 hl (by decide) rfl (fun ls hl => ?_)
  refine lv_iload hx hb dX0_blame_20 (lv_at hl 1 rfl) ?_
  refine lv_if_ne (tgt := 30) hx hb dX0_blame_22 (by decide) (fun hc6 => ?_) (fun hc6 => ?_)
  · have hf := it_n hf hc6
    exact kX0_blame_30 (zd := zd) (zt := zt) (od := od) C hf hw (lv_sub hl [2, 3, 4, 1, 0] rfl)
  · have hf := it_p hf hc6
    refine lv_iload hx hb dX0_blame_25 (lv_at hl 0 rfl) ?_
    refine lv_if_ne (tgt := 40) hx hb dX0_blame_27 (by decide) (fun hc5 => ?_) (fun hc5 => ?_)
    · have hf := it_n hf hc5
      exact kX0_blame_40 (zd := zd) (zt := zt) (od := od) C hf hw (lv_sub hl [2, 3, 4, 1, 0] rfl)
    · have hf := it_p hf hc5
      exact kX0_blame_30 (zd := zd) (zt := zt) (od := od) C hf hw (lv_sub hl [2, 3, 4, 1, 0] rfl)
set_option maxRecDepth 100000 in
set_option maxHeartbeats 4000000 in
theorem kX0_makeBread_3 {l : Launch} {g : evG} {p : Program} {e : Env} {s : State} {m : MethodId} {args : Array Value} {below : List Frame} {meth : Method} {c : Code} {A : Nat → Prop} {zd : Nat → Nat} {zt : Nat → Nat} {od : Gp} (C : ctx g p s m args meth c RX0 cX0_makeBread 5 none A) {Tt : Gp} {rec3 : Gp → Int32 → Int32 → Int32 → Option (Gp)} (hr3 : ∀ (Td : Gp) (x2 : Int32) (x3 : Int32) (x4 : Int32) (H : Heap) (locs : List Loc) (ls : Array Slot), rec3 Td x2 x3 x4 = some (od) → wl g A s.heap (gcD g zd Td ++ (gcT g zt Tt)) H locs → lv_has ls 5 [(0, .ref (zd 0)), (1, .ref (zt 0)), (2, .int x2), (3, .int x3), (4, .int x4)] → W p l e (rmK 4 93) s m args below meth c H locs 0 0 (MQ below (Qv g A (gcD g zd od ++ (gcT g zt Tt))) args s 0 0 A) (F0 m 3 ls [])) {Td : Gp} {x2 : Int32} {x3 : Int32} {x4 : Int32} {H : Heap} {locs : List Loc} {ls : Array Slot} (hf : fX0_makeBread_3 Tt rec3 Td x2 x3 x4 = some (od)) (hw : wl g A s.heap (gcD g zd Td ++ (gcT g zt Tt)) H locs) (hl : lv_has ls 5 [(0, .ref (zd 0)), (1, .ref (zt 0)), (2, .int x2), (3, .int x3), (4, .int x4)]) : W p l e (rmK 4 93) s m args below meth c H locs 0 0 (MQ below (Qv g A (gcD g zd od ++ (gcT g zt Tt))) args s 0 0 A) (F0 m 3 ls []) := by
  obtain ⟨hx, hb, hml, hown, hts, -⟩ := id C
  unfold fX0_makeBread_3 at hf
  refine lv_iload hx hb dX0_makeBread_3 (lv_at hl 4 rfl) ?_
  refine lv_iconst (v := (2 : Int32)) hx hb dX0_makeBread_5 rfl ?_
  refine lv_icmp_ge (tgt := 41) hx hb dX0_makeBread_6 (by decide) (fun hc7 => ?_) (fun hc7 => ?_)
  · have hf := it_p hf hc7
    obtain rfl := so1 hf
    exact r_vret C hw dX0_makeBread_41
  · have hf := it_n hf hc7
    refine lv_aload_n hx hb dX0_makeBread_9 rfl (lv_at hl 0 rfl) ?_
    refine r_get C hw 0 rfl cf_X0 2 (by decide) q1_150 (v := .ref (zd 1)) rfl dX0_makeBread_10 ?_
    refine lv_iload hx hb dX0_makeBread_13 (lv_at hl 4 rfl) ?_
    refine lv_dup2_11 hx hb dX0_makeBread_15 rfl rfl ?_
    obtain ⟨hi1, hf⟩ := it_g hf
    refine r_iald C hw 1 (f := (Td 1)) rfl hi1 dX0_makeBread_16 ?_
    refine lv_aload_n hx hb dX0_makeBread_17 rfl (lv_at hl 1 rfl) ?_
    refine lv_iload hx hb dX0_makeBread_18 (lv_at hl 4 rfl) ?_
    refine lv_iload_n hx hb dX0_makeBread_20 rfl (lv_at hl 2 rfl) ?_
    refine lv_aload_n hx hb dX0_makeBread_21 rfl (lv_at hl 0 rfl) ?_
    refine lv_aload_n hx hb dX0_makeBread_22 rfl (lv_at hl 1 rfl) ?_
    refine lv_iload hx hb dX0_makeBread_23 (lv_at hl 4 rfl) ?_
    refine lv_iload_n hx hb dX0_makeBread_25 rfl (lv_at hl 2 rfl) ?_
    refine lv_iload_n hx hb dX0_makeBread_26 rfl (lv_at hl 3 rfl) ?_
    obtain ⟨r2, hc3, hf⟩ := bd1_e hf
    refine r_callVi0 C hw (c_X0_workOf (zd := zd) (zt := zt) hc3) md_X0_workOf [0, 1, 2, 3, 4, 5, 6, 7, 8, 9, 10] rfl rfl q3_76 0 rfl cf_X0.1 ⟨Nat.le_of_ble_eq_true rfl, Nat.le_of_ble_eq_true rfl⟩ ⟨Nat.zero_le _, Nat.zero_le _⟩ hl.1 rfl rfl (Nat.le_of_ble_eq_true rfl) dX0_makeBread_27 (fun H locs hw => ?_)
    obtain ⟨r4, hc5, hf⟩ := bd1_e hf
    refine r_callVi0 C hw (c_X9_breadMade (zt := zt) hc5) md_X9_breadMade [5, 6, 7, 8, 9, 10] rfl rfl q3_99 5 rfl cf_X9.1 ⟨Nat.le_of_ble_eq_true rfl, Nat.le_of_ble_eq_true rfl⟩ ⟨Nat.zero_le _, Nat.zero_le _⟩ hl.1 rfl rfl (Nat.le_of_ble_eq_true rfl) dX0_makeBread_30 (fun H locs hw => ?_)
    refine lv_iadd hx hb dX0_makeBread_33 ?_
    obtain ⟨hi6, hf⟩ := it_g hf
    refine r_iast C hw 1 (f := (Td 1)) rfl hi6 (ws' := (gcD g zd (u2 Td 1 x4.toNatClampNeg ((Td 1 x4.toNatClampNeg) + r4)) ++ (gcT g zt Tt))) (set_l (Nat.le_of_ble_eq_true rfl) gcD_a1) dX0_makeBread_34 (fun H locs hw => ?_)
    refine lv_iinc (v := (x4 + (1 : Int32))) (lv' := [(4, .int (x4 + (1 : Int32))), (0, .ref (zd 0)), (1, .ref (zt 0)), (2, .int x2), (3, .int x3)]) hx hb dX0_makeBread_35 hl (k := 4) rfl rfl (by decide) rfl (fun ls hl => ?_)
    refine lv_goto (tgt := 3) hx hb dX0_makeBread_38 (by decide) ?_
    exact hr3 _ _ _ _ _ _ _ hf hw (lv_sub hl [1, 2, 3, 4, 0] rfl)
set_option maxRecDepth 100000 in
set_option maxHeartbeats 4000000 in
theorem klX0_makeBread_3 {l : Launch} {g : evG} {p : Program} {e : Env} {s : State} {m : MethodId} {args : Array Value} {below : List Frame} {meth : Method} {c : Code} {A : Nat → Prop} {zd : Nat → Nat} {zt : Nat → Nat} {od : Gp} (C : ctx g p s m args meth c RX0 cX0_makeBread 5 none A) {Tt : Gp} : ∀ (n : Nat) (Td : Gp) (x2 : Int32) (x3 : Int32) (x4 : Int32) (H : Heap) (locs : List Loc) (ls : Array Slot), lX0_makeBread_3 Tt n Td x2 x3 x4 = some (od) → wl g A s.heap (gcD g zd Td ++ (gcT g zt Tt)) H locs → lv_has ls 5 [(0, .ref (zd 0)), (1, .ref (zt 0)), (2, .int x2), (3, .int x3), (4, .int x4)] → W p l e (rmK 4 93) s m args below meth c H locs 0 0 (MQ below (Qv g A (gcD g zd od ++ (gcT g zt Tt))) args s 0 0 A) (F0 m 3 ls []) := by
  intro n
  induction n with
  | zero => intro _ _ _ _ _ _ _ hf; exact no_f hf
  | succ n ih => intro _ _ _ _ _ _ _ hf hw hl; exact kX0_makeBread_3 (zd := zd) (zt := zt) (od := od) C (rec3 := lX0_makeBread_3 Tt n) ih hf hw hl
set_option maxRecDepth 100000 in
set_option maxHeartbeats 4000000 in
theorem c_X0_makeBread {l : Launch} {g : evG} {zd : Nat → Nat} {zt : Nat → Nat} {od : Gp}  {Td : Gp} {Tt : Gp} {x2 : Int32} {x3 : Int32} (hf : fX0_makeBread Td Tt x2 x3 = some (od)) : CTv l g yX0_makeBread (Cond.code yX0_makeBread cX0_makeBread 5 none) 4 93 [.ref (zd 0), .ref (zt 0), .int x2, .int x3] (gcD g zd Td ++ (gcT g zt Tt)) (gcD g zd od ++ (gcT g zt Tt)) := by
  refine ct_v rfl (Nat.le_of_ble_eq_true rfl) ?_
  intro p e s m args below meth c A ls C hw hl
  have C : ctx g p s m args meth c RX0 cX0_makeBread 5 none A := C
  have hl : lv_has ls 5 [(0, .ref (zd 0)), (1, .ref (zt 0)), (2, .int x2), (3, .int x3)] := hl
  obtain ⟨hx, hb, hml, hown, hts, -⟩ := id C
  unfold fX0_makeBread at hf
  refine lv_iconst (v := (0 : Int32)) hx hb dX0_makeBread_0 rfl ?_
  refine lv_istore (lv' := [(4, .int (0 : Int32)), (0, .ref (zd 0)), (1, .ref (zt 0)), (2, .int x2), (3, .int x3)]) hx hb dX0_makeBread_1 hl (by decide) rfl (fun ls hl => ?_)
  exact klX0_makeBread_3 (zd := zd) (zt := zt) (od := od) C fu _ _ _ _ _ _ _ hf hw (lv_sub hl [1, 2, 3, 4, 0] rfl)
set_option maxRecDepth 100000 in
set_option maxHeartbeats 4000000 in
theorem kX0_passOne_58 {l : Launch} {g : evG} {p : Program} {e : Env} {s : State} {m : MethodId} {args : Array Value} {below : List Frame} {meth : Method} {c : Code} {A : Nat → Prop} {zd : Nat → Nat} {zt : Nat → Nat} {od : Gp} (C : ctx g p s m args meth c RX0 cX0_passOne 4 none A) {Tt : Gp} {rec58 : Gp → Int32 → Option (Gp)} (hr58 : ∀ (Td : Gp) (x2 : Int32) (H : Heap) (locs : List Loc) (ls : Array Slot), rec58 Td x2 = some (od) → wl g A s.heap (gcD g zd Td ++ (gcT g zt Tt)) H locs → lv_has ls 4 [(0, .ref (zd 0)), (1, .ref (zt 0)), (2, .int x2)] → W p l e (rmK 5 118) s m args below meth c H locs 0 0 (MQ below (Qv g A (gcD g zd od ++ (gcT g zt Tt))) args s 0 0 A) (F0 m 58 ls [])) {Td : Gp} {x2 : Int32} {H : Heap} {locs : List Loc} {ls : Array Slot} (hf : fX0_passOne_58 Tt rec58 Td x2 = some (od)) (hw : wl g A s.heap (gcD g zd Td ++ (gcT g zt Tt)) H locs) (hl : lv_has ls 4 [(0, .ref (zd 0)), (1, .ref (zt 0)), (2, .int x2)]) : W p l e (rmK 5 118) s m args below meth c H locs 0 0 (MQ below (Qv g A (gcD g zd od ++ (gcT g zt Tt))) args s 0 0 A) (F0 m 58 ls []) := by
  obtain ⟨hx, hb, hml, hown, hts, -⟩ := id C
  unfold fX0_passOne_58 at hf
  refine lv_iload_n hx hb dX0_passOne_58 rfl (lv_at hl 2 rfl) ?_
  refine lv_iconst (v := (2 : Int32)) hx hb dX0_passOne_59 rfl ?_
  refine lv_icmp_ge (tgt := 87) hx hb dX0_passOne_60 (by decide) (fun hc3 => ?_) (fun hc3 => ?_)
  · have hf := it_p hf hc3
    refine lv_aload_n hx hb dX0_passOne_87 rfl (lv_at hl 0 rfl) ?_
    refine r_get C hw 0 rfl cf_X0 5 (by decide) q1_154 (v := .ref (zd 4)) rfl dX0_passOne_88 ?_
    refine lv_iconst (v := (-1 : Int32)) hx hb dX0_passOne_91 rfl ?_
    refine r_callSv C hw (c_fill (f := (Td 4)) (n := 48) (a := zd 4) (v := (-1 : Int32)) (by decide)) md_J7_fill_53178 [4] rfl rfl rfl q1_146 ⟨Nat.le_of_ble_eq_true rfl, Nat.le_of_ble_eq_true rfl⟩ ⟨Nat.zero_le _, Nat.zero_le _⟩ hl.1 rfl rfl (Nat.le_of_ble_eq_true rfl) dX0_passOne_92 (fun H locs hw => ?_)
    have hw : wl g A s.heap (gcD g zd (uc Td 4 (ev_fill (Td 4) 48 (-1 : Int32))) ++ (gcT g zt Tt)) H locs := wl.eq hw (set_l (Nat.le_of_ble_eq_true rfl) gcD_u4)
    refine lv_aload_n hx hb dX0_passOne_95 rfl (lv_at hl 0 rfl) ?_
    refine lv_dup hx hb dX0_passOne_96 rfl ?_
    refine r_get C hw 0 rfl cf_X0 0 (by decide) q1_147 (v := .int (Td 0 0)) rfl dX0_passOne_97 ?_
    refine lv_iconst (v := (1 : Int32)) hx hb dX0_passOne_100 rfl ?_
    refine lv_iadd hx hb dX0_passOne_101 ?_
    refine r_puti C hw 0 rfl cf_X0 0 (by decide) q1_147 rfl rfl (Nat.le_of_ble_eq_true rfl) (ws' := (gcD g zd (u2 (uc Td 4 (ev_fill (Td 4) 48 (-1 : Int32))) 0 0 ((Td 0 0) + (1 : Int32))) ++ (gcT g zt Tt))) (set_l (Nat.le_of_ble_eq_true rfl) gcD_p0) dX0_passOne_102 (fun H locs hw => ?_)
    obtain rfl := so1 hf
    exact r_vret C hw dX0_passOne_105
  · have hf := it_n hf hc3
    refine lv_aload_n hx hb dX0_passOne_63 rfl (lv_at hl 0 rfl) ?_
    refine r_get C hw 0 rfl cf_X0 2 (by decide) q1_150 (v := .ref (zd 1)) rfl dX0_passOne_64 ?_
    refine lv_iload_n hx hb dX0_passOne_67 rfl (lv_at hl 2 rfl) ?_
    refine lv_dup2_11 hx hb dX0_passOne_68 rfl rfl ?_
    obtain ⟨hi1, hf⟩ := it_g hf
    refine r_iald C hw 1 (f := (Td 1)) rfl hi1 dX0_passOne_69 ?_
    refine lv_aload_n hx hb dX0_passOne_70 rfl (lv_at hl 1 rfl) ?_
    refine r_getN C hw 5 rfl cf_X9 2 (by decide) nq_9 (v := .int (Tt 0 2)) rfl dX0_passOne_71 ?_
    refine lv_aload_n hx hb dX0_passOne_74 rfl (lv_at hl 1 rfl) ?_
    refine r_getN C hw 5 rfl cf_X9 0 (by decide) nq_2 (v := .int (Tt 0 0)) rfl dX0_passOne_75 ?_
    refine lv_imul hx hb dX0_passOne_78 ?_
    refine lv_isub hx hb dX0_passOne_79 ?_
    obtain ⟨hi2, hf⟩ := it_g hf
    refine r_iast C hw 1 (f := (Td 1)) rfl hi2 (ws' := (gcD g zd (u2 Td 1 x2.toNatClampNeg ((Td 1 x2.toNatClampNeg) - ((Tt 0 2) * (Tt 0 0)))) ++ (gcT g zt Tt))) (set_l (Nat.le_of_ble_eq_true rfl) gcD_a1) dX0_passOne_80 (fun H locs hw => ?_)
    refine lv_iinc (v := (x2 + (1 : Int32))) (lv' := [(2, .int (x2 + (1 : Int32))), (0, .ref (zd 0)), (1, .ref (zt 0))]) hx hb dX0_passOne_81 hl (k := 2) rfl rfl (by decide) rfl (fun ls hl => ?_)
    refine lv_goto (tgt := 58) hx hb dX0_passOne_84 (by decide) ?_
    exact hr58 _ _ _ _ _ hf hw (lv_sub hl [1, 2, 0] rfl)
set_option maxRecDepth 100000 in
set_option maxHeartbeats 4000000 in
theorem klX0_passOne_58 {l : Launch} {g : evG} {p : Program} {e : Env} {s : State} {m : MethodId} {args : Array Value} {below : List Frame} {meth : Method} {c : Code} {A : Nat → Prop} {zd : Nat → Nat} {zt : Nat → Nat} {od : Gp} (C : ctx g p s m args meth c RX0 cX0_passOne 4 none A) {Tt : Gp} : ∀ (n : Nat) (Td : Gp) (x2 : Int32) (H : Heap) (locs : List Loc) (ls : Array Slot), lX0_passOne_58 Tt n Td x2 = some (od) → wl g A s.heap (gcD g zd Td ++ (gcT g zt Tt)) H locs → lv_has ls 4 [(0, .ref (zd 0)), (1, .ref (zt 0)), (2, .int x2)] → W p l e (rmK 5 118) s m args below meth c H locs 0 0 (MQ below (Qv g A (gcD g zd od ++ (gcT g zt Tt))) args s 0 0 A) (F0 m 58 ls []) := by
  intro n
  induction n with
  | zero => intro _ _ _ _ _ hf; exact no_f hf
  | succ n ih => intro _ _ _ _ _ hf hw hl; exact kX0_passOne_58 (zd := zd) (zt := zt) (od := od) C (rec58 := lX0_passOne_58 Tt n) ih hf hw hl
set_option maxRecDepth 100000 in
set_option maxHeartbeats 4000000 in
theorem kX0_passOne_12 {l : Launch} {g : evG} {p : Program} {e : Env} {s : State} {m : MethodId} {args : Array Value} {below : List Frame} {meth : Method} {c : Code} {A : Nat → Prop} {zd : Nat → Nat} {zt : Nat → Nat} {od : Gp} (C : ctx g p s m args meth c RX0 cX0_passOne 4 none A) {Tt : Gp} {rec2 : Gp → Int32 → Option (Gp)} {rec12 : Gp → Int32 → Int32 → Option (Gp)} (hr2 : ∀ (Td : Gp) (x2 : Int32) (H : Heap) (locs : List Loc) (ls : Array Slot), rec2 Td x2 = some (od) → wl g A s.heap (gcD g zd Td ++ (gcT g zt Tt)) H locs → lv_has ls 4 [(0, .ref (zd 0)), (1, .ref (zt 0)), (2, .int x2)] → W p l e (rmK 5 118) s m args below meth c H locs 0 0 (MQ below (Qv g A (gcD g zd od ++ (gcT g zt Tt))) args s 0 0 A) (F0 m 2 ls [])) (hr12 : ∀ (Td : Gp) (x2 : Int32) (x3 : Int32) (H : Heap) (locs : List Loc) (ls : Array Slot), rec12 Td x2 x3 = some (od) → wl g A s.heap (gcD g zd Td ++ (gcT g zt Tt)) H locs → lv_has ls 4 [(0, .ref (zd 0)), (1, .ref (zt 0)), (2, .int x2), (3, .int x3)] → W p l e (rmK 5 118) s m args below meth c H locs 0 0 (MQ below (Qv g A (gcD g zd od ++ (gcT g zt Tt))) args s 0 0 A) (F0 m 12 ls [])) {Td : Gp} {x2 : Int32} {x3 : Int32} {H : Heap} {locs : List Loc} {ls : Array Slot} (hf : fX0_passOne_12 Tt rec2 rec12 Td x2 x3 = some (od)) (hw : wl g A s.heap (gcD g zd Td ++ (gcT g zt Tt)) H locs) (hl : lv_has ls 4 [(0, .ref (zd 0)), (1, .ref (zt 0)), (2, .int x2), (3, .int x3)]) : W p l e (rmK 5 118) s m args below meth c H locs 0 0 (MQ below (Qv g A (gcD g zd od ++ (gcT g zt Tt))) args s 0 0 A) (F0 m 12 ls []) := by
  obtain ⟨hx, hb, hml, hown, hts, -⟩ := id C
  unfold fX0_passOne_12 at hf
  refine lv_iload_n hx hb dX0_passOne_12 rfl (lv_at hl 3 rfl) ?_
  refine lv_aload_n hx hb dX0_passOne_13 rfl (lv_at hl 1 rfl) ?_
  refine r_getN C hw 5 rfl cf_X9 1 (by decide) nq_7 (v := .int (Tt 0 1)) rfl dX0_passOne_14 ?_
  refine lv_icmp_ge (tgt := 50) hx hb dX0_passOne_17 (by decide) (fun hc8 => ?_) (fun hc8 => ?_)
  · have hf := it_p hf hc8
    refine lv_iinc (v := (x2 + (1 : Int32))) (lv' := [(2, .int (x2 + (1 : Int32))), (0, .ref (zd 0)), (1, .ref (zt 0)), (3, .int x3)]) hx hb dX0_passOne_50 hl (k := 2) rfl rfl (by decide) rfl (fun ls hl => ?_)
    refine lv_goto (tgt := 2) hx hb dX0_passOne_53 (by decide) ?_
    exact hr2 _ _ _ _ _ hf hw (lv_sub hl [1, 2, 0] rfl)
  · have hf := it_n hf hc8
    refine lv_aload_n hx hb dX0_passOne_20 rfl (lv_at hl 0 rfl) ?_
    refine lv_aload_n hx hb dX0_passOne_21 rfl (lv_at hl 1 rfl) ?_
    refine lv_iload_n hx hb dX0_passOne_22 rfl (lv_at hl 2 rfl) ?_
    refine lv_iload_n hx hb dX0_passOne_23 rfl (lv_at hl 3 rfl) ?_
    obtain ⟨Td_1, hc2, hf⟩ := bd1_e hf
    refine r_callVvF C hw (c_X0_makeBread (zd := zd) (zt := zt) hc2) md_X0_makeBread [0, 1, 2, 3, 4, 5, 6, 7, 8, 9, 10] rfl rfl rfl rfl q3_72 0 rfl cf_X0.1 ⟨Nat.le_of_ble_eq_true rfl, Nat.le_of_ble_eq_true rfl⟩ ⟨Nat.zero_le _, Nat.zero_le _⟩ hl.1 rfl rfl (Nat.le_of_ble_eq_true rfl) dX0_passOne_24 (fun H locs hw => ?_)
    have hw : wl g A s.heap (gcD g zd Td_1 ++ (gcT g zt Tt)) H locs := hw
    refine lv_aload_n hx hb dX0_passOne_27 rfl (lv_at hl 0 rfl) ?_
    refine lv_aload_n hx hb dX0_passOne_28 rfl (lv_at hl 1 rfl) ?_
    refine lv_iload_n hx hb dX0_passOne_29 rfl (lv_at hl 2 rfl) ?_
    refine lv_iload_n hx hb dX0_passOne_30 rfl (lv_at hl 3 rfl) ?_
    obtain ⟨r3, hc4, hf⟩ := bd1_e hf
    refine r_callVi0 C hw (c_X0_isBreach (zd := zd) (zt := zt) hc4) md_X0_isBreach [0, 1, 2, 3, 4, 5, 6, 7, 8, 9, 10] rfl rfl q3_103 0 rfl cf_X0.1 ⟨Nat.le_of_ble_eq_true rfl, Nat.le_of_ble_eq_true rfl⟩ ⟨Nat.zero_le _, Nat.zero_le _⟩ hl.1 rfl rfl (Nat.le_of_ble_eq_true rfl) dX0_passOne_31 (fun H locs hw => ?_)
    refine lv_if_eq (tgt := 44) hx hb dX0_passOne_34 (by decide) (fun hc7 => ?_) (fun hc7 => ?_)
    · have hf := it_p hf hc7
      refine lv_iinc (v := (x3 + (1 : Int32))) (lv' := [(3, .int (x3 + (1 : Int32))), (0, .ref (zd 0)), (1, .ref (zt 0)), (2, .int x2)]) hx hb dX0_passOne_44 hl (k := 3) rfl rfl (by decide) rfl (fun ls hl => ?_)
      refine lv_goto (tgt := 12) hx hb dX0_passOne_47 (by decide) ?_
      exact hr12 _ _ _ _ _ _ hf hw (lv_sub hl [1, 2, 3, 0] rfl)
    · have hf := it_n hf hc7
      refine lv_aload_n hx hb dX0_passOne_37 rfl (lv_at hl 0 rfl) ?_
      refine lv_aload_n hx hb dX0_passOne_38 rfl (lv_at hl 1 rfl) ?_
      refine lv_iload_n hx hb dX0_passOne_39 rfl (lv_at hl 2 rfl) ?_
      refine lv_iload_n hx hb dX0_passOne_40 rfl (lv_at hl 3 rfl) ?_
      obtain ⟨Td_5, hc6, hf⟩ := bd1_e hf
      refine r_callVvF C hw (c_X0_blame (zd := zd) (zt := zt) hc6) md_X0_blame [0, 1, 2, 3, 4, 5, 6, 7, 8, 9, 10] rfl rfl rfl rfl q3_111 0 rfl cf_X0.1 ⟨Nat.le_of_ble_eq_true rfl, Nat.le_of_ble_eq_true rfl⟩ ⟨Nat.zero_le _, Nat.zero_le _⟩ hl.1 rfl rfl (Nat.le_of_ble_eq_true rfl) dX0_passOne_41 (fun H locs hw => ?_)
      have hw : wl g A s.heap (gcD g zd Td_5 ++ (gcT g zt Tt)) H locs := hw
      refine lv_iinc (v := (x3 + (1 : Int32))) (lv' := [(3, .int (x3 + (1 : Int32))), (0, .ref (zd 0)), (1, .ref (zt 0)), (2, .int x2)]) hx hb dX0_passOne_44 hl (k := 3) rfl rfl (by decide) rfl (fun ls hl => ?_)
      refine lv_goto (tgt := 12) hx hb dX0_passOne_47 (by decide) ?_
      exact hr12 _ _ _ _ _ _ hf hw (lv_sub hl [1, 2, 3, 0] rfl)
set_option maxRecDepth 100000 in
set_option maxHeartbeats 4000000 in
theorem klX0_passOne_12 {l : Launch} {g : evG} {p : Program} {e : Env} {s : State} {m : MethodId} {args : Array Value} {below : List Frame} {meth : Method} {c : Code} {A : Nat → Prop} {zd : Nat → Nat} {zt : Nat → Nat} {od : Gp} (C : ctx g p s m args meth c RX0 cX0_passOne 4 none A) {Tt : Gp} {rec2 : Gp → Int32 → Option (Gp)} (hr2 : ∀ (Td : Gp) (x2 : Int32) (H : Heap) (locs : List Loc) (ls : Array Slot), rec2 Td x2 = some (od) → wl g A s.heap (gcD g zd Td ++ (gcT g zt Tt)) H locs → lv_has ls 4 [(0, .ref (zd 0)), (1, .ref (zt 0)), (2, .int x2)] → W p l e (rmK 5 118) s m args below meth c H locs 0 0 (MQ below (Qv g A (gcD g zd od ++ (gcT g zt Tt))) args s 0 0 A) (F0 m 2 ls [])) : ∀ (n : Nat) (Td : Gp) (x2 : Int32) (x3 : Int32) (H : Heap) (locs : List Loc) (ls : Array Slot), lX0_passOne_12 Tt rec2 n Td x2 x3 = some (od) → wl g A s.heap (gcD g zd Td ++ (gcT g zt Tt)) H locs → lv_has ls 4 [(0, .ref (zd 0)), (1, .ref (zt 0)), (2, .int x2), (3, .int x3)] → W p l e (rmK 5 118) s m args below meth c H locs 0 0 (MQ below (Qv g A (gcD g zd od ++ (gcT g zt Tt))) args s 0 0 A) (F0 m 12 ls []) := by
  intro n
  induction n with
  | zero => intro _ _ _ _ _ _ hf; exact no_f hf
  | succ n ih => intro _ _ _ _ _ _ hf hw hl; exact kX0_passOne_12 (zd := zd) (zt := zt) (od := od) C hr2 (rec12 := lX0_passOne_12 Tt rec2 n) ih hf hw hl
set_option maxRecDepth 100000 in
set_option maxHeartbeats 4000000 in
theorem kX0_passOne_2 {l : Launch} {g : evG} {p : Program} {e : Env} {s : State} {m : MethodId} {args : Array Value} {below : List Frame} {meth : Method} {c : Code} {A : Nat → Prop} {zd : Nat → Nat} {zt : Nat → Nat} {od : Gp} (C : ctx g p s m args meth c RX0 cX0_passOne 4 none A) {Tt : Gp} {rec2 : Gp → Int32 → Option (Gp)} (hr2 : ∀ (Td : Gp) (x2 : Int32) (H : Heap) (locs : List Loc) (ls : Array Slot), rec2 Td x2 = some (od) → wl g A s.heap (gcD g zd Td ++ (gcT g zt Tt)) H locs → lv_has ls 4 [(0, .ref (zd 0)), (1, .ref (zt 0)), (2, .int x2)] → W p l e (rmK 5 118) s m args below meth c H locs 0 0 (MQ below (Qv g A (gcD g zd od ++ (gcT g zt Tt))) args s 0 0 A) (F0 m 2 ls [])) {Td : Gp} {x2 : Int32} {H : Heap} {locs : List Loc} {ls : Array Slot} (hf : fX0_passOne_2 Tt rec2 Td x2 = some (od)) (hw : wl g A s.heap (gcD g zd Td ++ (gcT g zt Tt)) H locs) (hl : lv_has ls 4 [(0, .ref (zd 0)), (1, .ref (zt 0)), (2, .int x2)]) : W p l e (rmK 5 118) s m args below meth c H locs 0 0 (MQ below (Qv g A (gcD g zd od ++ (gcT g zt Tt))) args s 0 0 A) (F0 m 2 ls []) := by
  obtain ⟨hx, hb, hml, hown, hts, -⟩ := id C
  unfold fX0_passOne_2 at hf
  refine lv_iload_n hx hb dX0_passOne_2 rfl (lv_at hl 2 rfl) ?_
  refine lv_aload_n hx hb dX0_passOne_3 rfl (lv_at hl 1 rfl) ?_
  refine r_getN C hw 5 rfl cf_X9 0 (by decide) nq_2 (v := .int (Tt 0 0)) rfl dX0_passOne_4 ?_
  refine lv_icmp_ge (tgt := 56) hx hb dX0_passOne_7 (by decide) (fun hc1 => ?_) (fun hc1 => ?_)
  · have hf := it_p hf hc1
    refine lv_iconst (v := (0 : Int32)) hx hb dX0_passOne_56 rfl ?_
    refine lv_istore_n (lv' := [(2, .int (0 : Int32)), (0, .ref (zd 0)), (1, .ref (zt 0))]) hx hb dX0_passOne_57 rfl hl (by decide) rfl (fun ls hl => ?_)
    exact klX0_passOne_58 (zd := zd) (zt := zt) (od := od) C fu _ _ _ _ _ hf hw (lv_sub hl [1, 2, 0] rfl)
  · have hf := it_n hf hc1
    refine lv_iconst (v := (0 : Int32)) hx hb dX0_passOne_10 rfl ?_
    refine lv_istore_n (lv' := [(3, .int (0 : Int32)), (0, .ref (zd 0)), (1, .ref (zt 0)), (2, .int x2)]) hx hb dX0_passOne_11 rfl hl (by decide) rfl (fun ls hl => ?_)
    exact klX0_passOne_12 (zd := zd) (zt := zt) (od := od) C hr2 fu _ _ _ _ _ _ hf hw (lv_sub hl [1, 2, 3, 0] rfl)
set_option maxRecDepth 100000 in
set_option maxHeartbeats 4000000 in
theorem klX0_passOne_2 {l : Launch} {g : evG} {p : Program} {e : Env} {s : State} {m : MethodId} {args : Array Value} {below : List Frame} {meth : Method} {c : Code} {A : Nat → Prop} {zd : Nat → Nat} {zt : Nat → Nat} {od : Gp} (C : ctx g p s m args meth c RX0 cX0_passOne 4 none A) {Tt : Gp} : ∀ (n : Nat) (Td : Gp) (x2 : Int32) (H : Heap) (locs : List Loc) (ls : Array Slot), lX0_passOne_2 Tt n Td x2 = some (od) → wl g A s.heap (gcD g zd Td ++ (gcT g zt Tt)) H locs → lv_has ls 4 [(0, .ref (zd 0)), (1, .ref (zt 0)), (2, .int x2)] → W p l e (rmK 5 118) s m args below meth c H locs 0 0 (MQ below (Qv g A (gcD g zd od ++ (gcT g zt Tt))) args s 0 0 A) (F0 m 2 ls []) := by
  intro n
  induction n with
  | zero => intro _ _ _ _ _ hf; exact no_f hf
  | succ n ih => intro _ _ _ _ _ hf hw hl; exact kX0_passOne_2 (zd := zd) (zt := zt) (od := od) C (rec2 := lX0_passOne_2 Tt n) ih hf hw hl
set_option maxRecDepth 100000 in
set_option maxHeartbeats 4000000 in
theorem c_X0_passOne {l : Launch} {g : evG} {zd : Nat → Nat} {zt : Nat → Nat} {od : Gp}  {Td : Gp} {Tt : Gp} (hf : fX0_passOne Td Tt = some (od)) : CTv l g yX0_passOne (Cond.code yX0_passOne cX0_passOne 4 none) 5 118 [.ref (zd 0), .ref (zt 0)] (gcD g zd Td ++ (gcT g zt Tt)) (gcD g zd od ++ (gcT g zt Tt)) := by
  refine ct_v rfl (Nat.le_of_ble_eq_true rfl) ?_
  intro p e s m args below meth c A ls C hw hl
  have C : ctx g p s m args meth c RX0 cX0_passOne 4 none A := C
  have hl : lv_has ls 4 [(0, .ref (zd 0)), (1, .ref (zt 0))] := hl
  obtain ⟨hx, hb, hml, hown, hts, -⟩ := id C
  unfold fX0_passOne at hf
  refine lv_iconst (v := (0 : Int32)) hx hb dX0_passOne_0 rfl ?_
  refine lv_istore_n (lv' := [(2, .int (0 : Int32)), (0, .ref (zd 0)), (1, .ref (zt 0))]) hx hb dX0_passOne_1 rfl hl (by decide) rfl (fun ls hl => ?_)
  exact klX0_passOne_2 (zd := zd) (zt := zt) (od := od) C fu _ _ _ _ _ hf hw (lv_sub hl [1, 2, 0] rfl)
