set_option maxRecDepth 100000 in
set_option maxHeartbeats 4000000 in
theorem kX8_kindOfSign_21 {l : Launch} {g : evG} {p : Program} {e : Env} {s : State} {m : MethodId} {args : Array Value} {below : List Frame} {meth : Method} {c : Code} {A : Nat → Prop}  {r : Int32} (C : ctx g p s m args meth c RX8 cX8_kindOfSign 1 (some .int) A) {x0 : Int32} {H : Heap} {locs : List Loc} {ls : Array Slot} (hf : fX8_kindOfSign_21 x0 = some (r)) (hw : wl g A s.heap ([] : va_W) H locs) (hl : lv_has ls 1 [(0, .int x0)]) : W p l e (rmK 0 0) s m args below meth c H locs 0 0 (MQ below (Qi g A ([] : va_W) r) args s 0 0 A) (F0 m 21 ls []) := by
  obtain ⟨hx, hb, hml, hown, hts, -⟩ := id C
  unfold fX8_kindOfSign_21 at hf
  refine lv_iload_n hx hb dX8_kindOfSign_21 rfl (lv_at hl 0 rfl) ?_
  refine lv_bipush (v := (48 : Int32)) hx hb dX8_kindOfSign_22 rfl ?_
  refine lv_icmp_lt (tgt := 35) hx hb dX8_kindOfSign_24 (by decide) (fun hc2 => ?_) (fun hc2 => ?_)
  · have hf := it_p hf hc2
    refine lv_iconst (v := (3 : Int32)) hx hb dX8_kindOfSign_35 rfl ?_
    obtain rfl := so1 hf
    exact r_iret C hw rfl dX8_kindOfSign_36
  · have hf := it_n hf hc2
    refine lv_iload_n hx hb dX8_kindOfSign_27 rfl (lv_at hl 0 rfl) ?_
    refine lv_bipush (v := (57 : Int32)) hx hb dX8_kindOfSign_28 rfl ?_
    refine lv_icmp_gt (tgt := 35) hx hb dX8_kindOfSign_30 (by decide) (fun hc1 => ?_) (fun hc1 => ?_)
    · have hf := it_p hf hc1
      refine lv_iconst (v := (3 : Int32)) hx hb dX8_kindOfSign_35 rfl ?_
      obtain rfl := so1 hf
      exact r_iret C hw rfl dX8_kindOfSign_36
    · have hf := it_n hf hc1
      refine lv_iconst (v := (2 : Int32)) hx hb dX8_kindOfSign_33 rfl ?_
      obtain rfl := so1 hf
      exact r_iret C hw rfl dX8_kindOfSign_34
set_option maxRecDepth 100000 in
set_option maxHeartbeats 4000000 in
theorem c_X8_kindOfSign {l : Launch} {g : evG}  {r : Int32}  {x0 : Int32} (hf : fX8_kindOfSign x0 = some (r)) : CTi l g yX8_kindOfSign (Cond.code yX8_kindOfSign cX8_kindOfSign 1 (some .int)) 0 0 [.int x0] ([] : va_W) ([] : va_W) r := by
  refine ct_i rfl (Nat.le_of_ble_eq_true rfl) ?_
  intro p e s m args below meth c A ls C hw hl
  have C : ctx g p s m args meth c RX8 cX8_kindOfSign 1 (some .int) A := C
  have hl : lv_has ls 1 [(0, .int x0)] := hl
  obtain ⟨hx, hb, hml, hown, hts, -⟩ := id C
  unfold fX8_kindOfSign at hf
  refine lv_iload_n hx hb dX8_kindOfSign_0 rfl (lv_at hl 0 rfl) ?_
  refine lv_iconst (v := (-1 : Int32)) hx hb dX8_kindOfSign_1 rfl ?_
  refine lv_icmp_ne (tgt := 7) hx hb dX8_kindOfSign_2 (by decide) (fun hc3 => ?_) (fun hc3 => ?_)
  · have hf := it_n hf hc3
    refine lv_iload_n hx hb dX8_kindOfSign_7 rfl (lv_at hl 0 rfl) ?_
    refine lv_bipush (v := (97 : Int32)) hx hb dX8_kindOfSign_8 rfl ?_
    refine lv_icmp_lt (tgt := 21) hx hb dX8_kindOfSign_10 (by decide) (fun hc2 => ?_) (fun hc2 => ?_)
    · have hf := it_p hf hc2
      exact kX8_kindOfSign_21 (r := r) C hf hw (lv_sub hl [0] rfl)
    · have hf := it_n hf hc2
      refine lv_iload_n hx hb dX8_kindOfSign_13 rfl (lv_at hl 0 rfl) ?_
      refine lv_bipush (v := (122 : Int32)) hx hb dX8_kindOfSign_14 rfl ?_
      refine lv_icmp_gt (tgt := 21) hx hb dX8_kindOfSign_16 (by decide) (fun hc1 => ?_) (fun hc1 => ?_)
      · have hf := it_p hf hc1
        exact kX8_kindOfSign_21 (r := r) C hf hw (lv_sub hl [0] rfl)
      · have hf := it_n hf hc1
        refine lv_iconst (v := (1 : Int32)) hx hb dX8_kindOfSign_19 rfl ?_
        obtain rfl := so1 hf
        exact r_iret C hw rfl dX8_kindOfSign_20
  · have hf := it_p hf hc3
    refine lv_iconst (v := (0 : Int32)) hx hb dX8_kindOfSign_5 rfl ?_
    obtain rfl := so1 hf
    exact r_iret C hw rfl dX8_kindOfSign_6
set_option maxRecDepth 100000 in
set_option maxHeartbeats 4000000 in
theorem kX8_advance_104 {l : Launch} {g : evG} {p : Program} {e : Env} {s : State} {m : MethodId} {args : Array Value} {below : List Frame} {meth : Method} {c : Code} {A : Nat → Prop} {zk : Nat → Nat} {zx : Nat → Nat} {ok : Gp} (C : ctx g p s m args meth c RX8 cX8_advance 1 none A) {Tx : Gp} {rec104 : Gp → Option (Gp)} (hr104 : ∀ (Tk : Gp) (H : Heap) (locs : List Loc) (ls : Array Slot), rec104 Tk = some (ok) → wl g A s.heap (gcK g zk zx Tk ++ (gcX g zx Tx)) H locs → lv_has ls 1 [(0, .ref (zk 0))] → W p l e (rmK 1 21) s m args below meth c H locs 0 0 (MQ below (Qv g A (gcK g zk zx ok ++ (gcX g zx Tx))) args s 0 0 A) (F0 m 104 ls [])) {Tk : Gp} {H : Heap} {locs : List Loc} {ls : Array Slot} (hf : fX8_advance_104 Tx rec104 Tk = some (ok)) (hw : wl g A s.heap (gcK g zk zx Tk ++ (gcX g zx Tx)) H locs) (hl : lv_has ls 1 [(0, .ref (zk 0))]) : W p l e (rmK 1 21) s m args below meth c H locs 0 0 (MQ below (Qv g A (gcK g zk zx ok ++ (gcX g zx Tx))) args s 0 0 A) (F0 m 104 ls []) := by
  obtain ⟨hx, hb, hml, hown, hts, -⟩ := id C
  unfold fX8_advance_104 at hf
  refine lv_aload_n hx hb dX8_advance_104 rfl (lv_at hl 0 rfl) ?_
  refine r_get C hw 0 rfl cf_X8 2 (by decide) q1_114 (v := .int (Tk 0 2)) rfl dX8_advance_105 ?_
  refine lv_aload_n hx hb dX8_advance_108 rfl (lv_at hl 0 rfl) ?_
  refine r_get C hw 0 rfl cf_X8 0 (by decide) q1_111 (v := .ref (zx 0)) rfl dX8_advance_109 ?_
  refine r_getN C hw 1 rfl cf_X7 0 (by decide) nq_16 (v := .int (Tx 0 0)) rfl dX8_advance_112 ?_
  refine lv_icmp_ge (tgt := 152) hx hb dX8_advance_115 (by decide) (fun hc6 => ?_) (fun hc6 => ?_)
  · have hf := it_p hf hc6
    obtain rfl := so1 hf
    exact r_vret C hw dX8_advance_152
  · have hf := it_n hf hc6
    refine lv_aload_n hx hb dX8_advance_118 rfl (lv_at hl 0 rfl) ?_
    refine r_get C hw 0 rfl cf_X8 0 (by decide) q1_111 (v := .ref (zx 0)) rfl dX8_advance_119 ?_
    refine lv_aload_n hx hb dX8_advance_122 rfl (lv_at hl 0 rfl) ?_
    refine r_get C hw 0 rfl cf_X8 2 (by decide) q1_114 (v := .int (Tk 0 2)) rfl dX8_advance_123 ?_
    obtain ⟨r1, hc2, hf⟩ := bd1_e hf
    refine r_callVi0 C hw (c_X7_signAt (zx := zx) hc2) md_X7_signAt [1, 2] rfl rfl q2_84 1 rfl cf_X7.1 ⟨Nat.le_of_ble_eq_true rfl, Nat.le_of_ble_eq_true rfl⟩ ⟨Nat.zero_le _, Nat.zero_le _⟩ hl.1 rfl rfl (Nat.le_of_ble_eq_true rfl) dX8_advance_126 (fun H locs hw => ?_)
    obtain ⟨r3, hc4, hf⟩ := bd1_e hf
    refine r_callSi0 C hw (c_X8_kindOfSign hc4) md_X8_kindOfSign [] rfl rfl q2_88 ⟨Nat.le_of_ble_eq_true rfl, Nat.le_of_ble_eq_true rfl⟩ ⟨Nat.zero_le _, Nat.zero_le _⟩ hl.1 rfl rfl (Nat.le_of_ble_eq_true rfl) dX8_advance_129 (fun H locs hw => ?_)
    refine lv_aload_n hx hb dX8_advance_132 rfl (lv_at hl 0 rfl) ?_
    refine r_get C hw 0 rfl cf_X8 3 (by decide) q1_115 (v := .int (Tk 0 3)) rfl dX8_advance_133 ?_
    refine lv_icmp_ne (tgt := 152) hx hb dX8_advance_136 (by decide) (fun hc5 => ?_) (fun hc5 => ?_)
    · have hf := it_n hf hc5
      obtain rfl := so1 hf
      exact r_vret C hw dX8_advance_152
    · have hf := it_p hf hc5
      refine lv_aload_n hx hb dX8_advance_139 rfl (lv_at hl 0 rfl) ?_
      refine lv_dup hx hb dX8_advance_140 rfl ?_
      refine r_get C hw 0 rfl cf_X8 2 (by decide) q1_114 (v := .int (Tk 0 2)) rfl dX8_advance_141 ?_
      refine lv_iconst (v := (1 : Int32)) hx hb dX8_advance_144 rfl ?_
      refine lv_iadd hx hb dX8_advance_145 ?_
      refine r_puti C hw 0 rfl cf_X8 2 (by decide) q1_114 rfl rfl (Nat.le_of_ble_eq_true rfl) (ws' := (gcK g zk zx (u2 Tk 0 2 ((Tk 0 2) + (1 : Int32))) ++ (gcX g zx Tx))) (set_l (Nat.le_of_ble_eq_true rfl) gcK_p2) dX8_advance_146 (fun H locs hw => ?_)
      refine lv_goto (tgt := 104) hx hb dX8_advance_149 (by decide) ?_
      exact hr104 _ _ _ _ hf hw (lv_sub hl [0] rfl)
set_option maxRecDepth 100000 in
set_option maxHeartbeats 4000000 in
theorem klX8_advance_104 {l : Launch} {g : evG} {p : Program} {e : Env} {s : State} {m : MethodId} {args : Array Value} {below : List Frame} {meth : Method} {c : Code} {A : Nat → Prop} {zk : Nat → Nat} {zx : Nat → Nat} {ok : Gp} (C : ctx g p s m args meth c RX8 cX8_advance 1 none A) {Tx : Gp} : ∀ (n : Nat) (Tk : Gp) (H : Heap) (locs : List Loc) (ls : Array Slot), lX8_advance_104 Tx n Tk = some (ok) → wl g A s.heap (gcK g zk zx Tk ++ (gcX g zx Tx)) H locs → lv_has ls 1 [(0, .ref (zk 0))] → W p l e (rmK 1 21) s m args below meth c H locs 0 0 (MQ below (Qv g A (gcK g zk zx ok ++ (gcX g zx Tx))) args s 0 0 A) (F0 m 104 ls []) := by
  intro n
  induction n with
  | zero => intro _ _ _ _ hf; exact no_f hf
  | succ n ih => intro _ _ _ _ hf hw hl; exact kX8_advance_104 (zk := zk) (zx := zx) (ok := ok) C (rec104 := lX8_advance_104 Tx n) ih hf hw hl
set_option maxRecDepth 100000 in
set_option maxHeartbeats 4000000 in
theorem kX8_advance_51 {l : Launch} {g : evG} {p : Program} {e : Env} {s : State} {m : MethodId} {args : Array Value} {below : List Frame} {meth : Method} {c : Code} {A : Nat → Prop} {zk : Nat → Nat} {zx : Nat → Nat} {ok : Gp} (C : ctx g p s m args meth c RX8 cX8_advance 1 none A) {Tx : Gp} {Tk : Gp} {H : Heap} {locs : List Loc} {ls : Array Slot} (hf : fX8_advance_51 Tx Tk = some (ok)) (hw : wl g A s.heap (gcK g zk zx Tk ++ (gcX g zx Tx)) H locs) (hl : lv_has ls 1 [(0, .ref (zk 0))]) : W p l e (rmK 1 21) s m args below meth c H locs 0 0 (MQ below (Qv g A (gcK g zk zx ok ++ (gcX g zx Tx))) args s 0 0 A) (F0 m 51 ls []) := by
  obtain ⟨hx, hb, hml, hown, hts, -⟩ := id C
  unfold fX8_advance_51 at hf
  refine lv_aload_n hx hb dX8_advance_51 rfl (lv_at hl 0 rfl) ?_
  refine lv_aload_n hx hb dX8_advance_52 rfl (lv_at hl 0 rfl) ?_
  refine r_get C hw 0 rfl cf_X8 0 (by decide) q1_111 (v := .ref (zx 0)) rfl dX8_advance_53 ?_
  refine lv_aload_n hx hb dX8_advance_56 rfl (lv_at hl 0 rfl) ?_
  refine r_get C hw 0 rfl cf_X8 1 (by decide) q1_113 (v := .int (Tk 0 1)) rfl dX8_advance_57 ?_
  obtain ⟨r1, hc2, hf⟩ := bd1_e hf
  refine r_callVi0 C hw (c_X7_signAt (zx := zx) hc2) md_X7_signAt [1, 2] rfl rfl q2_84 1 rfl cf_X7.1 ⟨Nat.le_of_ble_eq_true rfl, Nat.le_of_ble_eq_true rfl⟩ ⟨Nat.zero_le _, Nat.zero_le _⟩ hl.1 rfl rfl (Nat.le_of_ble_eq_true rfl) dX8_advance_60 (fun H locs hw => ?_)
  obtain ⟨r3, hc4, hf⟩ := bd1_e hf
  refine r_callSi0 C hw (c_X8_kindOfSign hc4) md_X8_kindOfSign [] rfl rfl q2_88 ⟨Nat.le_of_ble_eq_true rfl, Nat.le_of_ble_eq_true rfl⟩ ⟨Nat.zero_le _, Nat.zero_le _⟩ hl.1 rfl rfl (Nat.le_of_ble_eq_true rfl) dX8_advance_63 (fun H locs hw => ?_)
  refine r_puti C hw 0 rfl cf_X8 3 (by decide) q1_115 rfl rfl (Nat.le_of_ble_eq_true rfl) (ws' := (gcK g zk zx (u2 Tk 0 3 r3) ++ (gcX g zx Tx))) (set_l (Nat.le_of_ble_eq_true rfl) gcK_p3) dX8_advance_66 (fun H locs hw => ?_)
  refine lv_aload_n hx hb dX8_advance_69 rfl (lv_at hl 0 rfl) ?_
  refine lv_aload_n hx hb dX8_advance_70 rfl (lv_at hl 0 rfl) ?_
  refine r_get C hw 0 rfl cf_X8 1 (by decide) q1_113 (v := .int (Tk 0 1)) rfl dX8_advance_71 ?_
  refine r_puti C hw 0 rfl cf_X8 2 (by decide) q1_114 rfl rfl (Nat.le_of_ble_eq_true rfl) (ws' := (gcK g zk zx (u2 (u2 Tk 0 3 r3) 0 2 (Tk 0 1)) ++ (gcX g zx Tx))) (set_l (Nat.le_of_ble_eq_true rfl) gcK_p2) dX8_advance_74 (fun H locs hw => ?_)
  refine lv_aload_n hx hb dX8_advance_77 rfl (lv_at hl 0 rfl) ?_
  refine r_get C hw 0 rfl cf_X8 3 (by decide) q1_115 (v := .int r3) rfl dX8_advance_78 ?_
  refine lv_if_ne (tgt := 85) hx hb dX8_advance_81 (by decide) (fun hc6 => ?_) (fun hc6 => ?_)
  · have hf := it_n hf hc6
    refine lv_aload_n hx hb dX8_advance_85 rfl (lv_at hl 0 rfl) ?_
    refine lv_dup hx hb dX8_advance_86 rfl ?_
    refine r_get C hw 0 rfl cf_X8 2 (by decide) q1_114 (v := .int (Tk 0 1)) rfl dX8_advance_87 ?_
    refine lv_iconst (v := (1 : Int32)) hx hb dX8_advance_90 rfl ?_
    refine lv_iadd hx hb dX8_advance_91 ?_
    refine r_puti C hw 0 rfl cf_X8 2 (by decide) q1_114 rfl rfl (Nat.le_of_ble_eq_true rfl) (ws' := (gcK g zk zx (u2 (u2 (u2 Tk 0 3 r3) 0 2 (Tk 0 1)) 0 2 ((Tk 0 1) + (1 : Int32))) ++ (gcX g zx Tx))) (set_l (Nat.le_of_ble_eq_true rfl) gcK_p2) dX8_advance_92 (fun H locs hw => ?_)
    refine lv_aload_n hx hb dX8_advance_95 rfl (lv_at hl 0 rfl) ?_
    refine r_get C hw 0 rfl cf_X8 3 (by decide) q1_115 (v := .int r3) rfl dX8_advance_96 ?_
    refine lv_iconst (v := (3 : Int32)) hx hb dX8_advance_99 rfl ?_
    refine lv_icmp_ne (tgt := 104) hx hb dX8_advance_100 (by decide) (fun hc5 => ?_) (fun hc5 => ?_)
    · have hf := it_n hf hc5
      exact klX8_advance_104 (zk := zk) (zx := zx) (ok := ok) C fu _ _ _ _ hf hw (lv_sub hl [0] rfl)
    · have hf := it_p hf hc5
      obtain rfl := so1 hf
      exact r_vret C hw dX8_advance_103
  · have hf := it_p hf hc6
    obtain rfl := so1 hf
    exact r_vret C hw dX8_advance_84
set_option maxRecDepth 100000 in
set_option maxHeartbeats 4000000 in
theorem kX8_advance_8 {l : Launch} {g : evG} {p : Program} {e : Env} {s : State} {m : MethodId} {args : Array Value} {below : List Frame} {meth : Method} {c : Code} {A : Nat → Prop} {zk : Nat → Nat} {zx : Nat → Nat} {ok : Gp} (C : ctx g p s m args meth c RX8 cX8_advance 1 none A) {Tx : Gp} {rec8 : Gp → Option (Gp)} (hr8 : ∀ (Tk : Gp) (H : Heap) (locs : List Loc) (ls : Array Slot), rec8 Tk = some (ok) → wl g A s.heap (gcK g zk zx Tk ++ (gcX g zx Tx)) H locs → lv_has ls 1 [(0, .ref (zk 0))] → W p l e (rmK 1 21) s m args below meth c H locs 0 0 (MQ below (Qv g A (gcK g zk zx ok ++ (gcX g zx Tx))) args s 0 0 A) (F0 m 8 ls [])) {Tk : Gp} {H : Heap} {locs : List Loc} {ls : Array Slot} (hf : fX8_advance_8 Tx rec8 Tk = some (ok)) (hw : wl g A s.heap (gcK g zk zx Tk ++ (gcX g zx Tx)) H locs) (hl : lv_has ls 1 [(0, .ref (zk 0))]) : W p l e (rmK 1 21) s m args below meth c H locs 0 0 (MQ below (Qv g A (gcK g zk zx ok ++ (gcX g zx Tx))) args s 0 0 A) (F0 m 8 ls []) := by
  obtain ⟨hx, hb, hml, hown, hts, -⟩ := id C
  unfold fX8_advance_8 at hf
  refine lv_aload_n hx hb dX8_advance_8 rfl (lv_at hl 0 rfl) ?_
  refine r_get C hw 0 rfl cf_X8 1 (by decide) q1_113 (v := .int (Tk 0 1)) rfl dX8_advance_9 ?_
  refine lv_aload_n hx hb dX8_advance_12 rfl (lv_at hl 0 rfl) ?_
  refine r_get C hw 0 rfl cf_X8 0 (by decide) q1_111 (v := .ref (zx 0)) rfl dX8_advance_13 ?_
  refine r_getN C hw 1 rfl cf_X7 0 (by decide) nq_16 (v := .int (Tx 0 0)) rfl dX8_advance_16 ?_
  refine lv_icmp_ge (tgt := 51) hx hb dX8_advance_19 (by decide) (fun hc4 => ?_) (fun hc4 => ?_)
  · have hf := it_p hf hc4
    exact kX8_advance_51 (zk := zk) (zx := zx) (ok := ok) C hf hw (lv_sub hl [0] rfl)
  · have hf := it_n hf hc4
    refine lv_aload_n hx hb dX8_advance_22 rfl (lv_at hl 0 rfl) ?_
    refine r_get C hw 0 rfl cf_X8 0 (by decide) q1_111 (v := .ref (zx 0)) rfl dX8_advance_23 ?_
    refine lv_aload_n hx hb dX8_advance_26 rfl (lv_at hl 0 rfl) ?_
    refine r_get C hw 0 rfl cf_X8 1 (by decide) q1_113 (v := .int (Tk 0 1)) rfl dX8_advance_27 ?_
    obtain ⟨r1, hc2, hf⟩ := bd1_e hf
    refine r_callVi0 C hw (c_X7_signAt (zx := zx) hc2) md_X7_signAt [1, 2] rfl rfl q2_84 1 rfl cf_X7.1 ⟨Nat.le_of_ble_eq_true rfl, Nat.le_of_ble_eq_true rfl⟩ ⟨Nat.zero_le _, Nat.zero_le _⟩ hl.1 rfl rfl (Nat.le_of_ble_eq_true rfl) dX8_advance_30 (fun H locs hw => ?_)
    refine lv_bipush (v := (32 : Int32)) hx hb dX8_advance_33 rfl ?_
    refine lv_icmp_ne (tgt := 51) hx hb dX8_advance_35 (by decide) (fun hc3 => ?_) (fun hc3 => ?_)
    · have hf := it_n hf hc3
      exact kX8_advance_51 (zk := zk) (zx := zx) (ok := ok) C hf hw (lv_sub hl [0] rfl)
    · have hf := it_p hf hc3
      refine lv_aload_n hx hb dX8_advance_38 rfl (lv_at hl 0 rfl) ?_
      refine lv_dup hx hb dX8_advance_39 rfl ?_
      refine r_get C hw 0 rfl cf_X8 1 (by decide) q1_113 (v := .int (Tk 0 1)) rfl dX8_advance_40 ?_
      refine lv_iconst (v := (1 : Int32)) hx hb dX8_advance_43 rfl ?_
      refine lv_iadd hx hb dX8_advance_44 ?_
      refine r_puti C hw 0 rfl cf_X8 1 (by decide) q1_113 rfl rfl (Nat.le_of_ble_eq_true rfl) (ws' := (gcK g zk zx (u2 Tk 0 1 ((Tk 0 1) + (1 : Int32))) ++ (gcX g zx Tx))) (set_l (Nat.le_of_ble_eq_true rfl) gcK_p1) dX8_advance_45 (fun H locs hw => ?_)
      refine lv_goto (tgt := 8) hx hb dX8_advance_48 (by decide) ?_
      exact hr8 _ _ _ _ hf hw (lv_sub hl [0] rfl)
set_option maxRecDepth 100000 in
set_option maxHeartbeats 4000000 in
theorem klX8_advance_8 {l : Launch} {g : evG} {p : Program} {e : Env} {s : State} {m : MethodId} {args : Array Value} {below : List Frame} {meth : Method} {c : Code} {A : Nat → Prop} {zk : Nat → Nat} {zx : Nat → Nat} {ok : Gp} (C : ctx g p s m args meth c RX8 cX8_advance 1 none A) {Tx : Gp} : ∀ (n : Nat) (Tk : Gp) (H : Heap) (locs : List Loc) (ls : Array Slot), lX8_advance_8 Tx n Tk = some (ok) → wl g A s.heap (gcK g zk zx Tk ++ (gcX g zx Tx)) H locs → lv_has ls 1 [(0, .ref (zk 0))] → W p l e (rmK 1 21) s m args below meth c H locs 0 0 (MQ below (Qv g A (gcK g zk zx ok ++ (gcX g zx Tx))) args s 0 0 A) (F0 m 8 ls []) := by
  intro n
  induction n with
  | zero => intro _ _ _ _ hf; exact no_f hf
  | succ n ih => intro _ _ _ _ hf hw hl; exact kX8_advance_8 (zk := zk) (zx := zx) (ok := ok) C (rec8 := lX8_advance_8 Tx n) ih hf hw hl
set_option maxRecDepth 100000 in
set_option maxHeartbeats 4000000 in
theorem c_X8_advance {l : Launch} {g : evG} {zk : Nat → Nat} {zx : Nat → Nat} {ok : Gp}  {Tk : Gp} {Tx : Gp} (hf : fX8_advance Tk Tx = some (ok)) : CTv l g yX8_advance (Cond.code yX8_advance cX8_advance 1 none) 1 21 [.ref (zk 0)] (gcK g zk zx Tk ++ (gcX g zx Tx)) (gcK g zk zx ok ++ (gcX g zx Tx)) := by
  refine ct_v rfl (Nat.le_of_ble_eq_true rfl) ?_
  intro p e s m args below meth c A ls C hw hl
  have C : ctx g p s m args meth c RX8 cX8_advance 1 none A := C
  have hl : lv_has ls 1 [(0, .ref (zk 0))] := hl
  obtain ⟨hx, hb, hml, hown, hts, -⟩ := id C
  unfold fX8_advance at hf
  refine lv_aload_n hx hb dX8_advance_0 rfl (lv_at hl 0 rfl) ?_
  refine lv_aload_n hx hb dX8_advance_1 rfl (lv_at hl 0 rfl) ?_
  refine r_get C hw 0 rfl cf_X8 2 (by decide) q1_114 (v := .int (Tk 0 2)) rfl dX8_advance_2 ?_
  refine r_puti C hw 0 rfl cf_X8 1 (by decide) q1_113 rfl rfl (Nat.le_of_ble_eq_true rfl) (ws' := (gcK g zk zx (u2 Tk 0 1 (Tk 0 2)) ++ (gcX g zx Tx))) (set_l (Nat.le_of_ble_eq_true rfl) gcK_p1) dX8_advance_5 (fun H locs hw => ?_)
  exact klX8_advance_8 (zk := zk) (zx := zx) (ok := ok) C fu _ _ _ _ hf hw (lv_sub hl [0] rfl)
set_option maxRecDepth 100000 in
set_option maxHeartbeats 4000000 in
theorem kX8_number_57 {l : Launch} {g : evG} {p : Program} {e : Env} {s : State} {m : MethodId} {args : Array Value} {below : List Frame} {meth : Method} {c : Code} {A : Nat → Prop} {zk : Nat → Nat} {zx : Nat → Nat} {r : Int32} (C : ctx g p s m args meth c RX8 cX8_number 3 (some .int) A) {Tk Tx : Gp} {rec57 : Int32 → Int32 → Option (Int32)} (hr57 : ∀ (x1 : Int32) (x2 : Int32) (H : Heap) (locs : List Loc) (ls : Array Slot), rec57 x1 x2 = some (r) → wl g A s.heap (gcK g zk zx Tk ++ (gcX g zx Tx)) H locs → lv_has ls 3 [(0, .ref (zk 0)), (1, .int x1), (2, .int x2)] → W p l e (rmK 1 21) s m args below meth c H locs 0 0 (MQ below (Qi g A (gcK g zk zx Tk ++ (gcX g zx Tx)) r) args s 0 0 A) (F0 m 57 ls [])) {x1 : Int32} {x2 : Int32} {H : Heap} {locs : List Loc} {ls : Array Slot} (hf : fX8_number_57 Tk Tx rec57 x1 x2 = some (r)) (hw : wl g A s.heap (gcK g zk zx Tk ++ (gcX g zx Tx)) H locs) (hl : lv_has ls 3 [(0, .ref (zk 0)), (1, .int x1), (2, .int x2)]) : W p l e (rmK 1 21) s m args below meth c H locs 0 0 (MQ below (Qi g A (gcK g zk zx Tk ++ (gcX g zx Tx)) r) args s 0 0 A) (F0 m 57 ls []) := by
  obtain ⟨hx, hb, hml, hown, hts, -⟩ := id C
  unfold fX8_number_57 at hf
  refine lv_iload_n hx hb dX8_number_57 rfl (lv_at hl 2 rfl) ?_
  refine lv_aload_n hx hb dX8_number_58 rfl (lv_at hl 0 rfl) ?_
  refine r_get C hw 0 rfl cf_X8 2 (by decide) q1_114 (v := .int (Tk 0 2)) rfl dX8_number_59 ?_
  refine lv_icmp_ge (tgt := 88) hx hb dX8_number_62 (by decide) (fun hc3 => ?_) (fun hc3 => ?_)
  · have hf := it_p hf hc3
    refine lv_iload_n hx hb dX8_number_88 rfl (lv_at hl 1 rfl) ?_
    obtain rfl := so1 hf
    exact r_iret C hw rfl dX8_number_89
  · have hf := it_n hf hc3
    refine lv_iload_n hx hb dX8_number_65 rfl (lv_at hl 1 rfl) ?_
    refine lv_bipush (v := (10 : Int32)) hx hb dX8_number_66 rfl ?_
    refine lv_imul hx hb dX8_number_68 ?_
    refine lv_aload_n hx hb dX8_number_69 rfl (lv_at hl 0 rfl) ?_
    refine r_get C hw 0 rfl cf_X8 0 (by decide) q1_111 (v := .ref (zx 0)) rfl dX8_number_70 ?_
    refine lv_iload_n hx hb dX8_number_73 rfl (lv_at hl 2 rfl) ?_
    obtain ⟨r1, hc2, hf⟩ := bd1_e hf
    refine r_callVi0 C hw (c_X7_signAt (zx := zx) hc2) md_X7_signAt [1, 2] rfl rfl q2_84 1 rfl cf_X7.1 ⟨Nat.le_of_ble_eq_true rfl, Nat.le_of_ble_eq_true rfl⟩ ⟨Nat.zero_le _, Nat.zero_le _⟩ hl.1 rfl rfl (Nat.le_of_ble_eq_true rfl) dX8_number_74 (fun H locs hw => ?_)
    refine lv_iadd hx hb dX8_number_77 ?_
    refine lv_bipush (v := (48 : Int32)) hx hb dX8_number_78 rfl ?_
    refine lv_isub hx hb dX8_number_80 ?_
    refine lv_istore_n (lv' := [(1, .int (((x1 * (10 : Int32)) + r1) - (48 : Int32))), (0, .ref (zk 0)), (2, .int x2)]) hx hb dX8_number_81 rfl hl (by decide) rfl (fun ls hl => ?_)
    refine lv_iinc (v := (x2 + (1 : Int32))) (lv' := [(2, .int (x2 + (1 : Int32))), (1, .int (((x1 * (10 : Int32)) + r1) - (48 : Int32))), (0, .ref (zk 0))]) hx hb dX8_number_82 hl (k := 2) rfl rfl (by decide) rfl (fun ls hl => ?_)
    refine lv_goto (tgt := 57) hx hb dX8_number_85 (by decide) ?_
    exact hr57 _ _ _ _ _ hf hw (lv_sub hl [2, 1, 0] rfl)
set_option maxRecDepth 100000 in
set_option maxHeartbeats 4000000 in
theorem klX8_number_57 {l : Launch} {g : evG} {p : Program} {e : Env} {s : State} {m : MethodId} {args : Array Value} {below : List Frame} {meth : Method} {c : Code} {A : Nat → Prop} {zk : Nat → Nat} {zx : Nat → Nat} {r : Int32} (C : ctx g p s m args meth c RX8 cX8_number 3 (some .int) A) {Tk Tx : Gp} : ∀ (n : Nat) (x1 : Int32) (x2 : Int32) (H : Heap) (locs : List Loc) (ls : Array Slot), lX8_number_57 Tk Tx n x1 x2 = some (r) → wl g A s.heap (gcK g zk zx Tk ++ (gcX g zx Tx)) H locs → lv_has ls 3 [(0, .ref (zk 0)), (1, .int x1), (2, .int x2)] → W p l e (rmK 1 21) s m args below meth c H locs 0 0 (MQ below (Qi g A (gcK g zk zx Tk ++ (gcX g zx Tx)) r) args s 0 0 A) (F0 m 57 ls []) := by
  intro n
  induction n with
  | zero => intro _ _ _ _ _ hf; exact no_f hf
  | succ n ih => intro _ _ _ _ _ hf hw hl; exact kX8_number_57 (zk := zk) (zx := zx) (r := r) C (rec57 := lX8_number_57 Tk Tx n) ih hf hw hl
set_option maxRecDepth 100000 in
set_option maxHeartbeats 4000000 in
theorem kX8_number_26 {l : Launch} {g : evG} {p : Program} {e : Env} {s : State} {m : MethodId} {args : Array Value} {below : List Frame} {meth : Method} {c : Code} {A : Nat → Prop} {zk : Nat → Nat} {zx : Nat → Nat} {r : Int32} (C : ctx g p s m args meth c RX8 cX8_number 3 (some .int) A) {Tk Tx : Gp} {H : Heap} {locs : List Loc} {ls : Array Slot} (hf : fX8_number_26 Tk Tx = some (r)) (hw : wl g A s.heap (gcK g zk zx Tk ++ (gcX g zx Tx)) H locs) (hl : lv_has ls 3 [(0, .ref (zk 0))]) : W p l e (rmK 1 21) s m args below meth c H locs 0 0 (MQ below (Qi g A (gcK g zk zx Tk ++ (gcX g zx Tx)) r) args s 0 0 A) (F0 m 26 ls []) := by
  obtain ⟨hx, hb, hml, hown, hts, -⟩ := id C
  unfold fX8_number_26 at hf
  refine lv_aload_n hx hb dX8_number_26 rfl (lv_at hl 0 rfl) ?_
  refine r_get C hw 0 rfl cf_X8 3 (by decide) q1_115 (v := .int (Tk 0 3)) rfl dX8_number_27 ?_
  refine lv_iconst (v := (2 : Int32)) hx hb dX8_number_30 rfl ?_
  refine lv_icmp_ne (tgt := 47) hx hb dX8_number_31 (by decide) (fun hc2 => ?_) (fun hc2 => ?_)
  · have hf := it_n hf hc2
    refine lv_ldc (v := (1000000 : Int32)) hx hb hown (hts _ q2_161) dX8_number_47 ?_
    obtain rfl := so1 hf
    exact r_iret C hw rfl dX8_number_49
  · have hf := it_p hf hc2
    refine lv_aload_n hx hb dX8_number_34 rfl (lv_at hl 0 rfl) ?_
    refine r_get C hw 0 rfl cf_X8 2 (by decide) q1_114 (v := .int (Tk 0 2)) rfl dX8_number_35 ?_
    refine lv_aload_n hx hb dX8_number_38 rfl (lv_at hl 0 rfl) ?_
    refine r_get C hw 0 rfl cf_X8 1 (by decide) q1_113 (v := .int (Tk 0 1)) rfl dX8_number_39 ?_
    refine lv_isub hx hb dX8_number_42 ?_
    refine lv_iconst (v := (2 : Int32)) hx hb dX8_number_43 rfl ?_
    refine lv_icmp_le (tgt := 50) hx hb dX8_number_44 (by decide) (fun hc1 => ?_) (fun hc1 => ?_)
    · have hf := it_p hf hc1
      refine lv_iconst (v := (0 : Int32)) hx hb dX8_number_50 rfl ?_
      refine lv_istore_n (lv' := [(1, .int (0 : Int32)), (0, .ref (zk 0))]) hx hb dX8_number_51 rfl hl (by decide) rfl (fun ls hl => ?_)
      refine lv_aload_n hx hb dX8_number_52 rfl (lv_at hl 1 rfl) ?_
      refine r_get C hw 0 rfl cf_X8 1 (by decide) q1_113 (v := .int (Tk 0 1)) rfl dX8_number_53 ?_
      refine lv_istore_n (lv' := [(2, .int (Tk 0 1)), (1, .int (0 : Int32)), (0, .ref (zk 0))]) hx hb dX8_number_56 rfl hl (by decide) rfl (fun ls hl => ?_)
      exact klX8_number_57 (zk := zk) (zx := zx) (r := r) C fu _ _ _ _ _ hf hw (lv_sub hl [2, 1, 0] rfl)
    · have hf := it_n hf hc1
      refine lv_ldc (v := (1000000 : Int32)) hx hb hown (hts _ q2_161) dX8_number_47 ?_
      obtain rfl := so1 hf
      exact r_iret C hw rfl dX8_number_49
set_option maxRecDepth 100000 in
set_option maxHeartbeats 4000000 in
theorem c_X8_number {l : Launch} {g : evG} {zk : Nat → Nat} {zx : Nat → Nat} {r : Int32}  {Tk : Gp} {Tx : Gp} (hf : fX8_number Tk Tx = some (r)) : CTi l g yX8_number (Cond.code yX8_number cX8_number 3 (some .int)) 1 21 [.ref (zk 0)] (gcK g zk zx Tk ++ (gcX g zx Tx)) (gcK g zk zx Tk ++ (gcX g zx Tx)) r := by
  refine ct_i rfl (Nat.le_of_ble_eq_true rfl) ?_
  intro p e s m args below meth c A ls C hw hl
  have C : ctx g p s m args meth c RX8 cX8_number 3 (some .int) A := C
  have hl : lv_has ls 3 [(0, .ref (zk 0))] := hl
  obtain ⟨hx, hb, hml, hown, hts, -⟩ := id C
  unfold fX8_number at hf
  refine lv_aload_n hx hb dX8_number_0 rfl (lv_at hl 0 rfl) ?_
  refine r_get C hw 0 rfl cf_X8 3 (by decide) q1_115 (v := .int (Tk 0 3)) rfl dX8_number_1 ?_
  refine lv_iconst (v := (3 : Int32)) hx hb dX8_number_4 rfl ?_
  refine lv_icmp_ne (tgt := 26) hx hb dX8_number_5 (by decide) (fun hc4 => ?_) (fun hc4 => ?_)
  · have hf := it_n hf hc4
    exact kX8_number_26 (zk := zk) (zx := zx) (r := r) C hf hw (lv_sub hl [0] rfl)
  · have hf := it_p hf hc4
    refine lv_aload_n hx hb dX8_number_8 rfl (lv_at hl 0 rfl) ?_
    refine r_get C hw 0 rfl cf_X8 0 (by decide) q1_111 (v := .ref (zx 0)) rfl dX8_number_9 ?_
    refine lv_aload_n hx hb dX8_number_12 rfl (lv_at hl 0 rfl) ?_
    refine r_get C hw 0 rfl cf_X8 1 (by decide) q1_113 (v := .int (Tk 0 1)) rfl dX8_number_13 ?_
    obtain ⟨r1, hc2, hf⟩ := bd1_e hf
    refine r_callVi0 C hw (c_X7_signAt (zx := zx) hc2) md_X7_signAt [1, 2] rfl rfl q2_84 1 rfl cf_X7.1 ⟨Nat.le_of_ble_eq_true rfl, Nat.le_of_ble_eq_true rfl⟩ ⟨Nat.zero_le _, Nat.zero_le _⟩ hl.1 rfl rfl (Nat.le_of_ble_eq_true rfl) dX8_number_16 (fun H locs hw => ?_)
    refine lv_bipush (v := (45 : Int32)) hx hb dX8_number_19 rfl ?_
    refine lv_icmp_ne (tgt := 26) hx hb dX8_number_21 (by decide) (fun hc3 => ?_) (fun hc3 => ?_)
    · have hf := it_n hf hc3
      exact kX8_number_26 (zk := zk) (zx := zx) (r := r) C hf hw (lv_sub hl [0] rfl)
    · have hf := it_p hf hc3
      refine lv_iconst (v := (-1 : Int32)) hx hb dX8_number_24 rfl ?_
      obtain rfl := so1 hf
      exact r_iret C hw rfl dX8_number_25
set_option maxRecDepth 100000 in
set_option maxHeartbeats 4000000 in
theorem kX8_isWord_28 {l : Launch} {g : evG} {p : Program} {e : Env} {s : State} {m : MethodId} {args : Array Value} {below : List Frame} {meth : Method} {c : Code} {A : Nat → Prop} {zk : Nat → Nat} {zx : Nat → Nat} {r : Int32} (C : ctx g p s m args meth c RX8 cX8_isWord 3 (some .boolean) A) {k : Nat} (hk : k < 6) {Tk Tx : Gp} {rec28 : Int32 → Option (Int32)} (hr28 : ∀ (x2 : Int32) (H : Heap) (locs : List Loc) (ls : Array Slot), rec28 x2 = some (r) → wl g A s.heap (gcK g zk zx Tk ++ (gcX g zx Tx)) H locs → lv_has ls 3 [(0, .ref (zk 0)), (1, .ref (gSK g k)), (2, .int x2)] → W p l e (rmK 4 85) s m args below meth c H locs 0 0 (MQ below (Qi g A (gcK g zk zx Tk ++ (gcX g zx Tx)) r) args s 0 0 A) (F0 m 28 ls [])) {x2 : Int32} {H : Heap} {locs : List Loc} {ls : Array Slot} (hf : fX8_isWord_28 k Tk Tx rec28 x2 = some (r)) (hw : wl g A s.heap (gcK g zk zx Tk ++ (gcX g zx Tx)) H locs) (hl : lv_has ls 3 [(0, .ref (zk 0)), (1, .ref (gSK g k)), (2, .int x2)]) : W p l e (rmK 4 85) s m args below meth c H locs 0 0 (MQ below (Qi g A (gcK g zk zx Tk ++ (gcX g zx Tx)) r) args s 0 0 A) (F0 m 28 ls []) := by
  obtain ⟨hx, hb, hml, hown, hts, -⟩ := id C
  unfold fX8_isWord_28 at hf
  refine lv_iload_n hx hb dX8_isWord_28 rfl (lv_at hl 2 rfl) ?_
  refine lv_aload_n hx hb dX8_isWord_29 rfl (lv_at hl 1 rfl) ?_
  refine r_strlen C hw hk q2_100 ⟨Nat.le_of_ble_eq_true rfl, Nat.le_of_ble_eq_true rfl⟩ ⟨Nat.zero_le _, Nat.zero_le _⟩ hl.1 (Nat.le_of_ble_eq_true rfl) dX8_isWord_30 (fun H locs hw => ?_)
  refine lv_icmp_ge (tgt := 65) hx hb dX8_isWord_33 (by decide) (fun hc5 => ?_) (fun hc5 => ?_)
  · have hf := it_p hf hc5
    refine lv_iconst (v := (1 : Int32)) hx hb dX8_isWord_65 rfl ?_
    obtain rfl := so1 hf
    exact r_zret C hw rfl rfl dX8_isWord_66
  · have hf := it_n hf hc5
    refine lv_aload_n hx hb dX8_isWord_36 rfl (lv_at hl 0 rfl) ?_
    refine r_get C hw 0 rfl cf_X8 0 (by decide) q1_111 (v := .ref (zx 0)) rfl dX8_isWord_37 ?_
    refine lv_aload_n hx hb dX8_isWord_40 rfl (lv_at hl 0 rfl) ?_
    refine r_get C hw 0 rfl cf_X8 1 (by decide) q1_113 (v := .int (Tk 0 1)) rfl dX8_isWord_41 ?_
    refine lv_iload_n hx hb dX8_isWord_44 rfl (lv_at hl 2 rfl) ?_
    refine lv_iadd hx hb dX8_isWord_45 ?_
    obtain ⟨r1, hc2, hf⟩ := bd1_e hf
    refine r_callVi0 C hw (c_X7_signAt (zx := zx) hc2) md_X7_signAt [1, 2] rfl rfl q2_84 1 rfl cf_X7.1 ⟨Nat.le_of_ble_eq_true rfl, Nat.le_of_ble_eq_true rfl⟩ ⟨Nat.zero_le _, Nat.zero_le _⟩ hl.1 rfl rfl (Nat.le_of_ble_eq_true rfl) dX8_isWord_46 (fun H locs hw => ?_)
    refine lv_aload_n hx hb dX8_isWord_49 rfl (lv_at hl 1 rfl) ?_
    refine lv_iload_n hx hb dX8_isWord_50 rfl (lv_at hl 2 rfl) ?_
    obtain ⟨hi3, hf⟩ := it_g hf
    refine r_charAt C hw hk hi3 q2_110 ⟨Nat.le_of_ble_eq_true rfl, Nat.le_of_ble_eq_true rfl⟩ ⟨Nat.zero_le _, Nat.zero_le _⟩ hl.1 (Nat.le_of_ble_eq_true rfl) dX8_isWord_51 (fun H locs hw => ?_)
    refine lv_icmp_eq (tgt := 59) hx hb dX8_isWord_54 (by decide) (fun hc4 => ?_) (fun hc4 => ?_)
    · have hf := it_p hf hc4
      refine lv_iinc (v := (x2 + (1 : Int32))) (lv' := [(2, .int (x2 + (1 : Int32))), (0, .ref (zk 0)), (1, .ref (gSK g k))]) hx hb dX8_isWord_59 hl (k := 2) rfl rfl (by decide) rfl (fun ls hl => ?_)
      refine lv_goto (tgt := 28) hx hb dX8_isWord_62 (by decide) ?_
      exact hr28 _ _ _ _ hf hw (lv_sub hl [1, 2, 0] rfl)
    · have hf := it_n hf hc4
      refine lv_iconst (v := (0 : Int32)) hx hb dX8_isWord_57 rfl ?_
      obtain rfl := so1 hf
      exact r_zret C hw rfl rfl dX8_isWord_58
set_option maxRecDepth 100000 in
set_option maxHeartbeats 4000000 in
theorem klX8_isWord_28 {l : Launch} {g : evG} {p : Program} {e : Env} {s : State} {m : MethodId} {args : Array Value} {below : List Frame} {meth : Method} {c : Code} {A : Nat → Prop} {zk : Nat → Nat} {zx : Nat → Nat} {r : Int32} (C : ctx g p s m args meth c RX8 cX8_isWord 3 (some .boolean) A) {k : Nat} (hk : k < 6) {Tk Tx : Gp} : ∀ (n : Nat) (x2 : Int32) (H : Heap) (locs : List Loc) (ls : Array Slot), lX8_isWord_28 k Tk Tx n x2 = some (r) → wl g A s.heap (gcK g zk zx Tk ++ (gcX g zx Tx)) H locs → lv_has ls 3 [(0, .ref (zk 0)), (1, .ref (gSK g k)), (2, .int x2)] → W p l e (rmK 4 85) s m args below meth c H locs 0 0 (MQ below (Qi g A (gcK g zk zx Tk ++ (gcX g zx Tx)) r) args s 0 0 A) (F0 m 28 ls []) := by
  intro n
  induction n with
  | zero => intro _ _ _ _ hf; exact no_f hf
  | succ n ih => intro _ _ _ _ hf hw hl; exact kX8_isWord_28 (zk := zk) (zx := zx) (r := r) C hk (rec28 := lX8_isWord_28 k Tk Tx n) ih hf hw hl
set_option maxRecDepth 100000 in
set_option maxHeartbeats 4000000 in
theorem c_X8_isWord {l : Launch} {g : evG} {zk : Nat → Nat} {zx : Nat → Nat} {r : Int32}  {k : Nat} {Tk : Gp} {Tx : Gp} (hk : k < 6) (hf : fX8_isWord k Tk Tx = some (r)) : CTi l g yX8_isWord (Cond.code yX8_isWord cX8_isWord 3 (some .boolean)) 4 85 [.ref (zk 0), .ref (gSK g k)] (gcK g zk zx Tk ++ (gcX g zx Tx)) (gcK g zk zx Tk ++ (gcX g zx Tx)) r := by
  refine ct_i rfl (Nat.le_of_ble_eq_true rfl) ?_
  intro p e s m args below meth c A ls C hw hl
  have C : ctx g p s m args meth c RX8 cX8_isWord 3 (some .boolean) A := C
  have hl : lv_has ls 3 [(0, .ref (zk 0)), (1, .ref (gSK g k))] := hl
  obtain ⟨hx, hb, hml, hown, hts, -⟩ := id C
  unfold fX8_isWord at hf
  refine lv_aload_n hx hb dX8_isWord_0 rfl (lv_at hl 0 rfl) ?_
  refine r_get C hw 0 rfl cf_X8 3 (by decide) q1_115 (v := .int (Tk 0 3)) rfl dX8_isWord_1 ?_
  refine lv_iconst (v := (1 : Int32)) hx hb dX8_isWord_4 rfl ?_
  refine lv_icmp_ne (tgt := 24) hx hb dX8_isWord_5 (by decide) (fun hc2 => ?_) (fun hc2 => ?_)
  · have hf := it_n hf hc2
    refine lv_iconst (v := (0 : Int32)) hx hb dX8_isWord_24 rfl ?_
    obtain rfl := so1 hf
    exact r_zret C hw rfl rfl dX8_isWord_25
  · have hf := it_p hf hc2
    refine lv_aload_n hx hb dX8_isWord_8 rfl (lv_at hl 0 rfl) ?_
    refine r_get C hw 0 rfl cf_X8 2 (by decide) q1_114 (v := .int (Tk 0 2)) rfl dX8_isWord_9 ?_
    refine lv_aload_n hx hb dX8_isWord_12 rfl (lv_at hl 0 rfl) ?_
    refine r_get C hw 0 rfl cf_X8 1 (by decide) q1_113 (v := .int (Tk 0 1)) rfl dX8_isWord_13 ?_
    refine lv_isub hx hb dX8_isWord_16 ?_
    refine lv_aload_n hx hb dX8_isWord_17 rfl (lv_at hl 1 rfl) ?_
    refine r_strlen C hw hk q2_100 ⟨Nat.le_of_ble_eq_true rfl, Nat.le_of_ble_eq_true rfl⟩ ⟨Nat.zero_le _, Nat.zero_le _⟩ hl.1 (Nat.le_of_ble_eq_true rfl) dX8_isWord_18 (fun H locs hw => ?_)
    refine lv_icmp_eq (tgt := 26) hx hb dX8_isWord_21 (by decide) (fun hc1 => ?_) (fun hc1 => ?_)
    · have hf := it_p hf hc1
      refine lv_iconst (v := (0 : Int32)) hx hb dX8_isWord_26 rfl ?_
      refine lv_istore_n (lv' := [(2, .int (0 : Int32)), (0, .ref (zk 0)), (1, .ref (gSK g k))]) hx hb dX8_isWord_27 rfl hl (by decide) rfl (fun ls hl => ?_)
      exact klX8_isWord_28 (zk := zk) (zx := zx) (r := r) C hk fu _ _ _ _ hf hw (lv_sub hl [1, 2, 0] rfl)
    · have hf := it_n hf hc1
      refine lv_iconst (v := (0 : Int32)) hx hb dX8_isWord_24 rfl ?_
      obtain rfl := so1 hf
      exact r_zret C hw rfl rfl dX8_isWord_25
set_option maxRecDepth 100000 in
set_option maxHeartbeats 4000000 in
theorem c_X8_isEnd {l : Launch} {g : evG} {zk : Nat → Nat} {zx : Nat → Nat} {r : Int32}  {Tk : Gp} (hf : fX8_isEnd Tk = some (r)) : CTi l g yX8_isEnd (Cond.code yX8_isEnd cX8_isEnd 1 (some .boolean)) 0 0 [.ref (zk 0)] (gcK g zk zx Tk) (gcK g zk zx Tk) r := by
  refine ct_i rfl (Nat.le_of_ble_eq_true rfl) ?_
  intro p e s m args below meth c A ls C hw hl
  have C : ctx g p s m args meth c RX8 cX8_isEnd 1 (some .boolean) A := C
  have hl : lv_has ls 1 [(0, .ref (zk 0))] := hl
  obtain ⟨hx, hb, hml, hown, hts, -⟩ := id C
  unfold fX8_isEnd at hf
  refine lv_aload_n hx hb dX8_isEnd_0 rfl (lv_at hl 0 rfl) ?_
  refine r_get C hw 0 rfl cf_X8 3 (by decide) q1_115 (v := .int (Tk 0 3)) rfl dX8_isEnd_1 ?_
  refine lv_if_ne (tgt := 11) hx hb dX8_isEnd_4 (by decide) (fun hc1 => ?_) (fun hc1 => ?_)
  · have hf := it_n hf hc1
    refine lv_iconst (v := (0 : Int32)) hx hb dX8_isEnd_11 rfl ?_
    obtain rfl := so1 hf
    exact r_zret C hw rfl rfl dX8_isEnd_12
  · have hf := it_p hf hc1
    refine lv_iconst (v := (1 : Int32)) hx hb dX8_isEnd_7 rfl ?_
    refine lv_goto (tgt := 12) hx hb dX8_isEnd_8 (by decide) ?_
    obtain rfl := so1 hf
    exact r_zret C hw rfl rfl dX8_isEnd_12
set_option maxRecDepth 100000 in
set_option maxHeartbeats 4000000 in
theorem c_X8_isSign {l : Launch} {g : evG} {zk : Nat → Nat} {zx : Nat → Nat} {r : Int32}  {Tk : Gp} {Tx : Gp} {x1 : Int32} (hf : fX8_isSign Tk Tx x1 = some (r)) : CTi l g yX8_isSign (Cond.code yX8_isSign cX8_isSign 2 (some .boolean)) 1 21 [.ref (zk 0), .int x1] (gcK g zk zx Tk ++ (gcX g zx Tx)) (gcK g zk zx Tk ++ (gcX g zx Tx)) r := by
  refine ct_i rfl (Nat.le_of_ble_eq_true rfl) ?_
  intro p e s m args below meth c A ls C hw hl
  have C : ctx g p s m args meth c RX8 cX8_isSign 2 (some .boolean) A := C
  have hl : lv_has ls 2 [(0, .ref (zk 0)), (1, .int x1)] := hl
  obtain ⟨hx, hb, hml, hown, hts, -⟩ := id C
  unfold fX8_isSign at hf
  refine lv_aload_n hx hb dX8_isSign_0 rfl (lv_at hl 0 rfl) ?_
  refine r_get C hw 0 rfl cf_X8 3 (by decide) q1_115 (v := .int (Tk 0 3)) rfl dX8_isSign_1 ?_
  refine lv_iconst (v := (3 : Int32)) hx hb dX8_isSign_4 rfl ?_
  refine lv_icmp_ne (tgt := 27) hx hb dX8_isSign_5 (by decide) (fun hc4 => ?_) (fun hc4 => ?_)
  · have hf := it_n hf hc4
    refine lv_iconst (v := (0 : Int32)) hx hb dX8_isSign_27 rfl ?_
    obtain rfl := so1 hf
    exact r_zret C hw rfl rfl dX8_isSign_28
  · have hf := it_p hf hc4
    refine lv_aload_n hx hb dX8_isSign_8 rfl (lv_at hl 0 rfl) ?_
    refine r_get C hw 0 rfl cf_X8 0 (by decide) q1_111 (v := .ref (zx 0)) rfl dX8_isSign_9 ?_
    refine lv_aload_n hx hb dX8_isSign_12 rfl (lv_at hl 0 rfl) ?_
    refine r_get C hw 0 rfl cf_X8 1 (by decide) q1_113 (v := .int (Tk 0 1)) rfl dX8_isSign_13 ?_
    obtain ⟨r1, hc2, hf⟩ := bd1_e hf
    refine r_callVi0 C hw (c_X7_signAt (zx := zx) hc2) md_X7_signAt [1, 2] rfl rfl q2_84 1 rfl cf_X7.1 ⟨Nat.le_of_ble_eq_true rfl, Nat.le_of_ble_eq_true rfl⟩ ⟨Nat.zero_le _, Nat.zero_le _⟩ hl.1 rfl rfl (Nat.le_of_ble_eq_true rfl) dX8_isSign_16 (fun H locs hw => ?_)
    refine lv_iload_n hx hb dX8_isSign_19 rfl (lv_at hl 1 rfl) ?_
    refine lv_icmp_ne (tgt := 27) hx hb dX8_isSign_20 (by decide) (fun hc3 => ?_) (fun hc3 => ?_)
    · have hf := it_n hf hc3
      refine lv_iconst (v := (0 : Int32)) hx hb dX8_isSign_27 rfl ?_
      obtain rfl := so1 hf
      exact r_zret C hw rfl rfl dX8_isSign_28
    · have hf := it_p hf hc3
      refine lv_iconst (v := (1 : Int32)) hx hb dX8_isSign_23 rfl ?_
      refine lv_goto (tgt := 28) hx hb dX8_isSign_24 (by decide) ?_
      obtain rfl := so1 hf
      exact r_zret C hw rfl rfl dX8_isSign_28
set_option maxRecDepth 100000 in
set_option maxHeartbeats 4000000 in
theorem c_X8_rewind {l : Launch} {g : evG} {zk : Nat → Nat} {zx : Nat → Nat} {ok : Gp}  {Tk : Gp} {Tx : Gp} (hf : fX8_rewind Tk Tx = some (ok)) : CTv l g yX8_rewind (Cond.code yX8_rewind cX8_rewind 1 none) 2 41 [.ref (zk 0)] (gcK g zk zx Tk ++ (gcX g zx Tx)) (gcK g zk zx ok ++ (gcX g zx Tx)) := by
  refine ct_v rfl (Nat.le_of_ble_eq_true rfl) ?_
  intro p e s m args below meth c A ls C hw hl
  have C : ctx g p s m args meth c RX8 cX8_rewind 1 none A := C
  have hl : lv_has ls 1 [(0, .ref (zk 0))] := hl
  obtain ⟨hx, hb, hml, hown, hts, -⟩ := id C
  unfold fX8_rewind at hf
  refine lv_aload_n hx hb dX8_rewind_0 rfl (lv_at hl 0 rfl) ?_
  refine lv_iconst (v := (0 : Int32)) hx hb dX8_rewind_1 rfl ?_
  refine r_puti C hw 0 rfl cf_X8 2 (by decide) q1_114 rfl rfl (Nat.le_of_ble_eq_true rfl) (ws' := (gcK g zk zx (u2 Tk 0 2 (0 : Int32)) ++ (gcX g zx Tx))) (set_l (Nat.le_of_ble_eq_true rfl) gcK_p2) dX8_rewind_2 (fun H locs hw => ?_)
  refine lv_aload_n hx hb dX8_rewind_5 rfl (lv_at hl 0 rfl) ?_
  obtain ⟨Tk_1, hc2, hf⟩ := bd1_e hf
  refine r_callVvF C hw (c_X8_advance (zk := zk) (zx := zx) hc2) md_X8_advance [0, 1, 2] rfl rfl rfl rfl q2_80 0 rfl cf_X8.1 ⟨Nat.le_of_ble_eq_true rfl, Nat.le_of_ble_eq_true rfl⟩ ⟨Nat.zero_le _, Nat.zero_le _⟩ hl.1 rfl rfl (Nat.le_of_ble_eq_true rfl) dX8_rewind_6 (fun H locs hw => ?_)
  have hw : wl g A s.heap (gcK g zk zx Tk_1 ++ (gcX g zx Tx)) H locs := hw
  obtain rfl := so1 hf
  exact r_vret C hw dX8_rewind_9
