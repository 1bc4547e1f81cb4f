set_option maxRecDepth 100000 in
set_option maxHeartbeats 4000000 in
theorem c_X10_personIndex {l : Launch} {g : evG}  {r : Int32}  {x0 : Int32} {x1 : Int32} (hf : fX10_personIndex x0 x1 = some (r)) : CTi l g yX10_personIndex (Cond.code yX10_personIndex cX10_personIndex 2 (some .int)) 0 0 [.int x0, .int x1] ([] : va_W) ([] : va_W) r := by
  refine ct_i rfl (Nat.le_of_ble_eq_true rfl) ?_
  intro p e s m args below meth c A ls C hw hl
  have C : ctx g p s m args meth c RX10 cX10_personIndex 2 (some .int) A := C
  have hl : lv_has ls 2 [(0, .int x0), (1, .int x1)] := hl
  obtain ⟨hx, hb, hml, hown, hts, -⟩ := id C
  unfold fX10_personIndex at hf
  refine lv_iload_n hx hb dX10_personIndex_0 rfl (lv_at hl 0 rfl) ?_
  refine lv_bipush (v := (6 : Int32)) hx hb dX10_personIndex_1 rfl ?_
  refine lv_imul hx hb dX10_personIndex_3 ?_
  refine lv_iload_n hx hb dX10_personIndex_4 rfl (lv_at hl 1 rfl) ?_
  refine lv_iadd hx hb dX10_personIndex_5 ?_
  obtain rfl := so1 hf
  exact r_iret C hw rfl dX10_personIndex_6
set_option maxRecDepth 100000 in
set_option maxHeartbeats 4000000 in
theorem c_X10_slotIndex {l : Launch} {g : evG}  {r : Int32}  {x0 : Int32} {x1 : Int32} {x2 : Int32} (hf : fX10_slotIndex x0 x1 x2 = some (r)) : CTi l g yX10_slotIndex (Cond.code yX10_slotIndex cX10_slotIndex 3 (some .int)) 1 21 [.int x0, .int x1, .int x2] ([] : va_W) ([] : va_W) r := by
  refine ct_i rfl (Nat.le_of_ble_eq_true rfl) ?_
  intro p e s m args below meth c A ls C hw hl
  have C : ctx g p s m args meth c RX10 cX10_slotIndex 3 (some .int) A := C
  have hl : lv_has ls 3 [(0, .int x0), (1, .int x1), (2, .int x2)] := hl
  obtain ⟨hx, hb, hml, hown, hts, -⟩ := id C
  unfold fX10_slotIndex at hf
  refine lv_iload_n hx hb dX10_slotIndex_0 rfl (lv_at hl 0 rfl) ?_
  refine lv_iload_n hx hb dX10_slotIndex_1 rfl (lv_at hl 1 rfl) ?_
  obtain ⟨r1, hc2, hf⟩ := bd1_e hf
  refine r_callSi0 C hw (c_X10_personIndex hc2) md_X10_personIndex [] rfl rfl q2_207 ⟨Nat.le_of_ble_eq_true rfl, Nat.le_of_ble_eq_true rfl⟩ ⟨Nat.zero_le _, Nat.zero_le _⟩ hl.1 rfl rfl (Nat.le_of_ble_eq_true rfl) dX10_slotIndex_2 (fun H locs hw => ?_)
  refine lv_iconst (v := (4 : Int32)) hx hb dX10_slotIndex_5 rfl ?_
  refine lv_imul hx hb dX10_slotIndex_6 ?_
  refine lv_iload_n hx hb dX10_slotIndex_7 rfl (lv_at hl 2 rfl) ?_
  refine lv_iadd hx hb dX10_slotIndex_8 ?_
  obtain rfl := so1 hf
  exact r_iret C hw rfl dX10_slotIndex_9
set_option maxRecDepth 100000 in
set_option maxHeartbeats 4000000 in
theorem c_X10_within {l : Launch} {g : evG}  {r : Int32}  {x0 : Int32} {x1 : Int32} {x2 : Int32} (hf : fX10_within x0 x1 x2 = some (r)) : CTi l g yX10_within (Cond.code yX10_within cX10_within 3 (some .boolean)) 0 0 [.int x0, .int x1, .int x2] ([] : va_W) ([] : va_W) r := by
  refine ct_i rfl (Nat.le_of_ble_eq_true rfl) ?_
  intro p e s m args below meth c A ls C hw hl
  have C : ctx g p s m args meth c RX10 cX10_within 3 (some .boolean) A := C
  have hl : lv_has ls 3 [(0, .int x0), (1, .int x1), (2, .int x2)] := hl
  obtain ⟨hx, hb, hml, hown, hts, -⟩ := id C
  unfold fX10_within at hf
  refine lv_iload_n hx hb dX10_within_0 rfl (lv_at hl 0 rfl) ?_
  refine lv_iload_n hx hb dX10_within_1 rfl (lv_at hl 1 rfl) ?_
  refine lv_icmp_lt (tgt := 14) hx hb dX10_within_2 (by decide) (fun hc2 => ?_) (fun hc2 => ?_)
  · have hf := it_p hf hc2
    refine lv_iconst (v := (0 : Int32)) hx hb dX10_within_14 rfl ?_
    obtain rfl := so1 hf
    exact r_zret C hw rfl rfl dX10_within_15
  · have hf := it_n hf hc2
    refine lv_iload_n hx hb dX10_within_5 rfl (lv_at hl 0 rfl) ?_
    refine lv_iload_n hx hb dX10_within_6 rfl (lv_at hl 2 rfl) ?_
    refine lv_icmp_gt (tgt := 14) hx hb dX10_within_7 (by decide) (fun hc1 => ?_) (fun hc1 => ?_)
    · have hf := it_p hf hc1
      refine lv_iconst (v := (0 : Int32)) hx hb dX10_within_14 rfl ?_
      obtain rfl := so1 hf
      exact r_zret C hw rfl rfl dX10_within_15
    · have hf := it_n hf hc1
      refine lv_iconst (v := (1 : Int32)) hx hb dX10_within_10 rfl ?_
      refine lv_goto (tgt := 15) hx hb dX10_within_11 (by decide) ?_
      obtain rfl := so1 hf
      exact r_zret C hw rfl rfl dX10_within_15
set_option maxRecDepth 100000 in
set_option maxHeartbeats 4000000 in
theorem c_X10_isValley {l : Launch} {g : evG}  {r : Int32}  {x0 : Int32} (hf : fX10_isValley x0 = some (r)) : CTi l g yX10_isValley (Cond.code yX10_isValley cX10_isValley 1 (some .boolean)) 1 22 [.int x0] ([] : va_W) ([] : va_W) r := by
  refine ct_i rfl (Nat.le_of_ble_eq_true rfl) ?_
  intro p e s m args below meth c A ls C hw hl
  have C : ctx g p s m args meth c RX10 cX10_isValley 1 (some .boolean) A := C
  have hl : lv_has ls 1 [(0, .int x0)] := hl
  obtain ⟨hx, hb, hml, hown, hts, -⟩ := id C
  unfold fX10_isValley at hf
  refine lv_iload_n hx hb dX10_isValley_0 rfl (lv_at hl 0 rfl) ?_
  refine lv_iconst (v := (0 : Int32)) hx hb dX10_isValley_1 rfl ?_
  refine lv_iconst (v := (1 : Int32)) hx hb dX10_isValley_2 rfl ?_
  obtain ⟨r1, hc2, hf⟩ := bd1_e hf
  refine r_callSi0 C hw (c_X10_within hc2) md_X10_within [] rfl rfl q2_51 ⟨Nat.le_of_ble_eq_true rfl, Nat.le_of_ble_eq_true rfl⟩ ⟨Nat.zero_le _, Nat.zero_le _⟩ hl.1 rfl rfl (Nat.le_of_ble_eq_true rfl) dX10_isValley_3 (fun H locs hw => ?_)
  obtain ⟨hn, hf⟩ := it_g hf
  obtain rfl := so1 hf
  exact r_zret C hw rfl hn dX10_isValley_6
set_option maxRecDepth 100000 in
set_option maxHeartbeats 4000000 in
theorem kX10_isSuch_6 {l : Launch} {g : evG} {p : Program} {e : Env} {s : State} {m : MethodId} {args : Array Value} {below : List Frame} {meth : Method} {c : Code} {A : Nat → Prop}  {r : Int32} (C : ctx g p s m args meth c RX10 cX10_isSuch 4 (some .boolean) A) {rec6 : Int32 → Int32 → Int32 → Option (Int32)} (hr6 : ∀ (x1 : Int32) (x2 : Int32) (x3 : Int32) (H : Heap) (locs : List Loc) (ls : Array Slot), rec6 x1 x2 x3 = some (r) → wl g A s.heap ([] : va_W) H locs → lv_has ls 4 [(1, .int x1), (2, .int x2), (3, .int x3)] → W p l e (rmK 1 22) s m args below meth c H locs 0 0 (MQ below (Qi g A ([] : va_W) r) args s 0 0 A) (F0 m 6 ls [])) {x1 : Int32} {x2 : Int32} {x3 : Int32} {H : Heap} {locs : List Loc} {ls : Array Slot} (hf : fX10_isSuch_6 rec6 x1 x2 x3 = some (r)) (hw : wl g A s.heap ([] : va_W) H locs) (hl : lv_has ls 4 [(1, .int x1), (2, .int x2), (3, .int x3)]) : W p l e (rmK 1 22) s m args below meth c H locs 0 0 (MQ below (Qi g A ([] : va_W) r) args s 0 0 A) (F0 m 6 ls []) := by
  obtain ⟨hx, hb, hml, hown, hts, -⟩ := id C
  unfold fX10_isSuch_6 at hf
  refine lv_iload_n hx hb dX10_isSuch_6 rfl (lv_at hl 2 rfl) ?_
  refine r_getKA C hw.2.2 q3_150 dX10_isSuch_7 ?_
  refine r_lenKA C hw.2.2 dX10_isSuch_10 ?_
  refine lv_icmp_ge (tgt := 49) hx hb dX10_isSuch_11 (by decide) (fun hc6 => ?_) (fun hc6 => ?_)
  · have hf := it_p hf hc6
    refine lv_iconst (v := (0 : Int32)) hx hb dX10_isSuch_49 rfl ?_
    obtain rfl := so1 hf
    exact r_zret C hw rfl rfl dX10_isSuch_50
  · have hf := it_n hf hc6
    refine lv_iload_n hx hb dX10_isSuch_14 rfl (lv_at hl 1 rfl) ?_
    refine lv_iload_n hx hb dX10_isSuch_15 rfl (lv_at hl 0 rfl) ?_
    refine lv_icmp_ne (tgt := 21) hx hb dX10_isSuch_16 (by decide) (fun hc5 => ?_) (fun hc5 => ?_)
    · have hf := it_n hf hc5
      refine lv_iload_n hx hb dX10_isSuch_21 rfl (lv_at hl 1 rfl) ?_
      refine lv_iconst (v := (0 : Int32)) hx hb dX10_isSuch_22 rfl ?_
      refine r_getKA C hw.2.2 q3_150 dX10_isSuch_23 ?_
      refine r_lenKA C hw.2.2 dX10_isSuch_26 ?_
      refine lv_iconst (v := (1 : Int32)) hx hb dX10_isSuch_27 rfl ?_
      refine lv_isub hx hb dX10_isSuch_28 ?_
      obtain ⟨r1, hc2, hf⟩ := bd1_e hf
      refine r_callSi0 C hw (c_X10_within hc2) md_X10_within [] rfl rfl q2_51 ⟨Nat.le_of_ble_eq_true rfl, Nat.le_of_ble_eq_true rfl⟩ ⟨Nat.zero_le _, Nat.zero_le _⟩ hl.1 rfl rfl (Nat.le_of_ble_eq_true rfl) dX10_isSuch_29 (fun H locs hw => ?_)
      refine lv_if_ne (tgt := 37) hx hb dX10_isSuch_32 (by decide) (fun hc4 => ?_) (fun hc4 => ?_)
      · have hf := it_n hf hc4
        refine r_getKA C hw.2.2 q3_150 dX10_isSuch_37 ?_
        refine lv_iload_n hx hb dX10_isSuch_40 rfl (lv_at hl 1 rfl) ?_
        obtain ⟨hi3, hf⟩ := it_g hf
        refine r_ldKA C hw.2.2 hi3 dX10_isSuch_41 ?_
        refine lv_istore_n (lv' := [(2, .int (ev_ka x2.toNatClampNeg)), (1, .int x1), (3, .int x3)]) hx hb dX10_isSuch_42 rfl hl (by decide) rfl (fun ls hl => ?_)
        refine lv_iinc (v := (x3 + (1 : Int32))) (lv' := [(3, .int (x3 + (1 : Int32))), (2, .int (ev_ka x2.toNatClampNeg)), (1, .int x1)]) hx hb dX10_isSuch_43 hl (k := 2) rfl rfl (by decide) rfl (fun ls hl => ?_)
        refine lv_goto (tgt := 6) hx hb dX10_isSuch_46 (by decide) ?_
        exact hr6 _ _ _ _ _ _ hf hw (lv_sub hl [2, 1, 0] rfl)
      · have hf := it_p hf hc4
        refine lv_iconst (v := (0 : Int32)) hx hb dX10_isSuch_35 rfl ?_
        obtain rfl := so1 hf
        exact r_zret C hw rfl rfl dX10_isSuch_36
    · have hf := it_p hf hc5
      refine lv_iconst (v := (1 : Int32)) hx hb dX10_isSuch_19 rfl ?_
      obtain rfl := so1 hf
      exact r_zret C hw rfl rfl dX10_isSuch_20
set_option maxRecDepth 100000 in
set_option maxHeartbeats 4000000 in
theorem klX10_isSuch_6 {l : Launch} {g : evG} {p : Program} {e : Env} {s : State} {m : MethodId} {args : Array Value} {below : List Frame} {meth : Method} {c : Code} {A : Nat → Prop}  {r : Int32} (C : ctx g p s m args meth c RX10 cX10_isSuch 4 (some .boolean) A) : ∀ (n : Nat) (x1 : Int32) (x2 : Int32) (x3 : Int32) (H : Heap) (locs : List Loc) (ls : Array Slot), lX10_isSuch_6 n x1 x2 x3 = some (r) → wl g A s.heap ([] : va_W) H locs → lv_has ls 4 [(1, .int x1), (2, .int x2), (3, .int x3)] → W p l e (rmK 1 22) s m args below meth c H locs 0 0 (MQ below (Qi g A ([] : va_W) r) args s 0 0 A) (F0 m 6 ls []) := by
  intro n
  induction n with
  | zero => intro _ _ _ _ _ _ hf; exact no_f hf
  | succ n ih => intro _ _ _ _ _ _ hf hw hl; exact kX10_isSuch_6 (r := r) C (rec6 := lX10_isSuch_6 n) ih hf hw hl
set_option maxRecDepth 100000 in
set_option maxHeartbeats 4000000 in
theorem c_X10_isSuch {l : Launch} {g : evG}  {r : Int32}  {x0 : Int32} {x1 : Int32} (hf : fX10_isSuch x0 x1 = some (r)) : CTi l g yX10_isSuch (Cond.code yX10_isSuch cX10_isSuch 4 (some .boolean)) 1 22 [.int x0, .int x1] ([] : va_W) ([] : va_W) r := by
  refine ct_i rfl (Nat.le_of_ble_eq_true rfl) ?_
  intro p e s m args below meth c A ls C hw hl
  have C : ctx g p s m args meth c RX10 cX10_isSuch 4 (some .boolean) A := C
  have hl : lv_has ls 4 [(0, .int x0), (1, .int x1)] := hl
  obtain ⟨hx, hb, hml, hown, hts, -⟩ := id C
  unfold fX10_isSuch at hf
  refine lv_iload_n hx hb dX10_isSuch_0 rfl (lv_at hl 0 rfl) ?_
  refine lv_iconst (v := (3 : Int32)) hx hb dX10_isSuch_1 rfl ?_
  refine lv_iadd hx hb dX10_isSuch_2 ?_
  refine lv_istore_n (lv' := [(2, .int (x0 + (3 : Int32))), (0, .int x0), (1, .int x1)]) hx hb dX10_isSuch_3 rfl hl (by decide) rfl (fun ls hl => ?_)
  refine lv_iconst (v := (0 : Int32)) hx hb dX10_isSuch_4 rfl ?_
  refine lv_istore_n (lv' := [(3, .int (0 : Int32)), (2, .int (x0 + (3 : Int32))), (0, .int x0), (1, .int x1)]) hx hb dX10_isSuch_5 rfl hl (by decide) rfl (fun ls hl => ?_)
  exact klX10_isSuch_6 (r := r) C fu _ _ _ _ _ _ hf hw (lv_sub hl [3, 1, 0] rfl)
set_option maxRecDepth 100000 in
set_option maxHeartbeats 4000000 in
theorem c_X10_isPlanAsked {l : Launch} {g : evG}  {r : Int32}  {x0 : Int32} {x1 : Int32} (hf : fX10_isPlanAsked x0 x1 = some (r)) : CTi l g yX10_isPlanAsked (Cond.code yX10_isPlanAsked cX10_isPlanAsked 2 (some .boolean)) 1 22 [.int x0, .int x1] ([] : va_W) ([] : va_W) r := by
  refine ct_i rfl (Nat.le_of_ble_eq_true rfl) ?_
  intro p e s m args below meth c A ls C hw hl
  have C : ctx g p s m args meth c RX10 cX10_isPlanAsked 2 (some .boolean) A := C
  have hl : lv_has ls 2 [(0, .int x0), (1, .int x1)] := hl
  obtain ⟨hx, hb, hml, hown, hts, -⟩ := id C
  unfold fX10_isPlanAsked at hf
  refine lv_iload_n hx hb dX10_isPlanAsked_0 rfl (lv_at hl 0 rfl) ?_
  refine lv_iconst (v := (0 : Int32)) hx hb dX10_isPlanAsked_1 rfl ?_
  refine lv_iconst (v := (1 : Int32)) hx hb dX10_isPlanAsked_2 rfl ?_
  obtain ⟨r1, hc2, hf⟩ := bd1_e hf
  refine r_callSi0 C hw (c_X10_within hc2) md_X10_within [] rfl rfl q2_51 ⟨Nat.le_of_ble_eq_true rfl, Nat.le_of_ble_eq_true rfl⟩ ⟨Nat.zero_le _, Nat.zero_le _⟩ hl.1 rfl rfl (Nat.le_of_ble_eq_true rfl) dX10_isPlanAsked_3 (fun H locs hw => ?_)
  refine lv_if_eq (tgt := 24) hx hb dX10_isPlanAsked_6 (by decide) (fun hc6 => ?_) (fun hc6 => ?_)
  · have hf := it_p hf hc6
    refine lv_iconst (v := (0 : Int32)) hx hb dX10_isPlanAsked_24 rfl ?_
    obtain rfl := so1 hf
    exact r_zret C hw rfl rfl dX10_isPlanAsked_25
  · have hf := it_n hf hc6
    refine lv_iload_n hx hb dX10_isPlanAsked_9 rfl (lv_at hl 1 rfl) ?_
    refine lv_iconst (v := (0 : Int32)) hx hb dX10_isPlanAsked_10 rfl ?_
    refine lv_sipush (v := (200 : Int32)) hx hb dX10_isPlanAsked_11 rfl ?_
    obtain ⟨r3, hc4, hf⟩ := bd1_e hf
    refine r_callSi0 C hw (c_X10_within hc4) md_X10_within [] rfl rfl q2_51 ⟨Nat.le_of_ble_eq_true rfl, Nat.le_of_ble_eq_true rfl⟩ ⟨Nat.zero_le _, Nat.zero_le _⟩ hl.1 rfl rfl (Nat.le_of_ble_eq_true rfl) dX10_isPlanAsked_14 (fun H locs hw => ?_)
    refine lv_if_eq (tgt := 24) hx hb dX10_isPlanAsked_17 (by decide) (fun hc5 => ?_) (fun hc5 => ?_)
    · have hf := it_p hf hc5
      refine lv_iconst (v := (0 : Int32)) hx hb dX10_isPlanAsked_24 rfl ?_
      obtain rfl := so1 hf
      exact r_zret C hw rfl rfl dX10_isPlanAsked_25
    · have hf := it_n hf hc5
      refine lv_iconst (v := (1 : Int32)) hx hb dX10_isPlanAsked_20 rfl ?_
      refine lv_goto (tgt := 25) hx hb dX10_isPlanAsked_21 (by decide) ?_
      obtain rfl := so1 hf
      exact r_zret C hw rfl rfl dX10_isPlanAsked_25
