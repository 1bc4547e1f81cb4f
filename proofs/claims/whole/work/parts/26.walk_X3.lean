set_option maxRecDepth 100000 in
set_option maxHeartbeats 4000000 in
theorem c_X3_classIn {l : Launch} {g : evG}  {r : Int32}  {x0 : Int32} {x1 : Int32} (hf : fX3_classIn x0 x1 = some (r)) : CTi l g yX3_classIn (Cond.code yX3_classIn cX3_classIn 2 (some .int)) 0 0 [.int x0, .int x1] ([] : va_W) ([] : va_W) r := by
  refine ct_i rfl (Nat.le_of_ble_eq_true rfl) ?_
  intro p e s m args below meth c A ls C hw hl
  have C : ctx g p s m args meth c RX3 cX3_classIn 2 (some .int) A := C
  have hl : lv_has ls 2 [(0, .int x0), (1, .int x1)] := hl
  obtain ⟨hx, hb, hml, hown, hts, -⟩ := id C
  unfold fX3_classIn at hf
  refine lv_iload_n hx hb dX3_classIn_0 rfl (lv_at hl 0 rfl) ?_
  refine lv_iconst (v := (2 : Int32)) hx hb dX3_classIn_1 rfl ?_
  refine lv_iload_n hx hb dX3_classIn_2 rfl (lv_at hl 1 rfl) ?_
  refine lv_imul hx hb dX3_classIn_3 ?_
  refine lv_ishr hx hb dX3_classIn_4 ?_
  refine lv_iconst (v := (3 : Int32)) hx hb dX3_classIn_5 rfl ?_
  refine lv_iand hx hb dX3_classIn_6 ?_
  obtain rfl := so1 hf
  exact r_iret C hw rfl dX3_classIn_7
set_option maxRecDepth 100000 in
set_option maxHeartbeats 4000000 in
theorem kX3_toBeAlike_9 {l : Launch} {g : evG} {p : Program} {e : Env} {s : State} {m : MethodId} {args : Array Value} {below : List Frame} {meth : Method} {c : Code} {A : Nat → Prop} {zn : Nat → Nat} {r : Int32} (C : ctx g p s m args meth c RX3 cX3_toBeAlike 8 (some .int) A) {Tn : Gp} {rec9 : Int32 → Int32 → Int32 → Int32 → Int32 → Int32 → Option (Int32)} (hr9 : ∀ (x1 : Int32) (x2 : Int32) (x3 : Int32) (x4 : Int32) (x5 : Int32) (x6 : Int32) (H : Heap) (locs : List Loc) (ls : Array Slot), rec9 x1 x2 x3 x4 x5 x6 = some (r) → wl g A s.heap (gcN g zn Tn) H locs → lv_has ls 8 [(1, .int x1), (2, .int x2), (3, .int x3), (4, .int x4), (5, .int x5), (6, .int x6)] → W p l e (rmK 1 21) s m args below meth c H locs 0 0 (MQ below (Qi g A (gcN g zn Tn) r) args s 0 0 A) (F0 m 9 ls [])) {x1 : Int32} {x2 : Int32} {x3 : Int32} {x4 : Int32} {x5 : Int32} {x6 : Int32} {H : Heap} {locs : List Loc} {ls : Array Slot} (hf : fX3_toBeAlike_9 Tn rec9 x1 x2 x3 x4 x5 x6 = some (r)) (hw : wl g A s.heap (gcN g zn Tn) H locs) (hl : lv_has ls 8 [(1, .int x1), (2, .int x2), (3, .int x3), (4, .int x4), (5, .int x5), (6, .int x6)]) : W p l e (rmK 1 21) s m args below meth c H locs 0 0 (MQ below (Qi g A (gcN g zn Tn) r) args s 0 0 A) (F0 m 9 ls []) := by
  obtain ⟨hx, hb, hml, hown, hts, -⟩ := id C
  unfold fX3_toBeAlike_9 at hf
  refine lv_iload hx hb dX3_toBeAlike_9 (lv_at hl 5 rfl) ?_
  refine lv_iload_n hx hb dX3_toBeAlike_11 rfl (lv_at hl 1 rfl) ?_
  refine lv_icmp_ge (tgt := 54) hx hb dX3_toBeAlike_12 (by decide) (fun hc5 => ?_) (fun hc5 => ?_)
  · have hf := it_p hf hc5
    refine lv_iload hx hb dX3_toBeAlike_54 (lv_at hl 3 rfl) ?_
    obtain rfl := so1 hf
    exact r_iret C hw rfl dX3_toBeAlike_56
  · have hf := it_n hf hc5
    refine lv_iload_n hx hb dX3_toBeAlike_15 rfl (lv_at hl 0 rfl) ?_
    refine lv_iload hx hb dX3_toBeAlike_16 (lv_at hl 5 rfl) ?_
    obtain ⟨r1, hc2, hf⟩ := bd1_e hf
    refine r_callSi0 C hw (c_X3_classIn hc2) md_X3_classIn [] rfl rfl q4_0 ⟨Nat.le_of_ble_eq_true rfl, Nat.le_of_ble_eq_true rfl⟩ ⟨Nat.zero_le _, Nat.zero_le _⟩ hl.1 rfl rfl (Nat.le_of_ble_eq_true rfl) dX3_toBeAlike_18 (fun H locs hw => ?_)
    refine lv_istore (lv' := [(7, .int r1), (1, .int x1), (2, .int x2), (3, .int x3), (4, .int x4), (5, .int x5), (6, .int x6)]) hx hb dX3_toBeAlike_21 hl (by decide) rfl (fun ls hl => ?_)
    refine lv_iload hx hb dX3_toBeAlike_23 (lv_at hl 0 rfl) ?_
    refine lv_iload hx hb dX3_toBeAlike_25 (lv_at hl 5 rfl) ?_
    refine lv_icmp_ne (tgt := 33) hx hb dX3_toBeAlike_27 (by decide) (fun hc4 => ?_) (fun hc4 => ?_)
    · have hf := it_n hf hc4
      refine lv_iload hx hb dX3_toBeAlike_33 (lv_at hl 6 rfl) ?_
      refine lv_iload_n hx hb dX3_toBeAlike_35 rfl (lv_at hl 3 rfl) ?_
      refine lv_icmp_ge (tgt := 41) hx hb dX3_toBeAlike_36 (by decide) (fun hc3 => ?_) (fun hc3 => ?_)
      · have hf := it_p hf hc3
        refine lv_iload hx hb dX3_toBeAlike_41 (lv_at hl 0 rfl) ?_
        refine lv_istore (lv' := [(5, .int r1), (7, .int r1), (1, .int x1), (2, .int x2), (3, .int x3), (4, .int x4), (6, .int x6)]) hx hb dX3_toBeAlike_43 hl (by decide) rfl (fun ls hl => ?_)
        refine lv_iinc (v := (x4 + (1 : Int32))) (lv' := [(4, .int (x4 + (1 : Int32))), (5, .int r1), (7, .int r1), (1, .int x1), (2, .int x2), (3, .int x3), (6, .int x6)]) hx hb dX3_toBeAlike_45 hl (k := 5) rfl rfl (by decide) rfl (fun ls hl => ?_)
        refine lv_iinc (v := (x6 + (1 : Int32))) (lv' := [(6, .int (x6 + (1 : Int32))), (4, .int (x4 + (1 : Int32))), (5, .int r1), (7, .int r1), (1, .int x1), (2, .int x2), (3, .int x3)]) hx hb dX3_toBeAlike_48 hl (k := 6) rfl rfl (by decide) rfl (fun ls hl => ?_)
        refine lv_goto (tgt := 9) hx hb dX3_toBeAlike_51 (by decide) ?_
        exact hr9 _ _ _ _ _ _ _ _ _ hf hw (lv_sub hl [4, 5, 6, 1, 2, 0] rfl)
      · have hf := it_n hf hc3
        refine lv_iconst (v := (-1 : Int32)) hx hb dX3_toBeAlike_39 rfl ?_
        obtain rfl := so1 hf
        exact r_iret C hw rfl dX3_toBeAlike_40
    · have hf := it_p hf hc4
      refine lv_goto (tgt := 48) hx hb dX3_toBeAlike_30 (by decide) ?_
      refine lv_iinc (v := (x6 + (1 : Int32))) (lv' := [(6, .int (x6 + (1 : Int32))), (7, .int r1), (1, .int x1), (2, .int x2), (3, .int x3), (4, .int x4), (5, .int x5)]) hx hb dX3_toBeAlike_48 hl (k := 6) rfl rfl (by decide) rfl (fun ls hl => ?_)
      refine lv_goto (tgt := 9) hx hb dX3_toBeAlike_51 (by decide) ?_
      exact hr9 _ _ _ _ _ _ _ _ _ hf hw (lv_sub hl [2, 3, 4, 5, 6, 0] rfl)
set_option maxRecDepth 100000 in
set_option maxHeartbeats 4000000 in
theorem klX3_toBeAlike_9 {l : Launch} {g : evG} {p : Program} {e : Env} {s : State} {m : MethodId} {args : Array Value} {below : List Frame} {meth : Method} {c : Code} {A : Nat → Prop} {zn : Nat → Nat} {r : Int32} (C : ctx g p s m args meth c RX3 cX3_toBeAlike 8 (some .int) A) {Tn : Gp} : ∀ (n : Nat) (x1 : Int32) (x2 : Int32) (x3 : Int32) (x4 : Int32) (x5 : Int32) (x6 : Int32) (H : Heap) (locs : List Loc) (ls : Array Slot), lX3_toBeAlike_9 Tn n x1 x2 x3 x4 x5 x6 = some (r) → wl g A s.heap (gcN g zn Tn) H locs → lv_has ls 8 [(1, .int x1), (2, .int x2), (3, .int x3), (4, .int x4), (5, .int x5), (6, .int x6)] → W p l e (rmK 1 21) s m args below meth c H locs 0 0 (MQ below (Qi g A (gcN g zn Tn) r) args s 0 0 A) (F0 m 9 ls []) := by
  intro n
  induction n with
  | zero => intro _ _ _ _ _ _ _ _ _ hf; exact no_f hf
  | succ n ih => intro _ _ _ _ _ _ _ _ _ hf hw hl; exact kX3_toBeAlike_9 (zn := zn) (r := r) C (rec9 := lX3_toBeAlike_9 Tn n) ih hf hw hl
set_option maxRecDepth 100000 in
set_option maxHeartbeats 4000000 in
theorem c_X3_toBeAlike {l : Launch} {g : evG} {zn : Nat → Nat} {r : Int32}  {Tn : Gp} {x1 : Int32} {x2 : Int32} {x3 : Int32} (hf : fX3_toBeAlike Tn x1 x2 x3 = some (r)) : CTi l g yX3_toBeAlike (Cond.code yX3_toBeAlike cX3_toBeAlike 8 (some .int)) 1 21 [.ref (zn 0), .int x1, .int x2, .int x3] (gcN g zn Tn) (gcN g zn Tn) r := by
  refine ct_i rfl (Nat.le_of_ble_eq_true rfl) ?_
  intro p e s m args below meth c A ls C hw hl
  have C : ctx g p s m args meth c RX3 cX3_toBeAlike 8 (some .int) A := C
  have hl : lv_has ls 8 [(0, .ref (zn 0)), (1, .int x1), (2, .int x2), (3, .int x3)] := hl
  obtain ⟨hx, hb, hml, hown, hts, -⟩ := id C
  unfold fX3_toBeAlike at hf
  refine lv_iconst (v := (0 : Int32)) hx hb dX3_toBeAlike_0 rfl ?_
  refine lv_istore (lv' := [(4, .int (0 : Int32)), (0, .ref (zn 0)), (1, .int x1), (2, .int x2), (3, .int x3)]) hx hb dX3_toBeAlike_1 hl (by decide) rfl (fun ls hl => ?_)
  refine lv_iconst (v := (0 : Int32)) hx hb dX3_toBeAlike_3 rfl ?_
  refine lv_istore (lv' := [(5, .int (0 : Int32)), (4, .int (0 : Int32)), (0, .ref (zn 0)), (1, .int x1), (2, .int x2), (3, .int x3)]) hx hb dX3_toBeAlike_4 hl (by decide) rfl (fun ls hl => ?_)
  refine lv_iconst (v := (0 : Int32)) hx hb dX3_toBeAlike_6 rfl ?_
  refine lv_istore (lv' := [(6, .int (0 : Int32)), (5, .int (0 : Int32)), (4, .int (0 : Int32)), (0, .ref (zn 0)), (1, .int x1), (2, .int x2), (3, .int x3)]) hx hb dX3_toBeAlike_7 hl (by decide) rfl (fun ls hl => ?_)
  exact klX3_toBeAlike_9 (zn := zn) (r := r) C fu _ _ _ _ _ _ _ _ _ hf hw (lv_sub hl [4, 5, 6, 2, 1, 0] rfl)
set_option maxRecDepth 100000 in
set_option maxHeartbeats 4000000 in
theorem kX3_leastOfAll_5 {l : Launch} {g : evG} {p : Program} {e : Env} {s : State} {m : MethodId} {args : Array Value} {below : List Frame} {meth : Method} {c : Code} {A : Nat → Prop} {zn : Nat → Nat} {r : Int32} (C : ctx g p s m args meth c RX3 cX3_leastOfAll 3 (some .int) A) {Tn : Gp} {rec5 : Int32 → Int32 → Option (Int32)} (hr5 : ∀ (x1 : Int32) (x2 : Int32) (H : Heap) (locs : List Loc) (ls : Array Slot), rec5 x1 x2 = some (r) → wl g A s.heap (gcN g zn Tn) H locs → lv_has ls 3 [(0, .ref (zn 0)), (1, .int x1), (2, .int x2)] → W p l e (rmK 1 21) s m args below meth c H locs 0 0 (MQ below (Qi g A (gcN g zn Tn) r) args s 0 0 A) (F0 m 5 ls [])) {x1 : Int32} {x2 : Int32} {H : Heap} {locs : List Loc} {ls : Array Slot} (hf : fX3_leastOfAll_5 Tn rec5 x1 x2 = some (r)) (hw : wl g A s.heap (gcN g zn Tn) H locs) (hl : lv_has ls 3 [(0, .ref (zn 0)), (1, .int x1), (2, .int x2)]) : W p l e (rmK 1 21) s m args below meth c H locs 0 0 (MQ below (Qi g A (gcN g zn Tn) r) args s 0 0 A) (F0 m 5 ls []) := by
  obtain ⟨hx, hb, hml, hown, hts, -⟩ := id C
  unfold fX3_leastOfAll_5 at hf
  refine lv_iload_n hx hb dX3_leastOfAll_5 rfl (lv_at hl 2 rfl) ?_
  refine lv_iconst (v := (4 : Int32)) hx hb dX3_leastOfAll_6 rfl ?_
  refine lv_icmp_ge (tgt := 27) hx hb dX3_leastOfAll_7 (by decide) (fun hc2 => ?_) (fun hc2 => ?_)
  · have hf := it_p hf hc2
    refine lv_iload_n hx hb dX3_leastOfAll_27 rfl (lv_at hl 1 rfl) ?_
    obtain rfl := so1 hf
    exact r_iret C hw rfl dX3_leastOfAll_28
  · have hf := it_n hf hc2
    refine lv_iload_n hx hb dX3_leastOfAll_10 rfl (lv_at hl 1 rfl) ?_
    refine lv_aload_n hx hb dX3_leastOfAll_11 rfl (lv_at hl 0 rfl) ?_
    refine r_get C hw 0 rfl cf_X3 0 (by decide) q1_203 (v := .ref (zn 1)) rfl dX3_leastOfAll_12 ?_
    refine lv_iload_n hx hb dX3_leastOfAll_15 rfl (lv_at hl 2 rfl) ?_
    obtain ⟨hi1, hf⟩ := it_g hf
    refine r_iald C hw 1 (f := (Tn 1)) rfl hi1 dX3_leastOfAll_16 ?_
    refine r_mmin C hl.1 q4_12 q4_13 q1_18 q4_14 (Nat.le_of_ble_eq_true rfl) (Nat.le_of_ble_eq_true rfl) (Nat.zero_le _) (Nat.zero_le _) dX3_leastOfAll_17 ?_
    refine lv_istore_n (lv' := [(1, .int (imn x1 (Tn 1 x2.toNatClampNeg))), (0, .ref (zn 0)), (2, .int x2)]) hx hb dX3_leastOfAll_20 rfl hl (by decide) rfl (fun ls hl => ?_)
    refine lv_iinc (v := (x2 + (1 : Int32))) (lv' := [(2, .int (x2 + (1 : Int32))), (1, .int (imn x1 (Tn 1 x2.toNatClampNeg))), (0, .ref (zn 0))]) hx hb dX3_leastOfAll_21 hl (k := 2) rfl rfl (by decide) rfl (fun ls hl => ?_)
    refine lv_goto (tgt := 5) hx hb dX3_leastOfAll_24 (by decide) ?_
    exact hr5 _ _ _ _ _ hf hw (lv_sub hl [2, 1, 0] rfl)
set_option maxRecDepth 100000 in
set_option maxHeartbeats 4000000 in
theorem klX3_leastOfAll_5 {l : Launch} {g : evG} {p : Program} {e : Env} {s : State} {m : MethodId} {args : Array Value} {below : List Frame} {meth : Method} {c : Code} {A : Nat → Prop} {zn : Nat → Nat} {r : Int32} (C : ctx g p s m args meth c RX3 cX3_leastOfAll 3 (some .int) A) {Tn : Gp} : ∀ (n : Nat) (x1 : Int32) (x2 : Int32) (H : Heap) (locs : List Loc) (ls : Array Slot), lX3_leastOfAll_5 Tn n x1 x2 = some (r) → wl g A s.heap (gcN g zn Tn) H locs → lv_has ls 3 [(0, .ref (zn 0)), (1, .int x1), (2, .int x2)] → W p l e (rmK 1 21) s m args below meth c H locs 0 0 (MQ below (Qi g A (gcN g zn Tn) r) args s 0 0 A) (F0 m 5 ls []) := by
  intro n
  induction n with
  | zero => intro _ _ _ _ _ hf; exact no_f hf
  | succ n ih => intro _ _ _ _ _ hf hw hl; exact kX3_leastOfAll_5 (zn := zn) (r := r) C (rec5 := lX3_leastOfAll_5 Tn n) ih hf hw hl
set_option maxRecDepth 100000 in
set_option maxHeartbeats 4000000 in
theorem c_X3_leastOfAll {l : Launch} {g : evG} {zn : Nat → Nat} {r : Int32}  {Tn : Gp} (hf : fX3_leastOfAll Tn = some (r)) : CTi l g yX3_leastOfAll (Cond.code yX3_leastOfAll cX3_leastOfAll 3 (some .int)) 1 21 [.ref (zn 0)] (gcN g zn Tn) (gcN g zn Tn) r := by
  refine ct_i rfl (Nat.le_of_ble_eq_true rfl) ?_
  intro p e s m args below meth c A ls C hw hl
  have C : ctx g p s m args meth c RX3 cX3_leastOfAll 3 (some .int) A := C
  have hl : lv_has ls 3 [(0, .ref (zn 0))] := hl
  obtain ⟨hx, hb, hml, hown, hts, -⟩ := id C
  unfold fX3_leastOfAll at hf
  refine lv_ldc (v := (1000000 : Int32)) hx hb hown (hts _ q4_7) dX3_leastOfAll_0 ?_
  refine lv_istore_n (lv' := [(1, .int (1000000 : Int32)), (0, .ref (zn 0))]) hx hb dX3_leastOfAll_2 rfl hl (by decide) rfl (fun ls hl => ?_)
  refine lv_iconst (v := (0 : Int32)) hx hb dX3_leastOfAll_3 rfl ?_
  refine lv_istore_n (lv' := [(2, .int (0 : Int32)), (1, .int (1000000 : Int32)), (0, .ref (zn 0))]) hx hb dX3_leastOfAll_4 rfl hl (by decide) rfl (fun ls hl => ?_)
  exact klX3_leastOfAll_5 (zn := zn) (r := r) C fu _ _ _ _ _ hf hw (lv_sub hl [2, 1, 0] rfl)
set_option maxRecDepth 100000 in
set_option maxHeartbeats 4000000 in
theorem kX3_toBeNeverAlike_86 {l : Launch} {g : evG} {p : Program} {e : Env} {s : State} {m : MethodId} {args : Array Value} {below : List Frame} {meth : Method} {c : Code} {A : Nat → Prop} {zn : Nat → Nat} {r : Int32} {on : Gp} (C : ctx g p s m args meth c RX3 cX3_toBeNeverAlike 8 (some .int) A) {rec36 : Gp → Int32 → Int32 → Int32 → Int32 → Option (Int32 × Gp)} {rec64 : Gp → Int32 → Int32 → Int32 → Int32 → Int32 → Int32 → Option (Int32 × Gp)} (hr36 : ∀ (Tn : Gp) (x1 : Int32) (x2 : Int32) (x3 : Int32) (x4 : Int32) (H : Heap) (locs : List Loc) (ls : Array Slot), rec36 Tn x1 x2 x3 x4 = some (r, on) → wl g A s.heap (gcN g zn Tn) H locs → lv_has ls 8 [(0, .ref (zn 0)), (1, .int x1), (2, .int x2), (3, .int x3), (4, .int x4)] → W p l e (rmK 2 43) s m args below meth c H locs 0 0 (MQ below (Qi g A (gcN g zn on) r) args s 0 0 A) (F0 m 36 ls [])) (hr64 : ∀ (Tn : Gp) (x1 : Int32) (x2 : Int32) (x3 : Int32) (x4 : Int32) (x5 : Int32) (x6 : Int32) (H : Heap) (locs : List Loc) (ls : Array Slot), rec64 Tn x1 x2 x3 x4 x5 x6 = some (r, on) → wl g A s.heap (gcN g zn Tn) H locs → lv_has ls 8 [(0, .ref (zn 0)), (1, .int x1), (2, .int x2), (3, .int x3), (4, .int x4), (5, .int x5), (6, .int x6)] → W p l e (rmK 2 43) s m args below meth c H locs 0 0 (MQ below (Qi g A (gcN g zn on) r) args s 0 0 A) (F0 m 64 ls [])) {Tn : Gp} {x1 : Int32} {x2 : Int32} {x3 : Int32} {x4 : Int32} {x5 : Int32} {x6 : Int32} {y0 : Int32} {H : Heap} {locs : List Loc} {ls : Array Slot} (hf : fX3_toBeNeverAlike_86 rec36 rec64 Tn x1 x2 x3 x4 x5 x6 y0 = some (r, on)) (hw : wl g A s.heap (gcN g zn Tn) H locs) (hl : lv_has ls 8 [(0, .ref (zn 0)), (1, .int x1), (2, .int x2), (3, .int x3), (4, .int x4), (5, .int x5), (6, .int x6)]) : W p l e (rmK 2 43) s m args below meth c H locs 0 0 (MQ below (Qi g A (gcN g zn on) r) args s 0 0 A) (F0 m 86 ls [.int y0]) := by
  obtain ⟨hx, hb, hml, hown, hts, -⟩ := id C
  unfold fX3_toBeNeverAlike_86 at hf
  refine lv_istore (lv' := [(7, .int y0), (0, .ref (zn 0)), (1, .int x1), (2, .int x2), (3, .int x3), (4, .int x4), (5, .int x5), (6, .int x6)]) hx hb dX3_toBeNeverAlike_86 hl (by decide) rfl (fun ls hl => ?_)
  refine lv_aload_n hx hb dX3_toBeNeverAlike_88 rfl (lv_at hl 1 rfl) ?_
  refine r_get C hw 0 rfl cf_X3 0 (by decide) q1_203 (v := .ref (zn 1)) rfl dX3_toBeNeverAlike_89 ?_
  refine lv_iload hx hb dX3_toBeNeverAlike_92 (lv_at hl 7 rfl) ?_
  refine lv_iload hx hb dX3_toBeNeverAlike_94 (lv_at hl 0 rfl) ?_
  refine lv_if_eq (tgt := 104) hx hb dX3_toBeNeverAlike_96 (by decide) (fun hc4 => ?_) (fun hc4 => ?_)
  · have hf := it_p hf hc4
    refine lv_aload_n hx hb dX3_toBeNeverAlike_104 rfl (lv_at hl 1 rfl) ?_
    refine r_get C hw 0 rfl cf_X3 0 (by decide) q1_203 (v := .ref (zn 1)) rfl dX3_toBeNeverAlike_105 ?_
    refine lv_iload hx hb dX3_toBeNeverAlike_108 (lv_at hl 7 rfl) ?_
    obtain ⟨hi1, hf⟩ := it_g hf
    refine r_iald C hw 1 (f := (Tn 1)) rfl hi1 dX3_toBeNeverAlike_110 ?_
    refine lv_iload hx hb dX3_toBeNeverAlike_111 (lv_at hl 6 rfl) ?_
    refine r_mmin C hl.1 q4_12 q4_13 q1_18 q4_14 (Nat.le_of_ble_eq_true rfl) (Nat.le_of_ble_eq_true rfl) (Nat.zero_le _) (Nat.zero_le _) dX3_toBeNeverAlike_113 ?_
    obtain ⟨hi2, hf⟩ := it_g hf
    refine r_iast C hw 1 (f := (Tn 1)) rfl hi2 (ws' := (gcN g zn (u2 Tn 1 x6.toNatClampNeg (imn (Tn 1 x6.toNatClampNeg) x5)))) gcN_a1 dX3_toBeNeverAlike_116 (fun H locs hw => ?_)
    refine lv_iinc (v := (x6 + (1 : Int32))) (lv' := [(6, .int (x6 + (1 : Int32))), (7, .int y0), (0, .ref (zn 0)), (1, .int x1), (2, .int x2), (3, .int x3), (4, .int x4), (5, .int x5)]) hx hb dX3_toBeNeverAlike_117 hl (k := 7) rfl rfl (by decide) rfl (fun ls hl => ?_)
    refine lv_goto (tgt := 64) hx hb dX3_toBeNeverAlike_120 (by decide) ?_
    exact hr64 _ _ _ _ _ _ _ _ _ _ hf hw (lv_sub hl [2, 3, 4, 5, 6, 7, 0] rfl)
  · have hf := it_n hf hc4
    refine lv_ldc (v := (1000000 : Int32)) hx hb hown (hts _ q4_7) dX3_toBeNeverAlike_99 ?_
    refine lv_goto (tgt := 116) hx hb dX3_toBeNeverAlike_101 (by decide) ?_
    obtain ⟨hi3, hf⟩ := it_g hf
    refine r_iast C hw 1 (f := (Tn 1)) rfl hi3 (ws' := (gcN g zn (u2 Tn 1 x6.toNatClampNeg (1000000 : Int32)))) gcN_a1 dX3_toBeNeverAlike_116 (fun H locs hw => ?_)
    refine lv_iinc (v := (x6 + (1 : Int32))) (lv' := [(6, .int (x6 + (1 : Int32))), (7, .int y0), (0, .ref (zn 0)), (1, .int x1), (2, .int x2), (3, .int x3), (4, .int x4), (5, .int x5)]) hx hb dX3_toBeNeverAlike_117 hl (k := 7) rfl rfl (by decide) rfl (fun ls hl => ?_)
    refine lv_goto (tgt := 64) hx hb dX3_toBeNeverAlike_120 (by decide) ?_
    exact hr64 _ _ _ _ _ _ _ _ _ _ hf hw (lv_sub hl [2, 3, 4, 5, 6, 7, 0] rfl)
set_option maxRecDepth 100000 in
set_option maxHeartbeats 4000000 in
theorem kX3_toBeNeverAlike_64 {l : Launch} {g : evG} {p : Program} {e : Env} {s : State} {m : MethodId} {args : Array Value} {below : List Frame} {meth : Method} {c : Code} {A : Nat → Prop} {zn : Nat → Nat} {r : Int32} {on : Gp} (C : ctx g p s m args meth c RX3 cX3_toBeNeverAlike 8 (some .int) A) {rec36 : Gp → Int32 → Int32 → Int32 → Int32 → Option (Int32 × Gp)} {rec64 : Gp → Int32 → Int32 → Int32 → Int32 → Int32 → Int32 → Option (Int32 × Gp)} (hr36 : ∀ (Tn : Gp) (x1 : Int32) (x2 : Int32) (x3 : Int32) (x4 : Int32) (H : Heap) (locs : List Loc) (ls : Array Slot), rec36 Tn x1 x2 x3 x4 = some (r, on) → wl g A s.heap (gcN g zn Tn) H locs → lv_has ls 8 [(0, .ref (zn 0)), (1, .int x1), (2, .int x2), (3, .int x3), (4, .int x4)] → W p l e (rmK 2 43) s m args below meth c H locs 0 0 (MQ below (Qi g A (gcN g zn on) r) args s 0 0 A) (F0 m 36 ls [])) (hr64 : ∀ (Tn : Gp) (x1 : Int32) (x2 : Int32) (x3 : Int32) (x4 : Int32) (x5 : Int32) (x6 : Int32) (H : Heap) (locs : List Loc) (ls : Array Slot), rec64 Tn x1 x2 x3 x4 x5 x6 = some (r, on) → wl g A s.heap (gcN g zn Tn) H locs → lv_has ls 8 [(0, .ref (zn 0)), (1, .int x1), (2, .int x2), (3, .int x3), (4, .int x4), (5, .int x5), (6, .int x6)] → W p l e (rmK 2 43) s m args below meth c H locs 0 0 (MQ below (Qi g A (gcN g zn on) r) args s 0 0 A) (F0 m 64 ls [])) {Tn : Gp} {x1 : Int32} {x2 : Int32} {x3 : Int32} {x4 : Int32} {x5 : Int32} {x6 : Int32} {H : Heap} {locs : List Loc} {ls : Array Slot} (hf : fX3_toBeNeverAlike_64 rec36 rec64 Tn x1 x2 x3 x4 x5 x6 = some (r, on)) (hw : wl g A s.heap (gcN g zn Tn) H locs) (hl : lv_has ls 8 [(0, .ref (zn 0)), (1, .int x1), (2, .int x2), (3, .int x3), (4, .int x4), (5, .int x5), (6, .int x6)]) : W p l e (rmK 2 43) s m args below meth c H locs 0 0 (MQ below (Qi g A (gcN g zn on) r) args s 0 0 A) (F0 m 64 ls []) := by
  obtain ⟨hx, hb, hml, hown, hts, -⟩ := id C
  unfold fX3_toBeNeverAlike_64 at hf
  refine lv_iload hx hb dX3_toBeNeverAlike_64 (lv_at hl 6 rfl) ?_
  refine lv_iconst (v := (4 : Int32)) hx hb dX3_toBeNeverAlike_66 rfl ?_
  refine lv_icmp_ge (tgt := 123) hx hb dX3_toBeNeverAlike_67 (by decide) (fun hc4 => ?_) (fun hc4 => ?_)
  · have hf := it_p hf hc4
    refine lv_iinc (v := (x4 + (1 : Int32))) (lv' := [(4, .int (x4 + (1 : Int32))), (0, .ref (zn 0)), (1, .int x1), (2, .int x2), (3, .int x3), (5, .int x5), (6, .int x6)]) hx hb dX3_toBeNeverAlike_123 hl (k := 4) rfl rfl (by decide) rfl (fun ls hl => ?_)
    refine lv_goto (tgt := 36) hx hb dX3_toBeNeverAlike_126 (by decide) ?_
    exact hr36 _ _ _ _ _ _ _ _ hf hw (lv_sub hl [1, 2, 3, 4, 0] rfl)
  · have hf := it_n hf hc4
    refine lv_iload hx hb dX3_toBeNeverAlike_70 (lv_at hl 6 rfl) ?_
    refine lv_iload_n hx hb dX3_toBeNeverAlike_72 rfl (lv_at hl 1 rfl) ?_
    refine lv_iload hx hb dX3_toBeNeverAlike_73 (lv_at hl 4 rfl) ?_
    obtain ⟨r1, hc2, hf⟩ := bd1_e hf
    refine r_callSi0 C hw (c_X3_classIn hc2) md_X3_classIn [] rfl rfl q4_0 ⟨Nat.le_of_ble_eq_true rfl, Nat.le_of_ble_eq_true rfl⟩ ⟨Nat.zero_le _, Nat.zero_le _⟩ hl.1 rfl rfl (Nat.le_of_ble_eq_true rfl) dX3_toBeNeverAlike_75 (fun H locs hw => ?_)
    refine lv_icmp_ne (tgt := 85) hx hb dX3_toBeNeverAlike_78 (by decide) (fun hc3 => ?_) (fun hc3 => ?_)
    · have hf := it_n hf hc3
      refine lv_iconst (v := (0 : Int32)) hx hb dX3_toBeNeverAlike_85 rfl ?_
      exact kX3_toBeNeverAlike_86 (zn := zn) (r := r) (on := on) C hr36 hr64 hf hw (lv_sub hl [0, 1, 2, 3, 4, 5, 6] rfl)
    · have hf := it_p hf hc3
      refine lv_iconst (v := (1 : Int32)) hx hb dX3_toBeNeverAlike_81 rfl ?_
      refine lv_goto (tgt := 86) hx hb dX3_toBeNeverAlike_82 (by decide) ?_
      exact kX3_toBeNeverAlike_86 (zn := zn) (r := r) (on := on) C hr36 hr64 hf hw (lv_sub hl [0, 1, 2, 3, 4, 5, 6] rfl)
set_option maxRecDepth 100000 in
set_option maxHeartbeats 4000000 in
theorem klX3_toBeNeverAlike_64 {l : Launch} {g : evG} {p : Program} {e : Env} {s : State} {m : MethodId} {args : Array Value} {below : List Frame} {meth : Method} {c : Code} {A : Nat → Prop} {zn : Nat → Nat} {r : Int32} {on : Gp} (C : ctx g p s m args meth c RX3 cX3_toBeNeverAlike 8 (some .int) A) {rec36 : Gp → Int32 → Int32 → Int32 → Int32 → Option (Int32 × Gp)} (hr36 : ∀ (Tn : Gp) (x1 : Int32) (x2 : Int32) (x3 : Int32) (x4 : Int32) (H : Heap) (locs : List Loc) (ls : Array Slot), rec36 Tn x1 x2 x3 x4 = some (r, on) → wl g A s.heap (gcN g zn Tn) H locs → lv_has ls 8 [(0, .ref (zn 0)), (1, .int x1), (2, .int x2), (3, .int x3), (4, .int x4)] → W p l e (rmK 2 43) s m args below meth c H locs 0 0 (MQ below (Qi g A (gcN g zn on) r) args s 0 0 A) (F0 m 36 ls [])) : ∀ (n : Nat) (Tn : Gp) (x1 : Int32) (x2 : Int32) (x3 : Int32) (x4 : Int32) (x5 : Int32) (x6 : Int32) (H : Heap) (locs : List Loc) (ls : Array Slot), lX3_toBeNeverAlike_64 rec36 n Tn x1 x2 x3 x4 x5 x6 = some (r, on) → wl g A s.heap (gcN g zn Tn) H locs → lv_has ls 8 [(0, .ref (zn 0)), (1, .int x1), (2, .int x2), (3, .int x3), (4, .int x4), (5, .int x5), (6, .int x6)] → W p l e (rmK 2 43) s m args below meth c H locs 0 0 (MQ below (Qi g A (gcN g zn on) r) args s 0 0 A) (F0 m 64 ls []) := by
  intro n
  induction n with
  | zero => intro _ _ _ _ _ _ _ _ _ _ hf; exact no_f hf
  | succ n ih => intro _ _ _ _ _ _ _ _ _ _ hf hw hl; exact kX3_toBeNeverAlike_64 (zn := zn) (r := r) (on := on) C hr36 (rec64 := lX3_toBeNeverAlike_64 rec36 n) ih hf hw hl
set_option maxRecDepth 100000 in
set_option maxHeartbeats 4000000 in
theorem kX3_toBeNeverAlike_36 {l : Launch} {g : evG} {p : Program} {e : Env} {s : State} {m : MethodId} {args : Array Value} {below : List Frame} {meth : Method} {c : Code} {A : Nat → Prop} {zn : Nat → Nat} {r : Int32} {on : Gp} (C : ctx g p s m args meth c RX3 cX3_toBeNeverAlike 8 (some .int) A) {rec36 : Gp → Int32 → Int32 → Int32 → Int32 → Option (Int32 × Gp)} (hr36 : ∀ (Tn : Gp) (x1 : Int32) (x2 : Int32) (x3 : Int32) (x4 : Int32) (H : Heap) (locs : List Loc) (ls : Array Slot), rec36 Tn x1 x2 x3 x4 = some (r, on) → wl g A s.heap (gcN g zn Tn) H locs → lv_has ls 8 [(0, .ref (zn 0)), (1, .int x1), (2, .int x2), (3, .int x3), (4, .int x4)] → W p l e (rmK 2 43) s m args below meth c H locs 0 0 (MQ below (Qi g A (gcN g zn on) r) args s 0 0 A) (F0 m 36 ls [])) {Tn : Gp} {x1 : Int32} {x2 : Int32} {x3 : Int32} {x4 : Int32} {H : Heap} {locs : List Loc} {ls : Array Slot} (hf : fX3_toBeNeverAlike_36 rec36 Tn x1 x2 x3 x4 = some (r, on)) (hw : wl g A s.heap (gcN g zn Tn) H locs) (hl : lv_has ls 8 [(0, .ref (zn 0)), (1, .int x1), (2, .int x2), (3, .int x3), (4, .int x4)]) : W p l e (rmK 2 43) s m args below meth c H locs 0 0 (MQ below (Qi g A (gcN g zn on) r) args s 0 0 A) (F0 m 36 ls []) := by
  obtain ⟨hx, hb, hml, hown, hts, -⟩ := id C
  unfold fX3_toBeNeverAlike_36 at hf
  refine lv_iload hx hb dX3_toBeNeverAlike_36 (lv_at hl 4 rfl) ?_
  refine lv_iload_n hx hb dX3_toBeNeverAlike_38 rfl (lv_at hl 2 rfl) ?_
  refine lv_icmp_ge (tgt := 129) hx hb dX3_toBeNeverAlike_39 (by decide) (fun hc7 => ?_) (fun hc7 => ?_)
  · have hf := it_p hf hc7
    refine lv_aload_n hx hb dX3_toBeNeverAlike_129 rfl (lv_at hl 0 rfl) ?_
    obtain ⟨r1, hc2, hf⟩ := bd1_e hf
    refine r_callVi0 C hw (c_X3_leastOfAll (zn := zn) hc2) md_X3_leastOfAll [0, 1] rfl rfl q4_8 0 rfl cf_X3.1 ⟨Nat.le_of_ble_eq_true rfl, Nat.le_of_ble_eq_true rfl⟩ ⟨Nat.zero_le _, Nat.zero_le _⟩ hl.1 rfl rfl (Nat.le_of_ble_eq_true rfl) dX3_toBeNeverAlike_130 (fun H locs hw => ?_)
    refine lv_istore (lv' := [(4, .int r1), (0, .ref (zn 0)), (1, .int x1), (2, .int x2), (3, .int x3)]) hx hb dX3_toBeNeverAlike_133 hl (by decide) rfl (fun ls hl => ?_)
    refine lv_iload hx hb dX3_toBeNeverAlike_135 (lv_at hl 0 rfl) ?_
    refine lv_ldc (v := (1000000 : Int32)) hx hb hown (hts _ q4_7) dX3_toBeNeverAlike_137 ?_
    refine lv_icmp_ge (tgt := 147) hx hb dX3_toBeNeverAlike_139 (by decide) (fun hc3 => ?_) (fun hc3 => ?_)
    · have hf := it_p hf hc3
      refine lv_iconst (v := (-1 : Int32)) hx hb dX3_toBeNeverAlike_147 rfl ?_
      obtain ⟨rfl, rfl⟩ := so2 hf
      exact r_iret C hw rfl dX3_toBeNeverAlike_148
    · have hf := it_n hf hc3
      refine lv_iload hx hb dX3_toBeNeverAlike_142 (lv_at hl 0 rfl) ?_
      refine lv_goto (tgt := 148) hx hb dX3_toBeNeverAlike_144 (by decide) ?_
      obtain ⟨rfl, rfl⟩ := so2 hf
      exact r_iret C hw rfl dX3_toBeNeverAlike_148
  · have hf := it_n hf hc7
    refine lv_iload hx hb dX3_toBeNeverAlike_42 (lv_at hl 4 rfl) ?_
    refine lv_iload_n hx hb dX3_toBeNeverAlike_44 rfl (lv_at hl 3 rfl) ?_
    refine lv_icmp_ge (tgt := 53) hx hb dX3_toBeNeverAlike_45 (by decide) (fun hc6 => ?_) (fun hc6 => ?_)
    · have hf := it_p hf hc6
      refine lv_aload_n hx hb dX3_toBeNeverAlike_53 rfl (lv_at hl 0 rfl) ?_
      obtain ⟨r4, hc5, hf⟩ := bd1_e hf
      refine r_callVi0 C hw (c_X3_leastOfAll (zn := zn) hc5) md_X3_leastOfAll [0, 1] rfl rfl q4_8 0 rfl cf_X3.1 ⟨Nat.le_of_ble_eq_true rfl, Nat.le_of_ble_eq_true rfl⟩ ⟨Nat.zero_le _, Nat.zero_le _⟩ hl.1 rfl rfl (Nat.le_of_ble_eq_true rfl) dX3_toBeNeverAlike_54 (fun H locs hw => ?_)
      refine lv_iconst (v := (1 : Int32)) hx hb dX3_toBeNeverAlike_57 rfl ?_
      refine lv_iadd hx hb dX3_toBeNeverAlike_58 ?_
      refine lv_istore (lv' := [(5, .int (r4 + (1 : Int32))), (0, .ref (zn 0)), (1, .int x1), (2, .int x2), (3, .int x3), (4, .int x4)]) hx hb dX3_toBeNeverAlike_59 hl (by decide) rfl (fun ls hl => ?_)
      refine lv_iconst (v := (0 : Int32)) hx hb dX3_toBeNeverAlike_61 rfl ?_
      refine lv_istore (lv' := [(6, .int (0 : Int32)), (5, .int (r4 + (1 : Int32))), (0, .ref (zn 0)), (1, .int x1), (2, .int x2), (3, .int x3), (4, .int x4)]) hx hb dX3_toBeNeverAlike_62 hl (by decide) rfl (fun ls hl => ?_)
      exact klX3_toBeNeverAlike_64 (zn := zn) (r := r) (on := on) C hr36 fu _ _ _ _ _ _ _ _ _ _ hf hw (lv_sub hl [2, 3, 4, 5, 6, 1, 0] rfl)
    · have hf := it_n hf hc6
      refine lv_ldc (v := (1000000 : Int32)) hx hb hown (hts _ q4_7) dX3_toBeNeverAlike_48 ?_
      refine lv_goto (tgt := 59) hx hb dX3_toBeNeverAlike_50 (by decide) ?_
      refine lv_istore (lv' := [(5, .int (1000000 : Int32)), (0, .ref (zn 0)), (1, .int x1), (2, .int x2), (3, .int x3), (4, .int x4)]) hx hb dX3_toBeNeverAlike_59 hl (by decide) rfl (fun ls hl => ?_)
      refine lv_iconst (v := (0 : Int32)) hx hb dX3_toBeNeverAlike_61 rfl ?_
      refine lv_istore (lv' := [(6, .int (0 : Int32)), (5, .int (1000000 : Int32)), (0, .ref (zn 0)), (1, .int x1), (2, .int x2), (3, .int x3), (4, .int x4)]) hx hb dX3_toBeNeverAlike_62 hl (by decide) rfl (fun ls hl => ?_)
      exact klX3_toBeNeverAlike_64 (zn := zn) (r := r) (on := on) C hr36 fu _ _ _ _ _ _ _ _ _ _ hf hw (lv_sub hl [2, 3, 4, 5, 6, 1, 0] rfl)
set_option maxRecDepth 100000 in
set_option maxHeartbeats 4000000 in
theorem klX3_toBeNeverAlike_36 {l : Launch} {g : evG} {p : Program} {e : Env} {s : State} {m : MethodId} {args : Array Value} {below : List Frame} {meth : Method} {c : Code} {A : Nat → Prop} {zn : Nat → Nat} {r : Int32} {on : Gp} (C : ctx g p s m args meth c RX3 cX3_toBeNeverAlike 8 (some .int) A) : ∀ (n : Nat) (Tn : Gp) (x1 : Int32) (x2 : Int32) (x3 : Int32) (x4 : Int32) (H : Heap) (locs : List Loc) (ls : Array Slot), lX3_toBeNeverAlike_36 n Tn x1 x2 x3 x4 = some (r, on) → wl g A s.heap (gcN g zn Tn) H locs → lv_has ls 8 [(0, .ref (zn 0)), (1, .int x1), (2, .int x2), (3, .int x3), (4, .int x4)] → W p l e (rmK 2 43) s m args below meth c H locs 0 0 (MQ below (Qi g A (gcN g zn on) r) args s 0 0 A) (F0 m 36 ls []) := by
  intro n
  induction n with
  | zero => intro _ _ _ _ _ _ _ _ hf; exact no_f hf
  | succ n ih => intro _ _ _ _ _ _ _ _ hf hw hl; exact kX3_toBeNeverAlike_36 (zn := zn) (r := r) (on := on) C (rec36 := lX3_toBeNeverAlike_36 n) ih hf hw hl
set_option maxRecDepth 100000 in
set_option maxHeartbeats 4000000 in
theorem kX3_toBeNeverAlike_3 {l : Launch} {g : evG} {p : Program} {e : Env} {s : State} {m : MethodId} {args : Array Value} {below : List Frame} {meth : Method} {c : Code} {A : Nat → Prop} {zn : Nat → Nat} {r : Int32} {on : Gp} (C : ctx g p s m args meth c RX3 cX3_toBeNeverAlike 8 (some .int) A) {rec3 : Gp → Int32 → Int32 → Int32 → Int32 → Option (Int32 × Gp)} (hr3 : ∀ (Tn : Gp) (x1 : Int32) (x2 : Int32) (x3 : Int32) (x4 : Int32) (H : Heap) (locs : List Loc) (ls : Array Slot), rec3 Tn x1 x2 x3 x4 = some (r, on) → wl g A s.heap (gcN g zn Tn) H locs → lv_has ls 8 [(0, .ref (zn 0)), (1, .int x1), (2, .int x2), (3, .int x3), (4, .int x4)] → W p l e (rmK 2 43) s m args below meth c H locs 0 0 (MQ below (Qi g A (gcN g zn on) r) args s 0 0 A) (F0 m 3 ls [])) {Tn : Gp} {x1 : Int32} {x2 : Int32} {x3 : Int32} {x4 : Int32} {H : Heap} {locs : List Loc} {ls : Array Slot} (hf : fX3_toBeNeverAlike_3 rec3 Tn x1 x2 x3 x4 = some (r, on)) (hw : wl g A s.heap (gcN g zn Tn) H locs) (hl : lv_has ls 8 [(0, .ref (zn 0)), (1, .int x1), (2, .int x2), (3, .int x3), (4, .int x4)]) : W p l e (rmK 2 43) s m args below meth c H locs 0 0 (MQ below (Qi g A (gcN g zn on) r) args s 0 0 A) (F0 m 3 ls []) := by
  obtain ⟨hx, hb, hml, hown, hts, -⟩ := id C
  unfold fX3_toBeNeverAlike_3 at hf
  refine lv_iload hx hb dX3_toBeNeverAlike_3 (lv_at hl 4 rfl) ?_
  refine lv_iconst (v := (4 : Int32)) hx hb dX3_toBeNeverAlike_5 rfl ?_
  refine lv_icmp_ge (tgt := 33) hx hb dX3_toBeNeverAlike_6 (by decide) (fun hc4 => ?_) (fun hc4 => ?_)
  · have hf := it_p hf hc4
    refine lv_iconst (v := (0 : Int32)) hx hb dX3_toBeNeverAlike_33 rfl ?_
    refine lv_istore (lv' := [(4, .int (0 : Int32)), (0, .ref (zn 0)), (1, .int x1), (2, .int x2), (3, .int x3)]) hx hb dX3_toBeNeverAlike_34 hl (by decide) rfl (fun ls hl => ?_)
    exact klX3_toBeNeverAlike_36 (zn := zn) (r := r) (on := on) C fu _ _ _ _ _ _ _ _ hf hw (lv_sub hl [1, 2, 3, 4, 0] rfl)
  · have hf := it_n hf hc4
    refine lv_aload_n hx hb dX3_toBeNeverAlike_9 rfl (lv_at hl 0 rfl) ?_
    refine r_get C hw 0 rfl cf_X3 0 (by decide) q1_203 (v := .ref (zn 1)) rfl dX3_toBeNeverAlike_10 ?_
    refine lv_iload hx hb dX3_toBeNeverAlike_13 (lv_at hl 4 rfl) ?_
    refine lv_iload hx hb dX3_toBeNeverAlike_15 (lv_at hl 4 rfl) ?_
    refine lv_if_ne (tgt := 24) hx hb dX3_toBeNeverAlike_17 (by decide) (fun hc3 => ?_) (fun hc3 => ?_)
    · have hf := it_n hf hc3
      refine lv_ldc (v := (1000000 : Int32)) hx hb hown (hts _ q4_7) dX3_toBeNeverAlike_24 ?_
      obtain ⟨hi1, hf⟩ := it_g hf
      refine r_iast C hw 1 (f := (Tn 1)) rfl hi1 (ws' := (gcN g zn (u2 Tn 1 x4.toNatClampNeg (1000000 : Int32)))) gcN_a1 dX3_toBeNeverAlike_26 (fun H locs hw => ?_)
      refine lv_iinc (v := (x4 + (1 : Int32))) (lv' := [(4, .int (x4 + (1 : Int32))), (0, .ref (zn 0)), (1, .int x1), (2, .int x2), (3, .int x3)]) hx hb dX3_toBeNeverAlike_27 hl (k := 4) rfl rfl (by decide) rfl (fun ls hl => ?_)
      refine lv_goto (tgt := 3) hx hb dX3_toBeNeverAlike_30 (by decide) ?_
      exact hr3 _ _ _ _ _ _ _ _ hf hw (lv_sub hl [1, 2, 3, 4, 0] rfl)
    · have hf := it_p hf hc3
      refine lv_iconst (v := (0 : Int32)) hx hb dX3_toBeNeverAlike_20 rfl ?_
      refine lv_goto (tgt := 26) hx hb dX3_toBeNeverAlike_21 (by decide) ?_
      obtain ⟨hi2, hf⟩ := it_g hf
      refine r_iast C hw 1 (f := (Tn 1)) rfl hi2 (ws' := (gcN g zn (u2 Tn 1 x4.toNatClampNeg (0 : Int32)))) gcN_a1 dX3_toBeNeverAlike_26 (fun H locs hw => ?_)
      refine lv_iinc (v := (x4 + (1 : Int32))) (lv' := [(4, .int (x4 + (1 : Int32))), (0, .ref (zn 0)), (1, .int x1), (2, .int x2), (3, .int x3)]) hx hb dX3_toBeNeverAlike_27 hl (k := 4) rfl rfl (by decide) rfl (fun ls hl => ?_)
      refine lv_goto (tgt := 3) hx hb dX3_toBeNeverAlike_30 (by decide) ?_
      exact hr3 _ _ _ _ _ _ _ _ hf hw (lv_sub hl [1, 2, 3, 4, 0] rfl)
set_option maxRecDepth 100000 in
set_option maxHeartbeats 4000000 in
theorem klX3_toBeNeverAlike_3 {l : Launch} {g : evG} {p : Program} {e : Env} {s : State} {m : MethodId} {args : Array Value} {below : List Frame} {meth : Method} {c : Code} {A : Nat → Prop} {zn : Nat → Nat} {r : Int32} {on : Gp} (C : ctx g p s m args meth c RX3 cX3_toBeNeverAlike 8 (some .int) A) : ∀ (n : Nat) (Tn : Gp) (x1 : Int32) (x2 : Int32) (x3 : Int32) (x4 : Int32) (H : Heap) (locs : List Loc) (ls : Array Slot), lX3_toBeNeverAlike_3 n Tn x1 x2 x3 x4 = some (r, on) → wl g A s.heap (gcN g zn Tn) H locs → lv_has ls 8 [(0, .ref (zn 0)), (1, .int x1), (2, .int x2), (3, .int x3), (4, .int x4)] → W p l e (rmK 2 43) s m args below meth c H locs 0 0 (MQ below (Qi g A (gcN g zn on) r) args s 0 0 A) (F0 m 3 ls []) := by
  intro n
  induction n with
  | zero => intro _ _ _ _ _ _ _ _ hf; exact no_f hf
  | succ n ih => intro _ _ _ _ _ _ _ _ hf hw hl; exact kX3_toBeNeverAlike_3 (zn := zn) (r := r) (on := on) C (rec3 := lX3_toBeNeverAlike_3 n) ih hf hw hl
set_option maxRecDepth 100000 in
set_option maxHeartbeats 4000000 in
theorem c_X3_toBeNeverAlike {l : Launch} {g : evG} {zn : Nat → Nat} {r : Int32} {on : Gp}  {Tn : Gp} {x1 : Int32} {x2 : Int32} {x3 : Int32} (hf : fX3_toBeNeverAlike Tn x1 x2 x3 = some (r, on)) : CTi l g yX3_toBeNeverAlike (Cond.code yX3_toBeNeverAlike cX3_toBeNeverAlike 8 (some .int)) 2 43 [.ref (zn 0), .int x1, .int x2, .int x3] (gcN g zn Tn) (gcN g zn on) r := by
  refine ct_i rfl (Nat.le_of_ble_eq_true rfl) ?_
  intro p e s m args below meth c A ls C hw hl
  have C : ctx g p s m args meth c RX3 cX3_toBeNeverAlike 8 (some .int) A := C
  have hl : lv_has ls 8 [(0, .ref (zn 0)), (1, .int x1), (2, .int x2), (3, .int x3)] := hl
  obtain ⟨hx, hb, hml, hown, hts, -⟩ := id C
  unfold fX3_toBeNeverAlike at hf
  refine lv_iconst (v := (0 : Int32)) hx hb dX3_toBeNeverAlike_0 rfl ?_
  refine lv_istore (lv' := [(4, .int (0 : Int32)), (0, .ref (zn 0)), (1, .int x1), (2, .int x2), (3, .int x3)]) hx hb dX3_toBeNeverAlike_1 hl (by decide) rfl (fun ls hl => ?_)
  exact klX3_toBeNeverAlike_3 (zn := zn) (r := r) (on := on) C fu _ _ _ _ _ _ _ _ hf hw (lv_sub hl [1, 2, 3, 4, 0] rfl)
