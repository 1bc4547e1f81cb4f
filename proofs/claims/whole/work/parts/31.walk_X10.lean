set_option maxRecDepth 100000 in
set_option maxHeartbeats 4000000 in
theorem c_X10_write {l : Launch} {g : evG} {ad : Nat → Nat → Nat} {r : Int32} {ox : Gp}  {Te : Gp} {Tx : Gp} {x1 : Int64} {x3 : Int32} (hf : fX10_write Te Tx x1 x3 = some (r, ox)) : CTi l g yX10_write (Cond.code yX10_write cX10_write 4 (some .int)) 2 46 [.ref ((ad 0) 0), .long x1, .int x3] (gcE g ad Te ++ (gcX g (ad 3) Tx)) (gcE g ad Te ++ (gcX g (ad 3) ox)) r := by
  refine ct_i rfl (Nat.le_of_ble_eq_true rfl) ?_
  intro p e s m args below meth c A ls C hw hl
  have C : ctx g p s m args meth c RX10 cX10_write 4 (some .int) A := C
  have hl : lv_has ls 4 [(0, .ref ((ad 0) 0)), (1, .long x1), (3, .int x3)] := hl
  obtain ⟨hx, hb, hml, hown, hts, -⟩ := id C
  unfold fX10_write at hf
  refine lv_iload_n hx hb dX10_write_0 rfl (lv_at hl 2 rfl) ?_
  refine lv_iconst (v := (1 : Int32)) hx hb dX10_write_1 rfl ?_
  refine lv_bipush (v := (8 : Int32)) hx hb dX10_write_2 rfl ?_
  obtain ⟨r1, hc2, hf⟩ := bd1_e hf
  refine r_callSi0 C hw (c_X10_within hc2) md_X10_within [] rfl rfl q2_51 ⟨Nat.le_of_ble_eq_true rfl, Nat.le_of_ble_eq_true rfl⟩ ⟨Nat.zero_le _, Nat.zero_le _⟩ hl.1 rfl rfl (Nat.le_of_ble_eq_true rfl) dX10_write_4 (fun H locs hw => ?_)
  refine lv_if_ne (tgt := 13) hx hb dX10_write_7 (by decide) (fun hc6 => ?_) (fun hc6 => ?_)
  · have hf := it_n hf hc6
    refine lv_iload_n hx hb dX10_write_13 rfl (lv_at hl 2 rfl) ?_
    refine lv_sipush (v := (200 : Int32)) hx hb dX10_write_14 rfl ?_
    refine lv_aload_n hx hb dX10_write_17 rfl (lv_at hl 0 rfl) ?_
    refine r_get C hw 0 rfl cf_X10 2 (by decide) q2_12 (v := .ref ((ad 3) 0)) rfl dX10_write_18 ?_
    refine r_getN C hw 3 rfl cf_X7 0 (by decide) nq_15 (v := .int (Tx 0 0)) rfl dX10_write_21 ?_
    refine lv_isub hx hb dX10_write_24 ?_
    refine lv_icmp_le (tgt := 31) hx hb dX10_write_25 (by decide) (fun hc5 => ?_) (fun hc5 => ?_)
    · have hf := it_p hf hc5
      refine lv_aload_n hx hb dX10_write_31 rfl (lv_at hl 0 rfl) ?_
      refine r_get C hw 0 rfl cf_X10 2 (by decide) q2_12 (v := .ref ((ad 3) 0)) rfl dX10_write_32 ?_
      refine lv_lload_n hx hb dX10_write_35 rfl (lv_at hl 1 rfl) ?_
      refine lv_iload_n hx hb dX10_write_36 rfl (lv_at hl 2 rfl) ?_
      obtain ⟨Tx_3, hc4, hf⟩ := bd1_e hf
      refine r_selVv C hw (c_X7_append (zx := (ad 3)) hc4) md_X7_append (Sel.skip _ (Sel.last (gcX g (ad 3) Tx) (gcX g (ad 3) Tx_3) rfl rfl)) q2_54 3 rfl cf_X7.1 ⟨Nat.le_of_ble_eq_true rfl, Nat.le_of_ble_eq_true rfl⟩ ⟨Nat.zero_le _, Nat.zero_le _⟩ hl.1 rfl rfl (Nat.le_of_ble_eq_true rfl) dX10_write_37 (fun H locs hw => ?_)
      refine lv_aload_n hx hb dX10_write_40 rfl (lv_at hl 0 rfl) ?_
      refine r_get C hw 0 rfl cf_X10 2 (by decide) q2_12 (v := .ref ((ad 3) 0)) rfl dX10_write_41 ?_
      refine r_getN C hw 3 rfl cf_X7 0 (by decide) nq_15 (v := .int (Tx_3 0 0)) rfl dX10_write_44 ?_
      obtain ⟨rfl, rfl⟩ := so2 hf
      exact r_iret C hw rfl dX10_write_47
    · have hf := it_n hf hc5
      refine lv_bipush (v := (-5 : Int32)) hx hb dX10_write_28 rfl ?_
      obtain ⟨rfl, rfl⟩ := so2 hf
      exact r_iret C hw rfl dX10_write_30
  · have hf := it_p hf hc6
    refine lv_bipush (v := (-3 : Int32)) hx hb dX10_write_10 rfl ?_
    obtain ⟨rfl, rfl⟩ := so2 hf
    exact r_iret C hw rfl dX10_write_12
set_option maxRecDepth 100000 in
set_option maxHeartbeats 4000000 in
theorem c_X10_erase {l : Launch} {g : evG} {ad : Nat → Nat → Nat} {r : Int32} {ox : Gp}  {Te : Gp} {Tx : Gp} (hf : fX10_erase Te Tx = some (r, ox)) : CTi l g yX10_erase (Cond.code yX10_erase cX10_erase 2 (some .int)) 0 0 [.ref ((ad 0) 0)] (gcE g ad Te ++ (gcX g (ad 3) Tx)) (gcE g ad Te ++ (gcX g (ad 3) ox)) r := by
  refine ct_i rfl (Nat.le_of_ble_eq_true rfl) ?_
  intro p e s m args below meth c A ls C hw hl
  have C : ctx g p s m args meth c RX10 cX10_erase 2 (some .int) A := C
  have hl : lv_has ls 2 [(0, .ref ((ad 0) 0))] := hl
  obtain ⟨hx, hb, hml, hown, hts, -⟩ := id C
  unfold fX10_erase at hf
  refine lv_aload_n hx hb dX10_erase_0 rfl (lv_at hl 0 rfl) ?_
  refine r_get C hw 0 rfl cf_X10 2 (by decide) q2_12 (v := .ref ((ad 3) 0)) rfl dX10_erase_1 ?_
  refine r_getN C hw 3 rfl cf_X7 0 (by decide) nq_15 (v := .int (Tx 0 0)) rfl dX10_erase_4 ?_
  refine lv_istore_n (lv' := [(1, .int (Tx 0 0)), (0, .ref ((ad 0) 0))]) hx hb dX10_erase_7 rfl hl (by decide) rfl (fun ls hl => ?_)
  refine lv_aload_n hx hb dX10_erase_8 rfl (lv_at hl 1 rfl) ?_
  refine r_get C hw 0 rfl cf_X10 2 (by decide) q2_12 (v := .ref ((ad 3) 0)) rfl dX10_erase_9 ?_
  refine lv_iconst (v := (0 : Int32)) hx hb dX10_erase_12 rfl ?_
  refine r_putiN C hw 3 rfl cf_X7 0 (by decide) nq_15 rfl rfl (Nat.le_of_ble_eq_true rfl) (ws' := (gcE g ad Te ++ (gcX g (ad 3) (u2 Tx 0 0 (0 : Int32))))) (set_r (n := 3) (k := 0) rfl gcX_p0) dX10_erase_13 (fun H locs hw => ?_)
  refine lv_iload_n hx hb dX10_erase_16 rfl (lv_at hl 0 rfl) ?_
  obtain ⟨rfl, rfl⟩ := so2 hf
  exact r_iret C hw rfl dX10_erase_17
set_option maxRecDepth 100000 in
set_option maxHeartbeats 4000000 in
theorem c_X10_fault {l : Launch} {g : evG} {ad : Nat → Nat → Nat} {r : Int32} {ol ok ov : Gp}  {Te : Gp} {Tl : Gp} {Tk : Gp} {Tx : Gp} {Tt : Gp} {Tv : Gp} (hf : fX10_fault Te Tl Tk Tx Tt Tv = some (r, ol, ok, ov)) : CTi l g yX10_fault (Cond.code yX10_fault cX10_fault 1 (some .int)) 7 150 [.ref ((ad 0) 0)] (gcE g ad Te ++ (gcL g (ad 4) (ad 5) Tl ++ (gcK g (ad 5) (ad 3) Tk ++ (gcX g (ad 3) Tx ++ (gcT g (ad 1) Tt ++ (gcT g (ad 2) Tv)))))) (gcE g ad Te ++ (gcL g (ad 4) (ad 5) ol ++ (gcK g (ad 5) (ad 3) ok ++ (gcX g (ad 3) Tx ++ (gcT g (ad 1) Tt ++ (gcT g (ad 2) ov)))))) r := by
  refine ct_i rfl (Nat.le_of_ble_eq_true rfl) ?_
  intro p e s m args below meth c A ls C hw hl
  have C : ctx g p s m args meth c RX10 cX10_fault 1 (some .int) A := C
  have hl : lv_has ls 1 [(0, .ref ((ad 0) 0))] := hl
  obtain ⟨hx, hb, hml, hown, hts, -⟩ := id C
  unfold fX10_fault at hf
  refine lv_aload_n hx hb dX10_fault_0 rfl (lv_at hl 0 rfl) ?_
  refine r_get C hw 0 rfl cf_X10 1 (by decide) q2_11 (v := .ref ((ad 2) 0)) rfl dX10_fault_1 ?_
  refine lv_aload_n hx hb dX10_fault_4 rfl (lv_at hl 0 rfl) ?_
  refine r_get C hw 0 rfl cf_X10 0 (by decide) q2_10 (v := .ref ((ad 1) 0)) rfl dX10_fault_5 ?_
  obtain ⟨Tv_1, hc2, hf⟩ := bd1_e hf
  refine r_callVv C hw (c_X9_becomeLike (zo := (ad 1)) (zt := (ad 2)) hc2) md_X9_becomeLike [13, 14, 15, 16, 17, 18, 7, 8, 9, 10, 11, 12] rfl rfl rfl q2_68 13 rfl cf_X9.1 ⟨Nat.le_of_ble_eq_true rfl, Nat.le_of_ble_eq_true rfl⟩ ⟨Nat.zero_le _, Nat.zero_le _⟩ hl.1 rfl rfl (Nat.le_of_ble_eq_true rfl) dX10_fault_8 (fun H locs hw => ?_)
  have hw : wl g A s.heap (gcE g ad Te ++ (gcL g (ad 4) (ad 5) Tl ++ (gcK g (ad 5) (ad 3) Tk ++ (gcX g (ad 3) Tx ++ (gcT g (ad 1) Tt ++ (gcT g (ad 2) Tv_1)))))) H locs := hw
  refine lv_aload_n hx hb dX10_fault_11 rfl (lv_at hl 0 rfl) ?_
  refine r_get C hw 0 rfl cf_X10 3 (by decide) q2_13 (v := .ref ((ad 4) 0)) rfl dX10_fault_12 ?_
  refine lv_aload_n hx hb dX10_fault_15 rfl (lv_at hl 0 rfl) ?_
  refine r_get C hw 0 rfl cf_X10 1 (by decide) q2_11 (v := .ref ((ad 2) 0)) rfl dX10_fault_16 ?_
  obtain ⟨r3, Tl_4, Tk_5, Tv_6, hc7, hf⟩ := bd4_e hf
  refine r_selVi C hw (c_X1_readInto (zk := (ad 5)) (zl := (ad 4)) (zv := (ad 2)) (zx := (ad 3)) hc7) md_X1_readInto (Sel.skip _ (Sel.take (gcL g (ad 4) (ad 5) Tl) (gcL g (ad 4) (ad 5) Tl_4) rfl rfl (Sel.take (gcK g (ad 5) (ad 3) Tk) (gcK g (ad 5) (ad 3) Tk_5) rfl rfl (Sel.take (gcX g (ad 3) Tx) (gcX g (ad 3) Tx) rfl rfl (Sel.skip _ (Sel.last (gcT g (ad 2) Tv_1) (gcT g (ad 2) Tv_6) rfl rfl)))))) q2_72 3 rfl cf_X1.1 ⟨Nat.le_of_ble_eq_true rfl, Nat.le_of_ble_eq_true rfl⟩ ⟨Nat.zero_le _, Nat.zero_le _⟩ hl.1 rfl rfl (Nat.le_of_ble_eq_true rfl) dX10_fault_19 (fun H locs hw => ?_)
  obtain ⟨rfl, rfl, rfl, rfl⟩ := so4 hf
  exact r_iret C hw rfl dX10_fault_22
set_option maxRecDepth 100000 in
set_option maxHeartbeats 4000000 in
theorem kX10_treaty_64 {l : Launch} {g : evG} {p : Program} {e : Env} {s : State} {m : MethodId} {args : Array Value} {below : List Frame} {meth : Method} {c : Code} {A : Nat → Prop} {ad : Nat → Nat → Nat} {r : Int32} {oe op ol od ok ox ot ov : Gp} (C : ctx g p s m args meth c RX10 cX10_treaty 2 (some .int) A) {rec64 : Gp → Gp → Gp → Gp → Gp → Gp → Gp → Gp → Int32 → Option (Int32 × Gp × Gp × Gp × Gp × Gp × Gp × Gp × Gp)} (hr64 : ∀ (Te : Gp) (Tp : Gp) (Tl : Gp) (Td : Gp) (Tk : Gp) (Tx : Gp) (Tt : Gp) (Tv : Gp) (x1 : Int32) (H : Heap) (locs : List Loc) (ls : Array Slot), rec64 Te Tp Tl Td Tk Tx Tt Tv x1 = some (r, oe, op, ol, od, ok, ox, ot, ov) → wl g A s.heap (gcE g ad Te ++ (gcP g (ad 9) (ad 1) Tp ++ (gcL g (ad 4) (ad 5) Tl ++ (gcD g (ad 6) Td ++ (gcK g (ad 5) (ad 3) Tk ++ (gcX g (ad 3) Tx ++ (gcT g (ad 1) Tt ++ (gcT g (ad 2) Tv)))))))) H locs → lv_has ls 2 [(0, .ref ((ad 0) 0)), (1, .int x1)] → W p l e (rmK 7 150) s m args below meth c H locs 0 0 (MQ below (Qi g A (gcE g ad oe ++ (gcP g (ad 9) (ad 1) op ++ (gcL g (ad 4) (ad 5) ol ++ (gcD g (ad 6) od ++ (gcK g (ad 5) (ad 3) ok ++ (gcX g (ad 3) ox ++ (gcT g (ad 1) ot ++ (gcT g (ad 2) ov)))))))) r) args s 0 0 A) (F0 m 64 ls [])) {Te : Gp} {Tp : Gp} {Tl : Gp} {Td : Gp} {Tk : Gp} {Tx : Gp} {Tt : Gp} {Tv : Gp} {x1 : Int32} {H : Heap} {locs : List Loc} {ls : Array Slot} (hf : fX10_treaty_64 rec64 Te Tp Tl Td Tk Tx Tt Tv x1 = some (r, oe, op, ol, od, ok, ox, ot, ov)) (hw : wl g A s.heap (gcE g ad Te ++ (gcP g (ad 9) (ad 1) Tp ++ (gcL g (ad 4) (ad 5) Tl ++ (gcD g (ad 6) Td ++ (gcK g (ad 5) (ad 3) Tk ++ (gcX g (ad 3) Tx ++ (gcT g (ad 1) Tt ++ (gcT g (ad 2) Tv)))))))) H locs) (hl : lv_has ls 2 [(0, .ref ((ad 0) 0)), (1, .int x1)]) : W p l e (rmK 7 150) s m args below meth c H locs 0 0 (MQ below (Qi g A (gcE g ad oe ++ (gcP g (ad 9) (ad 1) op ++ (gcL g (ad 4) (ad 5) ol ++ (gcD g (ad 6) od ++ (gcK g (ad 5) (ad 3) ok ++ (gcX g (ad 3) ox ++ (gcT g (ad 1) ot ++ (gcT g (ad 2) ov)))))))) r) args s 0 0 A) (F0 m 64 ls []) := by
  obtain ⟨hx, hb, hml, hown, hts, -⟩ := id C
  unfold fX10_treaty_64 at hf
  refine lv_iload_n hx hb dX10_treaty_64 rfl (lv_at hl 1 rfl) ?_
  refine lv_iconst (v := (2 : Int32)) hx hb dX10_treaty_65 rfl ?_
  refine lv_icmp_ge (tgt := 82) hx hb dX10_treaty_66 (by decide) (fun hc2 => ?_) (fun hc2 => ?_)
  · have hf := it_p hf hc2
    refine lv_aload_n hx hb dX10_treaty_82 rfl (lv_at hl 0 rfl) ?_
    refine r_get C hw 0 rfl cf_X10 3 (by decide) q2_13 (v := .ref ((ad 4) 0)) rfl dX10_treaty_83 ?_
    refine r_getN C hw 7 rfl cf_X1 2 (by decide) nq_18 (v := .int (Tl 0 2)) rfl dX10_treaty_86 ?_
    obtain ⟨rfl, rfl, rfl, rfl, rfl, rfl, rfl, rfl, rfl⟩ := so9 hf
    exact r_iret C hw rfl dX10_treaty_89
  · have hf := it_n hf hc2
    refine lv_aload_n hx hb dX10_treaty_69 rfl (lv_at hl 0 rfl) ?_
    refine r_get C hw 0 rfl cf_X10 6 (by decide) q2_16 (v := .ref ((ad 0) 2)) rfl dX10_treaty_70 ?_
    refine lv_iload_n hx hb dX10_treaty_73 rfl (lv_at hl 1 rfl) ?_
    refine lv_iconst (v := (0 : Int32)) hx hb dX10_treaty_74 rfl ?_
    obtain ⟨hi1, hf⟩ := it_g hf
    refine r_zast C hw 2 (f := (Te 2)) rfl hi1 (ws' := (gcE g ad (u2 Te 2 x1.toNatClampNeg (vp_nar .boolean (0 : Int32))) ++ (gcP g (ad 9) (ad 1) Tp ++ (gcL g (ad 4) (ad 5) Tl ++ (gcD g (ad 6) Td ++ (gcK g (ad 5) (ad 3) Tk ++ (gcX g (ad 3) Tx ++ (gcT g (ad 1) Tt ++ (gcT g (ad 2) Tv))))))))) (set_l (Nat.le_of_ble_eq_true rfl) gcE_a2) dX10_treaty_75 (fun H locs hw => ?_)
    refine lv_iinc (v := (x1 + (1 : Int32))) (lv' := [(1, .int (x1 + (1 : Int32))), (0, .ref ((ad 0) 0))]) hx hb dX10_treaty_76 hl (k := 1) rfl rfl (by decide) rfl (fun ls hl => ?_)
    refine lv_goto (tgt := 64) hx hb dX10_treaty_79 (by decide) ?_
    exact hr64 _ _ _ _ _ _ _ _ _ _ _ _ hf hw (lv_sub hl [1, 0] rfl)
set_option maxRecDepth 100000 in
set_option maxHeartbeats 4000000 in
theorem klX10_treaty_64 {l : Launch} {g : evG} {p : Program} {e : Env} {s : State} {m : MethodId} {args : Array Value} {below : List Frame} {meth : Method} {c : Code} {A : Nat → Prop} {ad : Nat → Nat → Nat} {r : Int32} {oe op ol od ok ox ot ov : Gp} (C : ctx g p s m args meth c RX10 cX10_treaty 2 (some .int) A) : ∀ (n : Nat) (Te : Gp) (Tp : Gp) (Tl : Gp) (Td : Gp) (Tk : Gp) (Tx : Gp) (Tt : Gp) (Tv : Gp) (x1 : Int32) (H : Heap) (locs : List Loc) (ls : Array Slot), lX10_treaty_64 n Te Tp Tl Td Tk Tx Tt Tv x1 = some (r, oe, op, ol, od, ok, ox, ot, ov) → wl g A s.heap (gcE g ad Te ++ (gcP g (ad 9) (ad 1) Tp ++ (gcL g (ad 4) (ad 5) Tl ++ (gcD g (ad 6) Td ++ (gcK g (ad 5) (ad 3) Tk ++ (gcX g (ad 3) Tx ++ (gcT g (ad 1) Tt ++ (gcT g (ad 2) Tv)))))))) H locs → lv_has ls 2 [(0, .ref ((ad 0) 0)), (1, .int x1)] → W p l e (rmK 7 150) s m args below meth c H locs 0 0 (MQ below (Qi g A (gcE g ad oe ++ (gcP g (ad 9) (ad 1) op ++ (gcL g (ad 4) (ad 5) ol ++ (gcD g (ad 6) od ++ (gcK g (ad 5) (ad 3) ok ++ (gcX g (ad 3) ox ++ (gcT g (ad 1) ot ++ (gcT g (ad 2) ov)))))))) r) args s 0 0 A) (F0 m 64 ls []) := by
  intro n
  induction n with
  | zero => intro _ _ _ _ _ _ _ _ _ _ _ _ hf; exact no_f hf
  | succ n ih => intro _ _ _ _ _ _ _ _ _ _ _ _ hf hw hl; exact kX10_treaty_64 (ad := ad) (r := r) (oe := oe) (op := op) (ol := ol) (od := od) (ok := ok) (ox := ox) (ot := ot) (ov := ov) C (rec64 := lX10_treaty_64 n) ih hf hw hl
set_option maxRecDepth 100000 in
set_option maxHeartbeats 4000000 in
theorem c_X10_treaty {l : Launch} {g : evG} {ad : Nat → Nat → Nat} {r : Int32} {oe op ol od ok ox ot ov : Gp}  {Te : Gp} {Tp : Gp} {Tl : Gp} {Td : Gp} {Tk : Gp} {Tx : Gp} {Tt : Gp} {Tv : Gp} (hf : fX10_treaty Te Tp Tl Td Tk Tx Tt Tv = some (r, oe, op, ol, od, ok, ox, ot, ov)) : CTi l g yX10_treaty (Cond.code yX10_treaty cX10_treaty 2 (some .int)) 7 150 [.ref ((ad 0) 0)] (gcE g ad Te ++ (gcP g (ad 9) (ad 1) Tp ++ (gcL g (ad 4) (ad 5) Tl ++ (gcD g (ad 6) Td ++ (gcK g (ad 5) (ad 3) Tk ++ (gcX g (ad 3) Tx ++ (gcT g (ad 1) Tt ++ (gcT g (ad 2) Tv)))))))) (gcE g ad oe ++ (gcP g (ad 9) (ad 1) op ++ (gcL g (ad 4) (ad 5) ol ++ (gcD g (ad 6) od ++ (gcK g (ad 5) (ad 3) ok ++ (gcX g (ad 3) ox ++ (gcT g (ad 1) ot ++ (gcT g (ad 2) ov)))))))) r := by
  refine ct_i rfl (Nat.le_of_ble_eq_true rfl) ?_
  intro p e s m args below meth c A ls C hw hl
  have C : ctx g p s m args meth c RX10 cX10_treaty 2 (some .int) A := C
  have hl : lv_has ls 2 [(0, .ref ((ad 0) 0))] := hl
  obtain ⟨hx, hb, hml, hown, hts, -⟩ := id C
  unfold fX10_treaty at hf
  refine lv_aload_n hx hb dX10_treaty_0 rfl (lv_at hl 0 rfl) ?_
  refine r_get C hw 0 rfl cf_X10 1 (by decide) q2_11 (v := .ref ((ad 2) 0)) rfl dX10_treaty_1 ?_
  refine lv_aload_n hx hb dX10_treaty_4 rfl (lv_at hl 0 rfl) ?_
  refine r_get C hw 0 rfl cf_X10 0 (by decide) q2_10 (v := .ref ((ad 1) 0)) rfl dX10_treaty_5 ?_
  obtain ⟨Tv_1, hc2, hf⟩ := bd1_e hf
  refine r_callVv C hw (c_X9_becomeLike (zo := (ad 1)) (zt := (ad 2)) hc2) md_X9_becomeLike [22, 23, 24, 25, 26, 27, 16, 17, 18, 19, 20, 21] rfl rfl rfl q2_68 22 rfl cf_X9.1 ⟨Nat.le_of_ble_eq_true rfl, Nat.le_of_ble_eq_true rfl⟩ ⟨Nat.zero_le _, Nat.zero_le _⟩ hl.1 rfl rfl (Nat.le_of_ble_eq_true rfl) dX10_treaty_8 (fun H locs hw => ?_)
  have hw : wl g A s.heap (gcE g ad Te ++ (gcP g (ad 9) (ad 1) Tp ++ (gcL g (ad 4) (ad 5) Tl ++ (gcD g (ad 6) Td ++ (gcK g (ad 5) (ad 3) Tk ++ (gcX g (ad 3) Tx ++ (gcT g (ad 1) Tt ++ (gcT g (ad 2) Tv_1)))))))) H locs := hw
  refine lv_aload_n hx hb dX10_treaty_11 rfl (lv_at hl 0 rfl) ?_
  refine r_get C hw 0 rfl cf_X10 3 (by decide) q2_13 (v := .ref ((ad 4) 0)) rfl dX10_treaty_12 ?_
  refine lv_aload_n hx hb dX10_treaty_15 rfl (lv_at hl 0 rfl) ?_
  refine r_get C hw 0 rfl cf_X10 1 (by decide) q2_11 (v := .ref ((ad 2) 0)) rfl dX10_treaty_16 ?_
  obtain ⟨r3, Tl_4, Tk_5, Tv_6, hc7, hf⟩ := bd4_e hf
  refine r_selVi C hw (c_X1_readInto (zk := (ad 5)) (zl := (ad 4)) (zv := (ad 2)) (zx := (ad 3)) hc7) md_X1_readInto (Sel.skip _ (Sel.skip _ (Sel.take (gcL g (ad 4) (ad 5) Tl) (gcL g (ad 4) (ad 5) Tl_4) rfl rfl (Sel.skip _ (Sel.take (gcK g (ad 5) (ad 3) Tk) (gcK g (ad 5) (ad 3) Tk_5) rfl rfl (Sel.take (gcX g (ad 3) Tx) (gcX g (ad 3) Tx) rfl rfl (Sel.skip _ (Sel.last (gcT g (ad 2) Tv_1) (gcT g (ad 2) Tv_6) rfl rfl)))))))) q2_72 7 rfl cf_X1.1 ⟨Nat.le_of_ble_eq_true rfl, Nat.le_of_ble_eq_true rfl⟩ ⟨Nat.zero_le _, Nat.zero_le _⟩ hl.1 rfl rfl (Nat.le_of_ble_eq_true rfl) dX10_treaty_19 (fun H locs hw => ?_)
  refine lv_iconst (v := (-1 : Int32)) hx hb dX10_treaty_22 rfl ?_
  refine lv_icmp_eq (tgt := 29) hx hb dX10_treaty_23 (by decide) (fun hc14 => ?_) (fun hc14 => ?_)
  · have hf := it_p hf hc14
    refine lv_aload_n hx hb dX10_treaty_29 rfl (lv_at hl 0 rfl) ?_
    refine r_get C hw 0 rfl cf_X10 0 (by decide) q2_10 (v := .ref ((ad 1) 0)) rfl dX10_treaty_30 ?_
    refine lv_aload_n hx hb dX10_treaty_33 rfl (lv_at hl 0 rfl) ?_
    refine r_get C hw 0 rfl cf_X10 1 (by decide) q2_11 (v := .ref ((ad 2) 0)) rfl dX10_treaty_34 ?_
    obtain ⟨Tt_8, hc9, hf⟩ := bd1_e hf
    refine r_selVv C hw (c_X9_becomeLike (zo := (ad 2)) (zt := (ad 1)) hc9) md_X9_becomeLike (Sel.skip _ (Sel.skip _ (Sel.skip _ (Sel.skip _ (Sel.skip _ (Sel.skip _ (Sel.take (gcT g (ad 1) Tt) (gcT g (ad 1) Tt_8) rfl rfl (Sel.last (gcT g (ad 2) Tv_6) (gcT g (ad 2) Tv_6) rfl rfl)))))))) q2_68 16 rfl cf_X9.1 ⟨Nat.le_of_ble_eq_true rfl, Nat.le_of_ble_eq_true rfl⟩ ⟨Nat.zero_le _, Nat.zero_le _⟩ hl.1 rfl rfl (Nat.le_of_ble_eq_true rfl) dX10_treaty_37 (fun H locs hw => ?_)
    refine lv_aload_n hx hb dX10_treaty_40 rfl (lv_at hl 0 rfl) ?_
    refine r_get C hw 0 rfl cf_X10 2 (by decide) q2_12 (v := .ref ((ad 3) 0)) rfl dX10_treaty_41 ?_
    refine lv_iconst (v := (0 : Int32)) hx hb dX10_treaty_44 rfl ?_
    refine r_putiN C hw 14 rfl cf_X7 0 (by decide) nq_15 rfl rfl (Nat.le_of_ble_eq_true rfl) (ws' := (gcE g ad Te ++ (gcP g (ad 9) (ad 1) Tp ++ (gcL g (ad 4) (ad 5) Tl_4 ++ (gcD g (ad 6) Td ++ (gcK g (ad 5) (ad 3) Tk_5 ++ (gcX g (ad 3) (u2 Tx 0 0 (0 : Int32)) ++ (gcT g (ad 1) Tt_8 ++ (gcT g (ad 2) Tv_6))))))))) (set_r (n := 3) (k := 11) rfl (set_r (n := 4) (k := 7) rfl (set_r (n := 1) (k := 6) rfl (set_r (n := 5) (k := 1) rfl (set_r (n := 1) (k := 0) rfl (set_l (Nat.le_of_ble_eq_true rfl) gcX_p0)))))) dX10_treaty_45 (fun H locs hw => ?_)
    refine lv_aload_n hx hb dX10_treaty_48 rfl (lv_at hl 0 rfl) ?_
    refine r_get C hw 0 rfl cf_X10 4 (by decide) q2_14 (v := .ref ((ad 6) 0)) rfl dX10_treaty_49 ?_
    obtain ⟨Td_10, hc11, hf⟩ := bd1_e hf
    refine r_selVv C hw (c_X0_beginAnew (zd := (ad 6)) hc11) md_X0_beginAnew (Sel.skip _ (Sel.skip _ (Sel.skip _ (Sel.one (gcD g (ad 6) Td) (gcD g (ad 6) Td_10) _ rfl rfl)))) q2_237 8 rfl cf_X0.1 ⟨Nat.le_of_ble_eq_true rfl, Nat.le_of_ble_eq_true rfl⟩ ⟨Nat.zero_le _, Nat.zero_le _⟩ hl.1 rfl rfl (Nat.le_of_ble_eq_true rfl) dX10_treaty_52 (fun H locs hw => ?_)
    refine lv_aload_n hx hb dX10_treaty_55 rfl (lv_at hl 0 rfl) ?_
    refine r_get C hw 0 rfl cf_X10 7 (by decide) q2_17 (v := .ref ((ad 9) 0)) rfl dX10_treaty_56 ?_
    obtain ⟨Tp_12, hc13, hf⟩ := bd1_e hf
    refine r_selVv C hw (c_X5_forget (zp := (ad 9)) (zt := (ad 1)) hc13) md_X5_forget (Sel.skip _ (Sel.one (gcP g (ad 9) (ad 1) Tp) (gcP g (ad 9) (ad 1) Tp_12) _ rfl rfl)) q2_238 3 rfl cf_X5.1 ⟨Nat.le_of_ble_eq_true rfl, Nat.le_of_ble_eq_true rfl⟩ ⟨Nat.zero_le _, Nat.zero_le _⟩ hl.1 rfl rfl (Nat.le_of_ble_eq_true rfl) dX10_treaty_59 (fun H locs hw => ?_)
    refine lv_iconst (v := (0 : Int32)) hx hb dX10_treaty_62 rfl ?_
    refine lv_istore_n (lv' := [(1, .int (0 : Int32)), (0, .ref ((ad 0) 0))]) hx hb dX10_treaty_63 rfl hl (by decide) rfl (fun ls hl => ?_)
    exact klX10_treaty_64 (ad := ad) (r := r) (oe := oe) (op := op) (ol := ol) (od := od) (ok := ok) (ox := ox) (ot := ot) (ov := ov) C fu _ _ _ _ _ _ _ _ _ _ _ _ hf hw (lv_sub hl [1, 0] rfl)
  · have hf := it_n hf hc14
    refine lv_bipush (v := (-4 : Int32)) hx hb dX10_treaty_26 rfl ?_
    obtain ⟨rfl, rfl, rfl, rfl, rfl, rfl, rfl, rfl, rfl⟩ := so9 hf
    exact r_iret C hw rfl dX10_treaty_28
set_option maxRecDepth 100000 in
set_option maxHeartbeats 4000000 in
theorem c_X10_work {l : Launch} {g : evG} {ad : Nat → Nat → Nat} {r : Int32}  {Te : Gp} {Tt : Gp} {x1 : Int32} {x2 : Int32} (hf : fX10_work Te Tt x1 x2 = some (r)) : CTi l g yX10_work (Cond.code yX10_work cX10_work 3 (some .int)) 1 23 [.ref ((ad 0) 0), .int x1, .int x2] (gcE g ad Te ++ (gcT g (ad 1) Tt)) (gcE g ad Te ++ (gcT g (ad 1) Tt)) r := by
  refine ct_i rfl (Nat.le_of_ble_eq_true rfl) ?_
  intro p e s m args below meth c A ls C hw hl
  have C : ctx g p s m args meth c RX10 cX10_work 3 (some .int) A := C
  have hl : lv_has ls 3 [(0, .ref ((ad 0) 0)), (1, .int x1), (2, .int x2)] := hl
  obtain ⟨hx, hb, hml, hown, hts, -⟩ := id C
  unfold fX10_work at hf
  refine lv_iload_n hx hb dX10_work_0 rfl (lv_at hl 1 rfl) ?_
  refine lv_iconst (v := (0 : Int32)) hx hb dX10_work_1 rfl ?_
  refine lv_iconst (v := (5 : Int32)) hx hb dX10_work_2 rfl ?_
  obtain ⟨r1, hc2, hf⟩ := bd1_e hf
  refine r_callSi0 C hw (c_X10_within hc2) md_X10_within [] rfl rfl q2_51 ⟨Nat.le_of_ble_eq_true rfl, Nat.le_of_ble_eq_true rfl⟩ ⟨Nat.zero_le _, Nat.zero_le _⟩ hl.1 rfl rfl (Nat.le_of_ble_eq_true rfl) dX10_work_3 (fun H locs hw => ?_)
  refine lv_if_ne (tgt := 12) hx hb dX10_work_6 (by decide) (fun hc15 => ?_) (fun hc15 => ?_)
  · have hf := it_n hf hc15
    refine lv_iload_n hx hb dX10_work_12 rfl (lv_at hl 2 rfl) ?_
    by_cases hs5 : x2 = (0 : Int32)
    · have hf := it_p hf hs5
      refine lv_tableIn (off := 31) (tgt := 44) hx hb dX10_work_13 (by rw [hs5]; decide) (by rw [hs5]; decide) (by rw [hs5]; rfl) (by decide) ?_
      refine lv_aload_n hx hb dX10_work_44 rfl (lv_at hl 0 rfl) ?_
      refine r_get C hw 0 rfl cf_X10 0 (by decide) q2_10 (v := .ref ((ad 1) 0)) rfl dX10_work_45 ?_
      refine lv_iload_n hx hb dX10_work_48 rfl (lv_at hl 1 rfl) ?_
      obtain ⟨r3, hc4, hf⟩ := bd1_e hf
      refine r_callVi0 C hw (c_X9_classOf (zt := (ad 1)) hc4) md_X9_classOf [3, 4, 5, 6, 7, 8] rfl rfl q3_6 3 rfl cf_X9.1 ⟨Nat.le_of_ble_eq_true rfl, Nat.le_of_ble_eq_true rfl⟩ ⟨Nat.zero_le _, Nat.zero_le _⟩ hl.1 rfl rfl (Nat.le_of_ble_eq_true rfl) dX10_work_49 (fun H locs hw => ?_)
      obtain rfl := so1 hf
      exact r_iret C hw rfl dX10_work_52
    · have hf := it_n hf hs5
      by_cases hs8 : x2 = (1 : Int32)
      · have hf := it_p hf hs8
        refine lv_tableIn (off := 40) (tgt := 53) hx hb dX10_work_13 (by rw [hs8]; decide) (by rw [hs8]; decide) (by rw [hs8]; rfl) (by decide) ?_
        refine lv_aload_n hx hb dX10_work_53 rfl (lv_at hl 0 rfl) ?_
        refine r_get C hw 0 rfl cf_X10 0 (by decide) q2_10 (v := .ref ((ad 1) 0)) rfl dX10_work_54 ?_
        refine lv_iconst (v := (0 : Int32)) hx hb dX10_work_57 rfl ?_
        refine lv_iload_n hx hb dX10_work_58 rfl (lv_at hl 1 rfl) ?_
        obtain ⟨r6, hc7, hf⟩ := bd1_e hf
        refine r_callVi0 C hw (c_X9_breadOf (zt := (ad 1)) hc7) md_X9_breadOf [3, 4, 5, 6, 7, 8] rfl rfl q3_10 3 rfl cf_X9.1 ⟨Nat.le_of_ble_eq_true rfl, Nat.le_of_ble_eq_true rfl⟩ ⟨Nat.zero_le _, Nat.zero_le _⟩ hl.1 rfl rfl (Nat.le_of_ble_eq_true rfl) dX10_work_59 (fun H locs hw => ?_)
        obtain rfl := so1 hf
        exact r_iret C hw rfl dX10_work_62
      · have hf := it_n hf hs8
        by_cases hs11 : x2 = (2 : Int32)
        · have hf := it_p hf hs11
          refine lv_tableIn (off := 50) (tgt := 63) hx hb dX10_work_13 (by rw [hs11]; decide) (by rw [hs11]; decide) (by rw [hs11]; rfl) (by decide) ?_
          refine lv_aload_n hx hb dX10_work_63 rfl (lv_at hl 0 rfl) ?_
          refine r_get C hw 0 rfl cf_X10 0 (by decide) q2_10 (v := .ref ((ad 1) 0)) rfl dX10_work_64 ?_
          refine lv_iconst (v := (1 : Int32)) hx hb dX10_work_67 rfl ?_
          refine lv_iload_n hx hb dX10_work_68 rfl (lv_at hl 1 rfl) ?_
          obtain ⟨r9, hc10, hf⟩ := bd1_e hf
          refine r_callVi0 C hw (c_X9_breadOf (zt := (ad 1)) hc10) md_X9_breadOf [3, 4, 5, 6, 7, 8] rfl rfl q3_10 3 rfl cf_X9.1 ⟨Nat.le_of_ble_eq_true rfl, Nat.le_of_ble_eq_true rfl⟩ ⟨Nat.zero_le _, Nat.zero_le _⟩ hl.1 rfl rfl (Nat.le_of_ble_eq_true rfl) dX10_work_69 (fun H locs hw => ?_)
          obtain rfl := so1 hf
          exact r_iret C hw rfl dX10_work_72
        · have hf := it_n hf hs11
          by_cases hs14 : x2 = (3 : Int32)
          · have hf := it_p hf hs14
            refine lv_tableIn (off := 60) (tgt := 73) hx hb dX10_work_13 (by rw [hs14]; decide) (by rw [hs14]; decide) (by rw [hs14]; rfl) (by decide) ?_
            refine lv_aload_n hx hb dX10_work_73 rfl (lv_at hl 0 rfl) ?_
            refine r_get C hw 0 rfl cf_X10 0 (by decide) q2_10 (v := .ref ((ad 1) 0)) rfl dX10_work_74 ?_
            refine lv_iload_n hx hb dX10_work_77 rfl (lv_at hl 1 rfl) ?_
            obtain ⟨r12, hc13, hf⟩ := bd1_e hf
            refine r_callVi0 C hw (c_X9_worthOf (zt := (ad 1)) hc13) md_X9_worthOf [3, 4, 5, 6, 7, 8] rfl rfl q3_11 3 rfl cf_X9.1 ⟨Nat.le_of_ble_eq_true rfl, Nat.le_of_ble_eq_true rfl⟩ ⟨Nat.zero_le _, Nat.zero_le _⟩ hl.1 rfl rfl (Nat.le_of_ble_eq_true rfl) dX10_work_78 (fun H locs hw => ?_)
            obtain rfl := so1 hf
            exact r_iret C hw rfl dX10_work_81
          · have hf := it_n hf hs14
            refine lv_tableOut (tgt := 82) hx hb dX10_work_13 (sw_o (lo := 0) (hi := 3) (by decide) (by decide) (fun k h1 h2 => ?_)) (by decide) ?_
            · rcases (show k = 0 ∨ k = 1 ∨ k = 2 ∨ k = 3 by omega) with rfl | rfl | rfl | rfl
              · exact hs5
              · exact hs8
              · exact hs11
              · exact hs14
            · refine lv_bipush (v := (-3 : Int32)) hx hb dX10_work_82 rfl ?_
              obtain rfl := so1 hf
              exact r_iret C hw rfl dX10_work_84
  · have hf := it_p hf hc15
    refine lv_bipush (v := (-2 : Int32)) hx hb dX10_work_9 rfl ?_
    obtain rfl := so1 hf
    exact r_iret C hw rfl dX10_work_11
set_option maxRecDepth 100000 in
set_option maxHeartbeats 4000000 in
theorem c_X10_isPerson {l : Launch} {g : evG} {ad : Nat → Nat → Nat} {r : Int32}  {Te : Gp} {Tt : Gp} {x1 : Int32} {x2 : Int32} (hf : fX10_isPerson Te Tt x1 x2 = some (r)) : CTi l g yX10_isPerson (Cond.code yX10_isPerson cX10_isPerson 3 (some .boolean)) 2 43 [.ref ((ad 0) 0), .int x1, .int x2] (gcE g ad Te ++ (gcT g (ad 1) Tt)) (gcE g ad Te ++ (gcT g (ad 1) Tt)) r := by
  refine ct_i rfl (Nat.le_of_ble_eq_true rfl) ?_
  intro p e s m args below meth c A ls C hw hl
  have C : ctx g p s m args meth c RX10 cX10_isPerson 3 (some .boolean) A := C
  have hl : lv_has ls 3 [(0, .ref ((ad 0) 0)), (1, .int x1), (2, .int x2)] := hl
  obtain ⟨hx, hb, hml, hown, hts, -⟩ := id C
  unfold fX10_isPerson at hf
  refine lv_iload_n hx hb dX10_isPerson_0 rfl (lv_at hl 1 rfl) ?_
  obtain ⟨r1, hc2, hf⟩ := bd1_e hf
  refine r_callSi0 C hw (c_X10_isValley hc2) md_X10_isValley [] rfl rfl q3_27 ⟨Nat.le_of_ble_eq_true rfl, Nat.le_of_ble_eq_true rfl⟩ ⟨Nat.zero_le _, Nat.zero_le _⟩ hl.1 rfl rfl (Nat.le_of_ble_eq_true rfl) dX10_isPerson_1 (fun H locs hw => ?_)
  refine lv_if_eq (tgt := 22) hx hb dX10_isPerson_4 (by decide) (fun hc6 => ?_) (fun hc6 => ?_)
  · have hf := it_p hf hc6
    refine lv_iconst (v := (0 : Int32)) hx hb dX10_isPerson_22 rfl ?_
    obtain rfl := so1 hf
    exact r_zret C hw rfl rfl dX10_isPerson_23
  · have hf := it_n hf hc6
    refine lv_aload_n hx hb dX10_isPerson_7 rfl (lv_at hl 0 rfl) ?_
    refine r_get C hw 0 rfl cf_X10 0 (by decide) q2_10 (v := .ref ((ad 1) 0)) rfl dX10_isPerson_8 ?_
    refine lv_iload_n hx hb dX10_isPerson_11 rfl (lv_at hl 2 rfl) ?_
    obtain ⟨r3, hc4, hf⟩ := bd1_e hf
    refine r_callVi0 C hw (c_X9_hasPair (zt := (ad 1)) hc4) md_X9_hasPair [3, 4, 5, 6, 7, 8] rfl rfl q3_30 3 rfl cf_X9.1 ⟨Nat.le_of_ble_eq_true rfl, Nat.le_of_ble_eq_true rfl⟩ ⟨Nat.zero_le _, Nat.zero_le _⟩ hl.1 rfl rfl (Nat.le_of_ble_eq_true rfl) dX10_isPerson_12 (fun H locs hw => ?_)
    refine lv_if_eq (tgt := 22) hx hb dX10_isPerson_15 (by decide) (fun hc5 => ?_) (fun hc5 => ?_)
    · have hf := it_p hf hc5
      refine lv_iconst (v := (0 : Int32)) hx hb dX10_isPerson_22 rfl ?_
      obtain rfl := so1 hf
      exact r_zret C hw rfl rfl dX10_isPerson_23
    · have hf := it_n hf hc5
      refine lv_iconst (v := (1 : Int32)) hx hb dX10_isPerson_18 rfl ?_
      refine lv_goto (tgt := 23) hx hb dX10_isPerson_19 (by decide) ?_
      obtain rfl := so1 hf
      exact r_zret C hw rfl rfl dX10_isPerson_23
set_option maxRecDepth 100000 in
set_option maxHeartbeats 4000000 in
theorem c_X10_isSlot {l : Launch} {g : evG} {ad : Nat → Nat → Nat} {r : Int32}  {Te : Gp} {Tt : Gp} {x1 : Int32} {x2 : Int32} {x3 : Int32} (hf : fX10_isSlot Te Tt x1 x2 x3 = some (r)) : CTi l g yX10_isSlot (Cond.code yX10_isSlot cX10_isSlot 4 (some .boolean)) 3 65 [.ref ((ad 0) 0), .int x1, .int x2, .int x3] (gcE g ad Te ++ (gcT g (ad 1) Tt)) (gcE g ad Te ++ (gcT g (ad 1) Tt)) r := by
  refine ct_i rfl (Nat.le_of_ble_eq_true rfl) ?_
  intro p e s m args below meth c A ls C hw hl
  have C : ctx g p s m args meth c RX10 cX10_isSlot 4 (some .boolean) A := C
  have hl : lv_has ls 4 [(0, .ref ((ad 0) 0)), (1, .int x1), (2, .int x2), (3, .int x3)] := hl
  obtain ⟨hx, hb, hml, hown, hts, -⟩ := id C
  unfold fX10_isSlot at hf
  refine lv_aload_n hx hb dX10_isSlot_0 rfl (lv_at hl 0 rfl) ?_
  refine lv_iload_n hx hb dX10_isSlot_1 rfl (lv_at hl 1 rfl) ?_
  refine lv_iload_n hx hb dX10_isSlot_2 rfl (lv_at hl 2 rfl) ?_
  obtain ⟨r1, hc2, hf⟩ := bd1_e hf
  refine r_callVi0 C hw (c_X10_isPerson (ad := ad) hc2) md_X10_isPerson [0, 1, 2, 3, 4, 5, 6, 7, 8] rfl rfl q3_23 0 rfl cf_X10.1 ⟨Nat.le_of_ble_eq_true rfl, Nat.le_of_ble_eq_true rfl⟩ ⟨Nat.zero_le _, Nat.zero_le _⟩ hl.1 rfl rfl (Nat.le_of_ble_eq_true rfl) dX10_isSlot_3 (fun H locs hw => ?_)
  refine lv_if_eq (tgt := 24) hx hb dX10_isSlot_6 (by decide) (fun hc6 => ?_) (fun hc6 => ?_)
  · have hf := it_p hf hc6
    refine lv_iconst (v := (0 : Int32)) hx hb dX10_isSlot_24 rfl ?_
    obtain rfl := so1 hf
    exact r_zret C hw rfl rfl dX10_isSlot_25
  · have hf := it_n hf hc6
    refine lv_aload_n hx hb dX10_isSlot_9 rfl (lv_at hl 0 rfl) ?_
    refine r_get C hw 0 rfl cf_X10 0 (by decide) q2_10 (v := .ref ((ad 1) 0)) rfl dX10_isSlot_10 ?_
    refine lv_iload_n hx hb dX10_isSlot_13 rfl (lv_at hl 3 rfl) ?_
    obtain ⟨r3, hc4, hf⟩ := bd1_e hf
    refine r_callVi0 C hw (c_X9_hasHour (zt := (ad 1)) hc4) md_X9_hasHour [3, 4, 5, 6, 7, 8] rfl rfl q3_31 3 rfl cf_X9.1 ⟨Nat.le_of_ble_eq_true rfl, Nat.le_of_ble_eq_true rfl⟩ ⟨Nat.zero_le _, Nat.zero_le _⟩ hl.1 rfl rfl (Nat.le_of_ble_eq_true rfl) dX10_isSlot_14 (fun H locs hw => ?_)
    refine lv_if_eq (tgt := 24) hx hb dX10_isSlot_17 (by decide) (fun hc5 => ?_) (fun hc5 => ?_)
    · have hf := it_p hf hc5
      refine lv_iconst (v := (0 : Int32)) hx hb dX10_isSlot_24 rfl ?_
      obtain rfl := so1 hf
      exact r_zret C hw rfl rfl dX10_isSlot_25
    · have hf := it_n hf hc5
      refine lv_iconst (v := (1 : Int32)) hx hb dX10_isSlot_20 rfl ?_
      refine lv_goto (tgt := 25) hx hb dX10_isSlot_21 (by decide) ?_
      obtain rfl := so1 hf
      exact r_zret C hw rfl rfl dX10_isSlot_25
set_option maxRecDepth 100000 in
set_option maxHeartbeats 4000000 in
theorem c_X10_meant {l : Launch} {g : evG} {ad : Nat → Nat → Nat} {r : Int32}  {Te : Gp} {Tt : Gp} {x1 : Int32} {x2 : Int32} {x3 : Int32} {x4 : Int32} (hf : fX10_meant Te Tt x1 x2 x3 x4 = some (r)) : CTi l g yX10_meant (Cond.code yX10_meant cX10_meant 5 (some .int)) 4 88 [.ref ((ad 0) 0), .int x1, .int x2, .int x3, .int x4] (gcE g ad Te ++ (gcT g (ad 1) Tt)) (gcE g ad Te ++ (gcT g (ad 1) Tt)) r := by
  refine ct_i rfl (Nat.le_of_ble_eq_true rfl) ?_
  intro p e s m args below meth c A ls C hw hl
  have C : ctx g p s m args meth c RX10 cX10_meant 5 (some .int) A := C
  have hl : lv_has ls 5 [(0, .ref ((ad 0) 0)), (1, .int x1), (2, .int x2), (3, .int x3), (4, .int x4)] := hl
  obtain ⟨hx, hb, hml, hown, hts, -⟩ := id C
  unfold fX10_meant at hf
  refine lv_aload_n hx hb dX10_meant_0 rfl (lv_at hl 0 rfl) ?_
  refine lv_iload_n hx hb dX10_meant_1 rfl (lv_at hl 2 rfl) ?_
  refine lv_iload_n hx hb dX10_meant_2 rfl (lv_at hl 3 rfl) ?_
  refine lv_iload hx hb dX10_meant_3 (lv_at hl 4 rfl) ?_
  obtain ⟨r1, hc2, hf⟩ := bd1_e hf
  refine r_callVi0 C hw (c_X10_isSlot (ad := ad) hc2) md_X10_isSlot [0, 1, 2, 3, 4, 5, 6, 7, 8] rfl rfl q3_19 0 rfl cf_X10.1 ⟨Nat.le_of_ble_eq_true rfl, Nat.le_of_ble_eq_true rfl⟩ ⟨Nat.zero_le _, Nat.zero_le _⟩ hl.1 rfl rfl (Nat.le_of_ble_eq_true rfl) dX10_meant_5 (fun H locs hw => ?_)
  refine lv_if_ne (tgt := 14) hx hb dX10_meant_8 (by decide) (fun hc8 => ?_) (fun hc8 => ?_)
  · have hf := it_n hf hc8
    refine lv_iload_n hx hb dX10_meant_14 rfl (lv_at hl 1 rfl) ?_
    refine lv_iconst (v := (0 : Int32)) hx hb dX10_meant_15 rfl ?_
    refine lv_iconst (v := (1 : Int32)) hx hb dX10_meant_16 rfl ?_
    obtain ⟨r3, hc4, hf⟩ := bd1_e hf
    refine r_callSi0 C hw (c_X10_within hc4) md_X10_within [] rfl rfl q2_51 ⟨Nat.le_of_ble_eq_true rfl, Nat.le_of_ble_eq_true rfl⟩ ⟨Nat.zero_le _, Nat.zero_le _⟩ hl.1 rfl rfl (Nat.le_of_ble_eq_true rfl) dX10_meant_17 (fun H locs hw => ?_)
    refine lv_if_ne (tgt := 26) hx hb dX10_meant_20 (by decide) (fun hc7 => ?_) (fun hc7 => ?_)
    · have hf := it_n hf hc7
      refine lv_aload_n hx hb dX10_meant_26 rfl (lv_at hl 0 rfl) ?_
      refine r_get C hw 0 rfl cf_X10 0 (by decide) q2_10 (v := .ref ((ad 1) 0)) rfl dX10_meant_27 ?_
      refine lv_iload_n hx hb dX10_meant_30 rfl (lv_at hl 1 rfl) ?_
      refine lv_iload_n hx hb dX10_meant_31 rfl (lv_at hl 2 rfl) ?_
      refine lv_iload_n hx hb dX10_meant_32 rfl (lv_at hl 3 rfl) ?_
      refine lv_iload hx hb dX10_meant_33 (lv_at hl 4 rfl) ?_
      obtain ⟨r5, hc6, hf⟩ := bd1_e hf
      refine r_callVi0 C hw (c_X9_meantOn (zt := (ad 1)) hc6) md_X9_meantOn [3, 4, 5, 6, 7, 8] rfl rfl q3_35 3 rfl cf_X9.1 ⟨Nat.le_of_ble_eq_true rfl, Nat.le_of_ble_eq_true rfl⟩ ⟨Nat.zero_le _, Nat.zero_le _⟩ hl.1 rfl rfl (Nat.le_of_ble_eq_true rfl) dX10_meant_35 (fun H locs hw => ?_)
      obtain rfl := so1 hf
      exact r_iret C hw rfl dX10_meant_38
    · have hf := it_p hf hc7
      refine lv_bipush (v := (-3 : Int32)) hx hb dX10_meant_23 rfl ?_
      obtain rfl := so1 hf
      exact r_iret C hw rfl dX10_meant_25
  · have hf := it_p hf hc8
    refine lv_bipush (v := (-2 : Int32)) hx hb dX10_meant_11 rfl ?_
    obtain rfl := so1 hf
    exact r_iret C hw rfl dX10_meant_13
set_option maxRecDepth 100000 in
set_option maxHeartbeats 4000000 in
theorem c_X10_done {l : Launch} {g : evG} {ad : Nat → Nat → Nat} {r : Int32} {od : Gp}  {Te : Gp} {Td : Gp} {Tt : Gp} {x1 : Int32} {x2 : Int32} {x3 : Int32} {x4 : Int32} (hf : fX10_done Te Td Tt x1 x2 x3 x4 = some (r, od)) : CTi l g yX10_done (Cond.code yX10_done cX10_done 5 (some .int)) 4 88 [.ref ((ad 0) 0), .int x1, .int x2, .int x3, .int x4] (gcE g ad Te ++ (gcD g (ad 6) Td ++ (gcT g (ad 1) Tt))) (gcE g ad Te ++ (gcD g (ad 6) od ++ (gcT g (ad 1) Tt))) r := by
  refine ct_i rfl (Nat.le_of_ble_eq_true rfl) ?_
  intro p e s m args below meth c A ls C hw hl
  have C : ctx g p s m args meth c RX10 cX10_done 5 (some .int) A := C
  have hl : lv_has ls 5 [(0, .ref ((ad 0) 0)), (1, .int x1), (2, .int x2), (3, .int x3), (4, .int x4)] := hl
  obtain ⟨hx, hb, hml, hown, hts, -⟩ := id C
  unfold fX10_done at hf
  refine lv_aload_n hx hb dX10_done_0 rfl (lv_at hl 0 rfl) ?_
  refine lv_iload_n hx hb dX10_done_1 rfl (lv_at hl 1 rfl) ?_
  refine lv_iload_n hx hb dX10_done_2 rfl (lv_at hl 2 rfl) ?_
  refine lv_iload_n hx hb dX10_done_3 rfl (lv_at hl 3 rfl) ?_
  obtain ⟨r1, hc2, hf⟩ := bd1_e hf
  refine r_callVi0 C hw (c_X10_isSlot (ad := ad) hc2) md_X10_isSlot [0, 1, 2, 8, 9, 10, 11, 12, 13] rfl rfl q3_19 0 rfl cf_X10.1 ⟨Nat.le_of_ble_eq_true rfl, Nat.le_of_ble_eq_true rfl⟩ ⟨Nat.zero_le _, Nat.zero_le _⟩ hl.1 rfl rfl (Nat.le_of_ble_eq_true rfl) dX10_done_4 (fun H locs hw => ?_)
  refine lv_if_eq (tgt := 20) hx hb dX10_done_7 (by decide) (fun hc11 => ?_) (fun hc11 => ?_)
  · have hf := it_p hf hc11
    refine lv_bipush (v := (-2 : Int32)) hx hb dX10_done_20 rfl ?_
    obtain ⟨rfl, rfl⟩ := so2 hf
    exact r_iret C hw rfl dX10_done_22
  · have hf := it_n hf hc11
    refine lv_iload hx hb dX10_done_10 (lv_at hl 4 rfl) ?_
    refine lv_iconst (v := (0 : Int32)) hx hb dX10_done_12 rfl ?_
    refine lv_iconst (v := (5 : Int32)) hx hb dX10_done_13 rfl ?_
    obtain ⟨r3, hc4, hf⟩ := bd1_e hf
    refine r_callSi0 C hw (c_X10_within hc4) md_X10_within [] rfl rfl q2_51 ⟨Nat.le_of_ble_eq_true rfl, Nat.le_of_ble_eq_true rfl⟩ ⟨Nat.zero_le _, Nat.zero_le _⟩ hl.1 rfl rfl (Nat.le_of_ble_eq_true rfl) dX10_done_14 (fun H locs hw => ?_)
    refine lv_if_ne (tgt := 23) hx hb dX10_done_17 (by decide) (fun hc10 => ?_) (fun hc10 => ?_)
    · have hf := it_n hf hc10
      refine lv_aload_n hx hb dX10_done_23 rfl (lv_at hl 0 rfl) ?_
      refine r_get C hw 0 rfl cf_X10 0 (by decide) q2_10 (v := .ref ((ad 1) 0)) rfl dX10_done_24 ?_
      refine lv_iload_n hx hb dX10_done_27 rfl (lv_at hl 1 rfl) ?_
      refine lv_iload hx hb dX10_done_28 (lv_at hl 4 rfl) ?_
      obtain ⟨r5, hc6, hf⟩ := bd1_e hf
      refine r_callVi0 C hw (c_X9_canBeDone (zt := (ad 1)) hc6) md_X9_canBeDone [8, 9, 10, 11, 12, 13] rfl rfl q3_44 8 rfl cf_X9.1 ⟨Nat.le_of_ble_eq_true rfl, Nat.le_of_ble_eq_true rfl⟩ ⟨Nat.zero_le _, Nat.zero_le _⟩ hl.1 rfl rfl (Nat.le_of_ble_eq_true rfl) dX10_done_30 (fun H locs hw => ?_)
      refine lv_if_ne (tgt := 39) hx hb dX10_done_33 (by decide) (fun hc9 => ?_) (fun hc9 => ?_)
      · have hf := it_n hf hc9
        refine lv_aload_n hx hb dX10_done_39 rfl (lv_at hl 0 rfl) ?_
        refine r_get C hw 0 rfl cf_X10 4 (by decide) q2_14 (v := .ref ((ad 6) 0)) rfl dX10_done_40 ?_
        refine lv_iload_n hx hb dX10_done_43 rfl (lv_at hl 1 rfl) ?_
        refine lv_iload_n hx hb dX10_done_44 rfl (lv_at hl 2 rfl) ?_
        refine lv_iload_n hx hb dX10_done_45 rfl (lv_at hl 3 rfl) ?_
        refine lv_iload hx hb dX10_done_46 (lv_at hl 4 rfl) ?_
        obtain ⟨Td_7, hc8, hf⟩ := bd1_e hf
        refine r_selVv C hw (c_X0_tellOtherwise (zd := (ad 6)) hc8) md_X0_tellOtherwise (Sel.skip _ (Sel.one (gcD g (ad 6) Td) (gcD g (ad 6) Td_7) _ rfl rfl)) q3_45 3 rfl cf_X0.1 ⟨Nat.le_of_ble_eq_true rfl, Nat.le_of_ble_eq_true rfl⟩ ⟨Nat.zero_le _, Nat.zero_le _⟩ hl.1 rfl rfl (Nat.le_of_ble_eq_true rfl) dX10_done_48 (fun H locs hw => ?_)
        refine lv_iconst (v := (1 : Int32)) hx hb dX10_done_51 rfl ?_
        obtain ⟨rfl, rfl⟩ := so2 hf
        exact r_iret C hw rfl dX10_done_52
      · have hf := it_p hf hc9
        refine lv_bipush (v := (-4 : Int32)) hx hb dX10_done_36 rfl ?_
        obtain ⟨rfl, rfl⟩ := so2 hf
        exact r_iret C hw rfl dX10_done_38
    · have hf := it_p hf hc10
      refine lv_bipush (v := (-2 : Int32)) hx hb dX10_done_20 rfl ?_
      obtain ⟨rfl, rfl⟩ := so2 hf
      exact r_iret C hw rfl dX10_done_22
set_option maxRecDepth 100000 in
set_option maxHeartbeats 4000000 in
theorem kX10_ill_29 {l : Launch} {g : evG} {p : Program} {e : Env} {s : State} {m : MethodId} {args : Array Value} {below : List Frame} {meth : Method} {c : Code} {A : Nat → Prop} {ad : Nat → Nat → Nat} {r : Int32} {od : Gp} (C : ctx g p s m args meth c RX10 cX10_ill 5 (some .int) A) {Te Tt : Gp} {Td : Gp} {x1 : Int32} {x2 : Int32} {x3 : Int32} {y0 : Int32} {H : Heap} {locs : List Loc} {ls : Array Slot} (hf : fX10_ill_29 Te Tt Td x1 x2 x3 y0 = some (r, od)) (hw : wl g A s.heap (gcE g ad Te ++ (gcD g (ad 6) Td ++ (gcT g (ad 1) Tt))) H locs) (hl : lv_has ls 5 [(0, .ref ((ad 0) 0)), (1, .int x1), (2, .int x2), (3, .int x3)]) : W p l e (rmK 3 65) s m args below meth c H locs 0 0 (MQ below (Qi g A (gcE g ad Te ++ (gcD g (ad 6) od ++ (gcT g (ad 1) Tt))) r) args s 0 0 A) (F0 m 29 ls [.int y0]) := by
  obtain ⟨hx, hb, hml, hown, hts, -⟩ := id C
  unfold fX10_ill_29 at hf
  refine lv_istore (lv' := [(4, .int y0), (0, .ref ((ad 0) 0)), (1, .int x1), (2, .int x2), (3, .int x3)]) hx hb dX10_ill_29 hl (by decide) rfl (fun ls hl => ?_)
  refine lv_aload_n hx hb dX10_ill_31 rfl (lv_at hl 1 rfl) ?_
  refine r_get C hw 0 rfl cf_X10 4 (by decide) q2_14 (v := .ref ((ad 6) 0)) rfl dX10_ill_32 ?_
  refine lv_iload_n hx hb dX10_ill_35 rfl (lv_at hl 2 rfl) ?_
  refine lv_iload_n hx hb dX10_ill_36 rfl (lv_at hl 3 rfl) ?_
  refine lv_iload_n hx hb dX10_ill_37 rfl (lv_at hl 4 rfl) ?_
  obtain ⟨Td_1, hc2, hf⟩ := bd1_e hf
  refine r_selVv C hw (c_X0_tellIll (zd := (ad 6)) hc2) md_X0_tellIll (Sel.skip _ (Sel.one (gcD g (ad 6) Td) (gcD g (ad 6) Td_1) _ rfl rfl)) q3_60 3 rfl cf_X0.1 ⟨Nat.le_of_ble_eq_true rfl, Nat.le_of_ble_eq_true rfl⟩ ⟨Nat.zero_le _, Nat.zero_le _⟩ hl.1 rfl rfl (Nat.le_of_ble_eq_true rfl) dX10_ill_38 (fun H locs hw => ?_)
  refine lv_iload hx hb dX10_ill_41 (lv_at hl 0 rfl) ?_
  obtain ⟨rfl, rfl⟩ := so2 hf
  exact r_iret C hw rfl dX10_ill_43
set_option maxRecDepth 100000 in
set_option maxHeartbeats 4000000 in
theorem c_X10_ill {l : Launch} {g : evG} {ad : Nat → Nat → Nat} {r : Int32} {od : Gp}  {Te : Gp} {Td : Gp} {Tt : Gp} {x1 : Int32} {x2 : Int32} {x3 : Int32} (hf : fX10_ill Te Td Tt x1 x2 x3 = some (r, od)) : CTi l g yX10_ill (Cond.code yX10_ill cX10_ill 5 (some .int)) 3 65 [.ref ((ad 0) 0), .int x1, .int x2, .int x3] (gcE g ad Te ++ (gcD g (ad 6) Td ++ (gcT g (ad 1) Tt))) (gcE g ad Te ++ (gcD g (ad 6) od ++ (gcT g (ad 1) Tt))) r := by
  refine ct_i rfl (Nat.le_of_ble_eq_true rfl) ?_
  intro p e s m args below meth c A ls C hw hl
  have C : ctx g p s m args meth c RX10 cX10_ill 5 (some .int) A := C
  have hl : lv_has ls 5 [(0, .ref ((ad 0) 0)), (1, .int x1), (2, .int x2), (3, .int x3)] := hl
  obtain ⟨hx, hb, hml, hown, hts, -⟩ := id C
  unfold fX10_ill at hf
  refine lv_aload_n hx hb dX10_ill_0 rfl (lv_at hl 0 rfl) ?_
  refine lv_iload_n hx hb dX10_ill_1 rfl (lv_at hl 1 rfl) ?_
  refine lv_iload_n hx hb dX10_ill_2 rfl (lv_at hl 2 rfl) ?_
  obtain ⟨r1, hc2, hf⟩ := bd1_e hf
  refine r_callVi0 C hw (c_X10_isPerson (ad := ad) hc2) md_X10_isPerson [0, 1, 2, 8, 9, 10, 11, 12, 13] rfl rfl q3_23 0 rfl cf_X10.1 ⟨Nat.le_of_ble_eq_true rfl, Nat.le_of_ble_eq_true rfl⟩ ⟨Nat.zero_le _, Nat.zero_le _⟩ hl.1 rfl rfl (Nat.le_of_ble_eq_true rfl) dX10_ill_3 (fun H locs hw => ?_)
  refine lv_if_ne (tgt := 12) hx hb dX10_ill_6 (by decide) (fun hc6 => ?_) (fun hc6 => ?_)
  · have hf := it_n hf hc6
    refine lv_aload_n hx hb dX10_ill_12 rfl (lv_at hl 0 rfl) ?_
    refine r_get C hw 0 rfl cf_X10 4 (by decide) q2_14 (v := .ref ((ad 6) 0)) rfl dX10_ill_13 ?_
    refine lv_iload_n hx hb dX10_ill_16 rfl (lv_at hl 1 rfl) ?_
    refine lv_iload_n hx hb dX10_ill_17 rfl (lv_at hl 2 rfl) ?_
    obtain ⟨r3, hc4, hf⟩ := bd1_e hf
    refine r_callVi0 C hw (c_X0_isIll (zd := (ad 6)) hc4) md_X0_isIll [3, 4, 5, 6, 7] rfl rfl q3_55 3 rfl cf_X0.1 ⟨Nat.le_of_ble_eq_true rfl, Nat.le_of_ble_eq_true rfl⟩ ⟨Nat.zero_le _, Nat.zero_le _⟩ hl.1 rfl rfl (Nat.le_of_ble_eq_true rfl) dX10_ill_18 (fun H locs hw => ?_)
    refine lv_if_eq (tgt := 28) hx hb dX10_ill_21 (by decide) (fun hc5 => ?_) (fun hc5 => ?_)
    · have hf := it_p hf hc5
      refine lv_iconst (v := (0 : Int32)) hx hb dX10_ill_28 rfl ?_
      exact kX10_ill_29 (ad := ad) (r := r) (od := od) C hf hw (lv_sub hl [0, 1, 2, 3] rfl)
    · have hf := it_n hf hc5
      refine lv_iconst (v := (1 : Int32)) hx hb dX10_ill_24 rfl ?_
      refine lv_goto (tgt := 29) hx hb dX10_ill_25 (by decide) ?_
      exact kX10_ill_29 (ad := ad) (r := r) (od := od) C hf hw (lv_sub hl [0, 1, 2, 3] rfl)
  · have hf := it_p hf hc6
    refine lv_bipush (v := (-2 : Int32)) hx hb dX10_ill_9 rfl ?_
    obtain ⟨rfl, rfl⟩ := so2 hf
    exact r_iret C hw rfl dX10_ill_11
set_option maxRecDepth 100000 in
set_option maxHeartbeats 4000000 in
theorem kX10_days_15 {l : Launch} {g : evG} {p : Program} {e : Env} {s : State} {m : MethodId} {args : Array Value} {below : List Frame} {meth : Method} {c : Code} {A : Nat → Prop} {ad : Nat → Nat → Nat} {r : Int32} {od : Gp} (C : ctx g p s m args meth c RX10 cX10_days 3 (some .int) A) {Te Tt : Gp} {rec15 : Gp → Int32 → Int32 → Option (Int32 × Gp)} (hr15 : ∀ (Td : Gp) (x1 : Int32) (x2 : Int32) (H : Heap) (locs : List Loc) (ls : Array Slot), rec15 Td x1 x2 = some (r, od) → wl g A s.heap (gcE g ad Te ++ (gcD g (ad 6) Td ++ (gcT g (ad 1) Tt))) H locs → lv_has ls 3 [(0, .ref ((ad 0) 0)), (1, .int x1), (2, .int x2)] → W p l e (rmK 6 141) s m args below meth c H locs 0 0 (MQ below (Qi g A (gcE g ad Te ++ (gcD g (ad 6) od ++ (gcT g (ad 1) Tt))) r) args s 0 0 A) (F0 m 15 ls [])) {Td : Gp} {x1 : Int32} {x2 : Int32} {H : Heap} {locs : List Loc} {ls : Array Slot} (hf : fX10_days_15 Te Tt rec15 Td x1 x2 = some (r, od)) (hw : wl g A s.heap (gcE g ad Te ++ (gcD g (ad 6) Td ++ (gcT g (ad 1) Tt))) H locs) (hl : lv_has ls 3 [(0, .ref ((ad 0) 0)), (1, .int x1), (2, .int x2)]) : W p l e (rmK 6 141) s m args below meth c H locs 0 0 (MQ below (Qi g A (gcE g ad Te ++ (gcD g (ad 6) od ++ (gcT g (ad 1) Tt))) r) args s 0 0 A) (F0 m 15 ls []) := by
  obtain ⟨hx, hb, hml, hown, hts, -⟩ := id C
  unfold fX10_days_15 at hf
  refine lv_iload_n hx hb dX10_days_15 rfl (lv_at hl 2 rfl) ?_
  refine lv_iload_n hx hb dX10_days_16 rfl (lv_at hl 1 rfl) ?_
  refine lv_icmp_ge (tgt := 37) hx hb dX10_days_17 (by decide) (fun hc3 => ?_) (fun hc3 => ?_)
  · have hf := it_p hf hc3
    refine lv_aload_n hx hb dX10_days_37 rfl (lv_at hl 0 rfl) ?_
    refine r_get C hw 0 rfl cf_X10 4 (by decide) q2_14 (v := .ref ((ad 6) 0)) rfl dX10_days_38 ?_
    refine r_getN C hw 3 rfl cf_X0 0 (by decide) nq_19 (v := .int (Td 0 0)) rfl dX10_days_41 ?_
    obtain ⟨rfl, rfl⟩ := so2 hf
    exact r_iret C hw rfl dX10_days_44
  · have hf := it_n hf hc3
    refine lv_aload_n hx hb dX10_days_20 rfl (lv_at hl 0 rfl) ?_
    refine r_get C hw 0 rfl cf_X10 4 (by decide) q2_14 (v := .ref ((ad 6) 0)) rfl dX10_days_21 ?_
    refine lv_aload_n hx hb dX10_days_24 rfl (lv_at hl 0 rfl) ?_
    refine r_get C hw 0 rfl cf_X10 0 (by decide) q2_10 (v := .ref ((ad 1) 0)) rfl dX10_days_25 ?_
    obtain ⟨Td_1, hc2, hf⟩ := bd1_e hf
    refine r_selVv C hw (c_X0_passOne (zd := (ad 6)) (zt := (ad 1)) hc2) md_X0_passOne (Sel.skip _ (Sel.take (gcD g (ad 6) Td) (gcD g (ad 6) Td_1) rfl rfl (Sel.last (gcT g (ad 1) Tt) (gcT g (ad 1) Tt) rfl rfl))) q3_68 3 rfl cf_X0.1 ⟨Nat.le_of_ble_eq_true rfl, Nat.le_of_ble_eq_true rfl⟩ ⟨Nat.zero_le _, Nat.zero_le _⟩ hl.1 rfl rfl (Nat.le_of_ble_eq_true rfl) dX10_days_28 (fun H locs hw => ?_)
    refine lv_iinc (v := (x2 + (1 : Int32))) (lv' := [(2, .int (x2 + (1 : Int32))), (0, .ref ((ad 0) 0)), (1, .int x1)]) hx hb dX10_days_31 hl (k := 2) rfl rfl (by decide) rfl (fun ls hl => ?_)
    refine lv_goto (tgt := 15) hx hb dX10_days_34 (by decide) ?_
    exact hr15 _ _ _ _ _ _ hf hw (lv_sub hl [1, 2, 0] rfl)
set_option maxRecDepth 100000 in
set_option maxHeartbeats 4000000 in
theorem klX10_days_15 {l : Launch} {g : evG} {p : Program} {e : Env} {s : State} {m : MethodId} {args : Array Value} {below : List Frame} {meth : Method} {c : Code} {A : Nat → Prop} {ad : Nat → Nat → Nat} {r : Int32} {od : Gp} (C : ctx g p s m args meth c RX10 cX10_days 3 (some .int) A) {Te Tt : Gp} : ∀ (n : Nat) (Td : Gp) (x1 : Int32) (x2 : Int32) (H : Heap) (locs : List Loc) (ls : Array Slot), lX10_days_15 Te Tt n Td x1 x2 = some (r, od) → wl g A s.heap (gcE g ad Te ++ (gcD g (ad 6) Td ++ (gcT g (ad 1) Tt))) H locs → lv_has ls 3 [(0, .ref ((ad 0) 0)), (1, .int x1), (2, .int x2)] → W p l e (rmK 6 141) s m args below meth c H locs 0 0 (MQ below (Qi g A (gcE g ad Te ++ (gcD g (ad 6) od ++ (gcT g (ad 1) Tt))) r) args s 0 0 A) (F0 m 15 ls []) := by
  intro n
  induction n with
  | zero => intro _ _ _ _ _ _ hf; exact no_f hf
  | succ n ih => intro _ _ _ _ _ _ hf hw hl; exact kX10_days_15 (ad := ad) (r := r) (od := od) C (rec15 := lX10_days_15 Te Tt n) ih hf hw hl
set_option maxRecDepth 100000 in
set_option maxHeartbeats 4000000 in
theorem c_X10_days {l : Launch} {g : evG} {ad : Nat → Nat → Nat} {r : Int32} {od : Gp}  {Te : Gp} {Td : Gp} {Tt : Gp} {x1 : Int32} (hf : fX10_days Te Td Tt x1 = some (r, od)) : CTi l g yX10_days (Cond.code yX10_days cX10_days 3 (some .int)) 6 141 [.ref ((ad 0) 0), .int x1] (gcE g ad Te ++ (gcD g (ad 6) Td ++ (gcT g (ad 1) Tt))) (gcE g ad Te ++ (gcD g (ad 6) od ++ (gcT g (ad 1) Tt))) r := by
  refine ct_i rfl (Nat.le_of_ble_eq_true rfl) ?_
  intro p e s m args below meth c A ls C hw hl
  have C : ctx g p s m args meth c RX10 cX10_days 3 (some .int) A := C
  have hl : lv_has ls 3 [(0, .ref ((ad 0) 0)), (1, .int x1)] := hl
  obtain ⟨hx, hb, hml, hown, hts, -⟩ := id C
  unfold fX10_days at hf
  refine lv_iload_n hx hb dX10_days_0 rfl (lv_at hl 1 rfl) ?_
  refine lv_iconst (v := (1 : Int32)) hx hb dX10_days_1 rfl ?_
  refine lv_bipush (v := (99 : Int32)) hx hb dX10_days_2 rfl ?_
  obtain ⟨r1, hc2, hf⟩ := bd1_e hf
  refine r_callSi0 C hw (c_X10_within hc2) md_X10_within [] rfl rfl q2_51 ⟨Nat.le_of_ble_eq_true rfl, Nat.le_of_ble_eq_true rfl⟩ ⟨Nat.zero_le _, Nat.zero_le _⟩ hl.1 rfl rfl (Nat.le_of_ble_eq_true rfl) dX10_days_4 (fun H locs hw => ?_)
  refine lv_if_ne (tgt := 13) hx hb dX10_days_7 (by decide) (fun hc3 => ?_) (fun hc3 => ?_)
  · have hf := it_n hf hc3
    refine lv_iconst (v := (0 : Int32)) hx hb dX10_days_13 rfl ?_
    refine lv_istore_n (lv' := [(2, .int (0 : Int32)), (0, .ref ((ad 0) 0)), (1, .int x1)]) hx hb dX10_days_14 rfl hl (by decide) rfl (fun ls hl => ?_)
    exact klX10_days_15 (ad := ad) (r := r) (od := od) C fu _ _ _ _ _ _ hf hw (lv_sub hl [1, 2, 0] rfl)
  · have hf := it_p hf hc3
    refine lv_bipush (v := (-3 : Int32)) hx hb dX10_days_10 rfl ?_
    obtain ⟨rfl, rfl⟩ := so2 hf
    exact r_iret C hw rfl dX10_days_12
set_option maxRecDepth 100000 in
set_option maxHeartbeats 4000000 in
theorem c_X10_person {l : Launch} {g : evG} {ad : Nat → Nat → Nat} {r : Int32}  {Te : Gp} {Td : Gp} {Tt : Gp} {x1 : Int32} {x2 : Int32} {x3 : Int32} (hf : fX10_person Te Td Tt x1 x2 x3 = some (r)) : CTi l g yX10_person (Cond.code yX10_person cX10_person 4 (some .int)) 4 93 [.ref ((ad 0) 0), .int x1, .int x2, .int x3] (gcE g ad Te ++ (gcD g (ad 6) Td ++ (gcT g (ad 1) Tt))) (gcE g ad Te ++ (gcD g (ad 6) Td ++ (gcT g (ad 1) Tt))) r := by
  refine ct_i rfl (Nat.le_of_ble_eq_true rfl) ?_
  intro p e s m args below meth c A ls C hw hl
  have C : ctx g p s m args meth c RX10 cX10_person 4 (some .int) A := C
  have hl : lv_has ls 4 [(0, .ref ((ad 0) 0)), (1, .int x1), (2, .int x2), (3, .int x3)] := hl
  obtain ⟨hx, hb, hml, hown, hts, -⟩ := id C
  unfold fX10_person at hf
  refine lv_aload_n hx hb dX10_person_0 rfl (lv_at hl 0 rfl) ?_
  refine lv_iload_n hx hb dX10_person_1 rfl (lv_at hl 1 rfl) ?_
  refine lv_iload_n hx hb dX10_person_2 rfl (lv_at hl 2 rfl) ?_
  obtain ⟨r1, hc2, hf⟩ := bd1_e hf
  refine r_callVi0 C hw (c_X10_isPerson (ad := ad) hc2) md_X10_isPerson [0, 1, 2, 8, 9, 10, 11, 12, 13] rfl rfl q3_23 0 rfl cf_X10.1 ⟨Nat.le_of_ble_eq_true rfl, Nat.le_of_ble_eq_true rfl⟩ ⟨Nat.zero_le _, Nat.zero_le _⟩ hl.1 rfl rfl (Nat.le_of_ble_eq_true rfl) dX10_person_3 (fun H locs hw => ?_)
  refine lv_if_ne (tgt := 12) hx hb dX10_person_6 (by decide) (fun hc14 => ?_) (fun hc14 => ?_)
  · have hf := it_n hf hc14
    refine lv_iload_n hx hb dX10_person_12 rfl (lv_at hl 3 rfl) ?_
    refine lv_if_ne (tgt := 26) hx hb dX10_person_13 (by decide) (fun hc13 => ?_) (fun hc13 => ?_)
    · have hf := it_n hf hc13
      refine lv_iload_n hx hb dX10_person_26 rfl (lv_at hl 3 rfl) ?_
      refine lv_iconst (v := (1 : Int32)) hx hb dX10_person_27 rfl ?_
      refine lv_icmp_ne (tgt := 41) hx hb dX10_person_28 (by decide) (fun hc10 => ?_) (fun hc10 => ?_)
      · have hf := it_n hf hc10
        refine lv_iload_n hx hb dX10_person_41 rfl (lv_at hl 3 rfl) ?_
        refine lv_bipush (v := (10 : Int32)) hx hb dX10_person_42 rfl ?_
        refine lv_bipush (v := (10 : Int32)) hx hb dX10_person_44 rfl ?_
        refine lv_aload_n hx hb dX10_person_46 rfl (lv_at hl 0 rfl) ?_
        refine r_get C hw 0 rfl cf_X10 0 (by decide) q2_10 (v := .ref ((ad 1) 0)) rfl dX10_person_47 ?_
        refine r_getN C hw 8 rfl cf_X9 1 (by decide) nq_6 (v := .int (Tt 0 1)) rfl dX10_person_50 ?_
        refine lv_iadd hx hb dX10_person_53 ?_
        refine lv_iconst (v := (1 : Int32)) hx hb dX10_person_54 rfl ?_
        refine lv_isub hx hb dX10_person_55 ?_
        obtain ⟨r3, hc4, hf⟩ := bd1_e hf
        refine r_callSi0 C hw (c_X10_within hc4) md_X10_within [] rfl rfl q2_51 ⟨Nat.le_of_ble_eq_true rfl, Nat.le_of_ble_eq_true rfl⟩ ⟨Nat.zero_le _, Nat.zero_le _⟩ hl.1 rfl rfl (Nat.le_of_ble_eq_true rfl) dX10_person_56 (fun H locs hw => ?_)
        refine lv_if_ne (tgt := 65) hx hb dX10_person_59 (by decide) (fun hc7 => ?_) (fun hc7 => ?_)
        · have hf := it_n hf hc7
          refine lv_aload_n hx hb dX10_person_65 rfl (lv_at hl 0 rfl) ?_
          refine r_get C hw 0 rfl cf_X10 4 (by decide) q2_14 (v := .ref ((ad 6) 0)) rfl dX10_person_66 ?_
          refine lv_aload_n hx hb dX10_person_69 rfl (lv_at hl 0 rfl) ?_
          refine r_get C hw 0 rfl cf_X10 0 (by decide) q2_10 (v := .ref ((ad 1) 0)) rfl dX10_person_70 ?_
          refine lv_iload_n hx hb dX10_person_73 rfl (lv_at hl 1 rfl) ?_
          refine lv_iload_n hx hb dX10_person_74 rfl (lv_at hl 2 rfl) ?_
          refine lv_iload_n hx hb dX10_person_75 rfl (lv_at hl 3 rfl) ?_
          refine lv_bipush (v := (10 : Int32)) hx hb dX10_person_76 rfl ?_
          refine lv_isub hx hb dX10_person_78 ?_
          obtain ⟨r5, hc6, hf⟩ := bd1_e hf
          refine r_callVi0 C hw (c_X0_workOf (zd := (ad 6)) (zt := (ad 1)) hc6) md_X0_workOf [3, 4, 5, 6, 7, 8, 9, 10, 11, 12, 13] rfl rfl q3_135 3 rfl cf_X0.1 ⟨Nat.le_of_ble_eq_true rfl, Nat.le_of_ble_eq_true rfl⟩ ⟨Nat.zero_le _, Nat.zero_le _⟩ hl.1 rfl rfl (Nat.le_of_ble_eq_true rfl) dX10_person_79 (fun H locs hw => ?_)
          obtain rfl := so1 hf
          exact r_iret C hw rfl dX10_person_82
        · have hf := it_p hf hc7
          refine lv_bipush (v := (-3 : Int32)) hx hb dX10_person_62 rfl ?_
          obtain rfl := so1 hf
          exact r_iret C hw rfl dX10_person_64
      · have hf := it_p hf hc10
        refine lv_aload_n hx hb dX10_person_31 rfl (lv_at hl 0 rfl) ?_
        refine r_get C hw 0 rfl cf_X10 4 (by decide) q2_14 (v := .ref ((ad 6) 0)) rfl dX10_person_32 ?_
        refine lv_iload_n hx hb dX10_person_35 rfl (lv_at hl 1 rfl) ?_
        refine lv_iload_n hx hb dX10_person_36 rfl (lv_at hl 2 rfl) ?_
        obtain ⟨r8, hc9, hf⟩ := bd1_e hf
        refine r_callVi0 C hw (c_X0_owedBy (zd := (ad 6)) hc9) md_X0_owedBy [3, 4, 5, 6, 7] rfl rfl q3_131 3 rfl cf_X0.1 ⟨Nat.le_of_ble_eq_true rfl, Nat.le_of_ble_eq_true rfl⟩ ⟨Nat.zero_le _, Nat.zero_le _⟩ hl.1 rfl rfl (Nat.le_of_ble_eq_true rfl) dX10_person_37 (fun H locs hw => ?_)
        obtain rfl := so1 hf
        exact r_iret C hw rfl dX10_person_40
    · have hf := it_p hf hc13
      refine lv_aload_n hx hb dX10_person_16 rfl (lv_at hl 0 rfl) ?_
      refine r_get C hw 0 rfl cf_X10 4 (by decide) q2_14 (v := .ref ((ad 6) 0)) rfl dX10_person_17 ?_
      refine lv_iload_n hx hb dX10_person_20 rfl (lv_at hl 1 rfl) ?_
      refine lv_iload_n hx hb dX10_person_21 rfl (lv_at hl 2 rfl) ?_
      obtain ⟨r11, hc12, hf⟩ := bd1_e hf
      refine r_callVi0 C hw (c_X0_faultsOf (zd := (ad 6)) hc12) md_X0_faultsOf [3, 4, 5, 6, 7] rfl rfl q3_127 3 rfl cf_X0.1 ⟨Nat.le_of_ble_eq_true rfl, Nat.le_of_ble_eq_true rfl⟩ ⟨Nat.zero_le _, Nat.zero_le _⟩ hl.1 rfl rfl (Nat.le_of_ble_eq_true rfl) dX10_person_22 (fun H locs hw => ?_)
      obtain rfl := so1 hf
      exact r_iret C hw rfl dX10_person_25
  · have hf := it_p hf hc14
    refine lv_bipush (v := (-2 : Int32)) hx hb dX10_person_9 rfl ?_
    obtain rfl := so1 hf
    exact r_iret C hw rfl dX10_person_11
set_option maxRecDepth 100000 in
set_option maxHeartbeats 4000000 in
theorem c_X10_bread {l : Launch} {g : evG} {ad : Nat → Nat → Nat} {r : Int32}  {Te : Gp} {Td : Gp} {x1 : Int32} (hf : fX10_bread Te Td x1 = some (r)) : CTi l g yX10_bread (Cond.code yX10_bread cX10_bread 2 (some .int)) 2 42 [.ref ((ad 0) 0), .int x1] (gcE g ad Te ++ (gcD g (ad 6) Td)) (gcE g ad Te ++ (gcD g (ad 6) Td)) r := by
  refine ct_i rfl (Nat.le_of_ble_eq_true rfl) ?_
  intro p e s m args below meth c A ls C hw hl
  have C : ctx g p s m args meth c RX10 cX10_bread 2 (some .int) A := C
  have hl : lv_has ls 2 [(0, .ref ((ad 0) 0)), (1, .int x1)] := hl
  obtain ⟨hx, hb, hml, hown, hts, -⟩ := id C
  unfold fX10_bread at hf
  refine lv_iload_n hx hb dX10_bread_0 rfl (lv_at hl 1 rfl) ?_
  obtain ⟨r1, hc2, hf⟩ := bd1_e hf
  refine r_callSi0 C hw (c_X10_isValley hc2) md_X10_isValley [] rfl rfl q3_27 ⟨Nat.le_of_ble_eq_true rfl, Nat.le_of_ble_eq_true rfl⟩ ⟨Nat.zero_le _, Nat.zero_le _⟩ hl.1 rfl rfl (Nat.le_of_ble_eq_true rfl) dX10_bread_1 (fun H locs hw => ?_)
  refine lv_if_ne (tgt := 10) hx hb dX10_bread_4 (by decide) (fun hc4 => ?_) (fun hc4 => ?_)
  · have hf := it_n hf hc4
    refine lv_aload_n hx hb dX10_bread_10 rfl (lv_at hl 0 rfl) ?_
    refine r_get C hw 0 rfl cf_X10 4 (by decide) q2_14 (v := .ref ((ad 6) 0)) rfl dX10_bread_11 ?_
    refine r_getN C hw 3 rfl cf_X0 2 (by decide) nq_20 (v := .ref ((ad 6) 1)) rfl dX10_bread_14 ?_
    refine lv_iload_n hx hb dX10_bread_17 rfl (lv_at hl 1 rfl) ?_
    obtain ⟨hi3, hf⟩ := it_g hf
    refine r_iald C hw 4 (f := (Td 1)) rfl hi3 dX10_bread_18 ?_
    refine lv_ldc (v := (100000 : Int32)) hx hb hown (hts _ q3_140) dX10_bread_19 ?_
    refine lv_iadd hx hb dX10_bread_21 ?_
    obtain rfl := so1 hf
    exact r_iret C hw rfl dX10_bread_22
  · have hf := it_p hf hc4
    refine lv_bipush (v := (-2 : Int32)) hx hb dX10_bread_7 rfl ?_
    obtain rfl := so1 hf
    exact r_iret C hw rfl dX10_bread_9
set_option maxRecDepth 100000 in
set_option maxHeartbeats 4000000 in
theorem kX10_breaches_18 {l : Launch} {g : evG} {p : Program} {e : Env} {s : State} {m : MethodId} {args : Array Value} {below : List Frame} {meth : Method} {c : Code} {A : Nat → Prop} {ad : Nat → Nat → Nat} {r : Int32} (C : ctx g p s m args meth c RX10 cX10_breaches 4 (some .int) A) {Te Td Tt : Gp} {rec18 : Int32 → Int32 → Int32 → Option (Int32)} (hr18 : ∀ (x1 : Int32) (x2 : Int32) (x3 : Int32) (H : Heap) (locs : List Loc) (ls : Array Slot), rec18 x1 x2 x3 = some (r) → wl g A s.heap (gcE g ad Te ++ (gcD g (ad 6) Td ++ (gcT g (ad 1) Tt))) H locs → lv_has ls 4 [(0, .ref ((ad 0) 0)), (1, .int x1), (2, .int x2), (3, .int x3)] → W p l e (rmK 5 118) s m args below meth c H locs 0 0 (MQ below (Qi g A (gcE g ad Te ++ (gcD g (ad 6) Td ++ (gcT g (ad 1) Tt))) r) args s 0 0 A) (F0 m 18 ls [])) {x1 : Int32} {x2 : Int32} {x3 : Int32} {H : Heap} {locs : List Loc} {ls : Array Slot} (hf : fX10_breaches_18 Te Td Tt rec18 x1 x2 x3 = some (r)) (hw : wl g A s.heap (gcE g ad Te ++ (gcD g (ad 6) Td ++ (gcT g (ad 1) Tt))) H locs) (hl : lv_has ls 4 [(0, .ref ((ad 0) 0)), (1, .int x1), (2, .int x2), (3, .int x3)]) : W p l e (rmK 5 118) s m args below meth c H locs 0 0 (MQ below (Qi g A (gcE g ad Te ++ (gcD g (ad 6) Td ++ (gcT g (ad 1) Tt))) r) args s 0 0 A) (F0 m 18 ls []) := by
  obtain ⟨hx, hb, hml, hown, hts, -⟩ := id C
  unfold fX10_breaches_18 at hf
  refine lv_iload_n hx hb dX10_breaches_18 rfl (lv_at hl 3 rfl) ?_
  refine lv_aload_n hx hb dX10_breaches_19 rfl (lv_at hl 0 rfl) ?_
  refine r_get C hw 0 rfl cf_X10 0 (by decide) q2_10 (v := .ref ((ad 1) 0)) rfl dX10_breaches_20 ?_
  refine r_getN C hw 8 rfl cf_X9 1 (by decide) nq_6 (v := .int (Tt 0 1)) rfl dX10_breaches_23 ?_
  refine lv_icmp_ge (tgt := 57) hx hb dX10_breaches_26 (by decide) (fun hc4 => ?_) (fun hc4 => ?_)
  · have hf := it_p hf hc4
    refine lv_iload_n hx hb dX10_breaches_57 rfl (lv_at hl 2 rfl) ?_
    obtain rfl := so1 hf
    exact r_iret C hw rfl dX10_breaches_58
  · have hf := it_n hf hc4
    refine lv_aload_n hx hb dX10_breaches_29 rfl (lv_at hl 0 rfl) ?_
    refine r_get C hw 0 rfl cf_X10 4 (by decide) q2_14 (v := .ref ((ad 6) 0)) rfl dX10_breaches_30 ?_
    refine lv_aload_n hx hb dX10_breaches_33 rfl (lv_at hl 0 rfl) ?_
    refine r_get C hw 0 rfl cf_X10 0 (by decide) q2_10 (v := .ref ((ad 1) 0)) rfl dX10_breaches_34 ?_
    refine lv_iload_n hx hb dX10_breaches_37 rfl (lv_at hl 1 rfl) ?_
    refine lv_iload_n hx hb dX10_breaches_38 rfl (lv_at hl 3 rfl) ?_
    obtain ⟨r1, hc2, hf⟩ := bd1_e hf
    refine r_callVi0 C hw (c_X0_isBreach (zd := (ad 6)) (zt := (ad 1)) hc2) md_X0_isBreach [3, 4, 5, 6, 7, 8, 9, 10, 11, 12, 13] rfl rfl q3_145 3 rfl cf_X0.1 ⟨Nat.le_of_ble_eq_true rfl, Nat.le_of_ble_eq_true rfl⟩ ⟨Nat.zero_le _, Nat.zero_le _⟩ hl.1 rfl rfl (Nat.le_of_ble_eq_true rfl) dX10_breaches_39 (fun H locs hw => ?_)
    refine lv_if_eq (tgt := 51) hx hb dX10_breaches_42 (by decide) (fun hc3 => ?_) (fun hc3 => ?_)
    · have hf := it_p hf hc3
      refine lv_iinc (v := (x3 + (1 : Int32))) (lv' := [(3, .int (x3 + (1 : Int32))), (0, .ref ((ad 0) 0)), (1, .int x1), (2, .int x2)]) hx hb dX10_breaches_51 hl (k := 3) rfl rfl (by decide) rfl (fun ls hl => ?_)
      refine lv_goto (tgt := 18) hx hb dX10_breaches_54 (by decide) ?_
      exact hr18 _ _ _ _ _ _ hf hw (lv_sub hl [1, 2, 3, 0] rfl)
    · have hf := it_n hf hc3
      refine lv_iload_n hx hb dX10_breaches_45 rfl (lv_at hl 2 rfl) ?_
      refine lv_iconst (v := (1 : Int32)) hx hb dX10_breaches_46 rfl ?_
      refine lv_iload_n hx hb dX10_breaches_47 rfl (lv_at hl 3 rfl) ?_
      refine lv_ishl hx hb dX10_breaches_48 ?_
      refine lv_ior hx hb dX10_breaches_49 ?_
      refine lv_istore_n (lv' := [(2, .int (x2 ||| ((1 : Int32) <<< (x3 &&& 31)))), (0, .ref ((ad 0) 0)), (1, .int x1), (3, .int x3)]) hx hb dX10_breaches_50 rfl hl (by decide) rfl (fun ls hl => ?_)
      refine lv_iinc (v := (x3 + (1 : Int32))) (lv' := [(3, .int (x3 + (1 : Int32))), (2, .int (x2 ||| ((1 : Int32) <<< (x3 &&& 31)))), (0, .ref ((ad 0) 0)), (1, .int x1)]) hx hb dX10_breaches_51 hl (k := 3) rfl rfl (by decide) rfl (fun ls hl => ?_)
      refine lv_goto (tgt := 18) hx hb dX10_breaches_54 (by decide) ?_
      exact hr18 _ _ _ _ _ _ hf hw (lv_sub hl [2, 3, 1, 0] rfl)
set_option maxRecDepth 100000 in
set_option maxHeartbeats 4000000 in
theorem klX10_breaches_18 {l : Launch} {g : evG} {p : Program} {e : Env} {s : State} {m : MethodId} {args : Array Value} {below : List Frame} {meth : Method} {c : Code} {A : Nat → Prop} {ad : Nat → Nat → Nat} {r : Int32} (C : ctx g p s m args meth c RX10 cX10_breaches 4 (some .int) A) {Te Td Tt : Gp} : ∀ (n : Nat) (x1 : Int32) (x2 : Int32) (x3 : Int32) (H : Heap) (locs : List Loc) (ls : Array Slot), lX10_breaches_18 Te Td Tt n x1 x2 x3 = some (r) → wl g A s.heap (gcE g ad Te ++ (gcD g (ad 6) Td ++ (gcT g (ad 1) Tt))) H locs → lv_has ls 4 [(0, .ref ((ad 0) 0)), (1, .int x1), (2, .int x2), (3, .int x3)] → W p l e (rmK 5 118) s m args below meth c H locs 0 0 (MQ below (Qi g A (gcE g ad Te ++ (gcD g (ad 6) Td ++ (gcT g (ad 1) Tt))) r) args s 0 0 A) (F0 m 18 ls []) := by
  intro n
  induction n with
  | zero => intro _ _ _ _ _ _ hf; exact no_f hf
  | succ n ih => intro _ _ _ _ _ _ hf hw hl; exact kX10_breaches_18 (ad := ad) (r := r) C (rec18 := lX10_breaches_18 Te Td Tt n) ih hf hw hl
set_option maxRecDepth 100000 in
set_option maxHeartbeats 4000000 in
theorem c_X10_breaches {l : Launch} {g : evG} {ad : Nat → Nat → Nat} {r : Int32}  {Te : Gp} {Td : Gp} {Tt : Gp} {x1 : Int32} (hf : fX10_breaches Te Td Tt x1 = some (r)) : CTi l g yX10_breaches (Cond.code yX10_breaches cX10_breaches 4 (some .int)) 5 118 [.ref ((ad 0) 0), .int x1] (gcE g ad Te ++ (gcD g (ad 6) Td ++ (gcT g (ad 1) Tt))) (gcE g ad Te ++ (gcD g (ad 6) Td ++ (gcT g (ad 1) Tt))) r := by
  refine ct_i rfl (Nat.le_of_ble_eq_true rfl) ?_
  intro p e s m args below meth c A ls C hw hl
  have C : ctx g p s m args meth c RX10 cX10_breaches 4 (some .int) A := C
  have hl : lv_has ls 4 [(0, .ref ((ad 0) 0)), (1, .int x1)] := hl
  obtain ⟨hx, hb, hml, hown, hts, -⟩ := id C
  unfold fX10_breaches at hf
  refine lv_aload_n hx hb dX10_breaches_0 rfl (lv_at hl 0 rfl) ?_
  refine r_get C hw 0 rfl cf_X10 0 (by decide) q2_10 (v := .ref ((ad 1) 0)) rfl dX10_breaches_1 ?_
  refine lv_iload_n hx hb dX10_breaches_4 rfl (lv_at hl 1 rfl) ?_
  obtain ⟨r1, hc2, hf⟩ := bd1_e hf
  refine r_callVi0 C hw (c_X9_hasPair (zt := (ad 1)) hc2) md_X9_hasPair [8, 9, 10, 11, 12, 13] rfl rfl q3_30 8 rfl cf_X9.1 ⟨Nat.le_of_ble_eq_true rfl, Nat.le_of_ble_eq_true rfl⟩ ⟨Nat.zero_le _, Nat.zero_le _⟩ hl.1 rfl rfl (Nat.le_of_ble_eq_true rfl) dX10_breaches_5 (fun H locs hw => ?_)
  refine lv_if_ne (tgt := 14) hx hb dX10_breaches_8 (by decide) (fun hc3 => ?_) (fun hc3 => ?_)
  · have hf := it_n hf hc3
    refine lv_iconst (v := (0 : Int32)) hx hb dX10_breaches_14 rfl ?_
    refine lv_istore_n (lv' := [(2, .int (0 : Int32)), (0, .ref ((ad 0) 0)), (1, .int x1)]) hx hb dX10_breaches_15 rfl hl (by decide) rfl (fun ls hl => ?_)
    refine lv_iconst (v := (0 : Int32)) hx hb dX10_breaches_16 rfl ?_
    refine lv_istore_n (lv' := [(3, .int (0 : Int32)), (2, .int (0 : Int32)), (0, .ref ((ad 0) 0)), (1, .int x1)]) hx hb dX10_breaches_17 rfl hl (by decide) rfl (fun ls hl => ?_)
    exact klX10_breaches_18 (ad := ad) (r := r) C fu _ _ _ _ _ _ hf hw (lv_sub hl [2, 3, 1, 0] rfl)
  · have hf := it_p hf hc3
    refine lv_bipush (v := (-2 : Int32)) hx hb dX10_breaches_11 rfl ?_
    obtain rfl := so1 hf
    exact r_iret C hw rfl dX10_breaches_13
set_option maxRecDepth 100000 in
set_option maxHeartbeats 4000000 in
theorem c_X10_as {l : Launch} {g : evG} {ad : Nat → Nat → Nat} {r : Int32}  {Te : Gp} {Td : Gp} {Tt : Gp} {x1 : Int32} {x2 : Int32} (hf : fX10_as Te Td Tt x1 x2 = some (r)) : CTi l g yX10_as (Cond.code yX10_as cX10_as 3 (some .int)) 2 45 [.ref ((ad 0) 0), .int x1, .int x2] (gcE g ad Te ++ (gcD g (ad 6) Td ++ (gcT g (ad 1) Tt))) (gcE g ad Te ++ (gcD g (ad 6) Td ++ (gcT g (ad 1) Tt))) r := by
  refine ct_i rfl (Nat.le_of_ble_eq_true rfl) ?_
  intro p e s m args below meth c A ls C hw hl
  have C : ctx g p s m args meth c RX10 cX10_as 3 (some .int) A := C
  have hl : lv_has ls 3 [(0, .ref ((ad 0) 0)), (1, .int x1), (2, .int x2)] := hl
  obtain ⟨hx, hb, hml, hown, hts, -⟩ := id C
  unfold fX10_as at hf
  refine lv_aload_n hx hb dX10_as_0 rfl (lv_at hl 0 rfl) ?_
  refine r_get C hw 0 rfl cf_X10 0 (by decide) q2_10 (v := .ref ((ad 1) 0)) rfl dX10_as_1 ?_
  refine lv_iload_n hx hb dX10_as_4 rfl (lv_at hl 1 rfl) ?_
  obtain ⟨r1, hc2, hf⟩ := bd1_e hf
  refine r_callVi0 C hw (c_X9_hasPair (zt := (ad 1)) hc2) md_X9_hasPair [8, 9, 10, 11, 12, 13] rfl rfl q3_30 8 rfl cf_X9.1 ⟨Nat.le_of_ble_eq_true rfl, Nat.le_of_ble_eq_true rfl⟩ ⟨Nat.zero_le _, Nat.zero_le _⟩ hl.1 rfl rfl (Nat.le_of_ble_eq_true rfl) dX10_as_5 (fun H locs hw => ?_)
  refine lv_if_ne (tgt := 14) hx hb dX10_as_8 (by decide) (fun hc15 => ?_) (fun hc15 => ?_)
  · have hf := it_n hf hc15
    refine lv_iload_n hx hb dX10_as_14 rfl (lv_at hl 2 rfl) ?_
    refine lv_iconst (v := (0 : Int32)) hx hb dX10_as_15 rfl ?_
    refine r_getKA C hw.2.2 q3_150 dX10_as_16 ?_
    refine r_lenKA C hw.2.2 dX10_as_19 ?_
    refine lv_iconst (v := (1 : Int32)) hx hb dX10_as_20 rfl ?_
    refine lv_isub hx hb dX10_as_21 ?_
    obtain ⟨r3, hc4, hf⟩ := bd1_e hf
    refine r_callSi0 C hw (c_X10_within hc4) md_X10_within [] rfl rfl q2_51 ⟨Nat.le_of_ble_eq_true rfl, Nat.le_of_ble_eq_true rfl⟩ ⟨Nat.zero_le _, Nat.zero_le _⟩ hl.1 rfl rfl (Nat.le_of_ble_eq_true rfl) dX10_as_22 (fun H locs hw => ?_)
    refine lv_if_ne (tgt := 31) hx hb dX10_as_25 (by decide) (fun hc14 => ?_) (fun hc14 => ?_)
    · have hf := it_n hf hc14
      refine lv_aload_n hx hb dX10_as_31 rfl (lv_at hl 0 rfl) ?_
      refine r_get C hw 0 rfl cf_X10 0 (by decide) q2_10 (v := .ref ((ad 1) 0)) rfl dX10_as_32 ?_
      refine lv_iload_n hx hb dX10_as_35 rfl (lv_at hl 1 rfl) ?_
      obtain ⟨r5, hc6, hf⟩ := bd1_e hf
      refine r_callVi0 C hw (c_X9_kindOf (zt := (ad 1)) hc6) md_X9_kindOf [8, 9, 10, 11, 12, 13] rfl rfl q3_152 8 rfl cf_X9.1 ⟨Nat.le_of_ble_eq_true rfl, Nat.le_of_ble_eq_true rfl⟩ ⟨Nat.zero_le _, Nat.zero_le _⟩ hl.1 rfl rfl (Nat.le_of_ble_eq_true rfl) dX10_as_36 (fun H locs hw => ?_)
      refine lv_iload_n hx hb dX10_as_39 rfl (lv_at hl 2 rfl) ?_
      obtain ⟨r7, hc8, hf⟩ := bd1_e hf
      refine r_callSi0 C hw (c_X10_isSuch hc8) md_X10_isSuch [] rfl rfl q3_153 ⟨Nat.le_of_ble_eq_true rfl, Nat.le_of_ble_eq_true rfl⟩ ⟨Nat.zero_le _, Nat.zero_le _⟩ hl.1 rfl rfl (Nat.le_of_ble_eq_true rfl) dX10_as_40 (fun H locs hw => ?_)
      refine lv_if_ne (tgt := 49) hx hb dX10_as_43 (by decide) (fun hc13 => ?_) (fun hc13 => ?_)
      · have hf := it_n hf hc13
        refine lv_aload_n hx hb dX10_as_49 rfl (lv_at hl 0 rfl) ?_
        refine r_get C hw 0 rfl cf_X10 4 (by decide) q2_14 (v := .ref ((ad 6) 0)) rfl dX10_as_50 ?_
        refine lv_iconst (v := (0 : Int32)) hx hb dX10_as_53 rfl ?_
        refine lv_iload_n hx hb dX10_as_54 rfl (lv_at hl 1 rfl) ?_
        obtain ⟨r9, hc10, hf⟩ := bd1_e hf
        refine r_callVi0 C hw (c_X0_faultsOf (zd := (ad 6)) hc10) md_X0_faultsOf [3, 4, 5, 6, 7] rfl rfl q3_127 3 rfl cf_X0.1 ⟨Nat.le_of_ble_eq_true rfl, Nat.le_of_ble_eq_true rfl⟩ ⟨Nat.zero_le _, Nat.zero_le _⟩ hl.1 rfl rfl (Nat.le_of_ble_eq_true rfl) dX10_as_55 (fun H locs hw => ?_)
        refine lv_aload_n hx hb dX10_as_58 rfl (lv_at hl 0 rfl) ?_
        refine r_get C hw 0 rfl cf_X10 4 (by decide) q2_14 (v := .ref ((ad 6) 0)) rfl dX10_as_59 ?_
        refine lv_iconst (v := (1 : Int32)) hx hb dX10_as_62 rfl ?_
        refine lv_iload_n hx hb dX10_as_63 rfl (lv_at hl 1 rfl) ?_
        obtain ⟨r11, hc12, hf⟩ := bd1_e hf
        refine r_callVi0 C hw (c_X0_faultsOf (zd := (ad 6)) hc12) md_X0_faultsOf [3, 4, 5, 6, 7] rfl rfl q3_127 3 rfl cf_X0.1 ⟨Nat.le_of_ble_eq_true rfl, Nat.le_of_ble_eq_true rfl⟩ ⟨Nat.zero_le _, Nat.zero_le _⟩ hl.1 rfl rfl (Nat.le_of_ble_eq_true rfl) dX10_as_64 (fun H locs hw => ?_)
        refine lv_iadd hx hb dX10_as_67 ?_
        obtain rfl := so1 hf
        exact r_iret C hw rfl dX10_as_68
      · have hf := it_p hf hc13
        refine lv_bipush (v := (-4 : Int32)) hx hb dX10_as_46 rfl ?_
        obtain rfl := so1 hf
        exact r_iret C hw rfl dX10_as_48
    · have hf := it_p hf hc14
      refine lv_bipush (v := (-3 : Int32)) hx hb dX10_as_28 rfl ?_
      obtain rfl := so1 hf
      exact r_iret C hw rfl dX10_as_30
  · have hf := it_p hf hc15
    refine lv_bipush (v := (-2 : Int32)) hx hb dX10_as_11 rfl ?_
    obtain rfl := so1 hf
    exact r_iret C hw rfl dX10_as_13
set_option maxRecDepth 100000 in
set_option maxHeartbeats 4000000 in
theorem c_X10_plan {l : Launch} {g : evG} {ad : Nat → Nat → Nat} {r : Int32} {op : Gp}  {Te : Gp} {Tp : Gp} {Tt : Gp} {x1 : Int32} {x2 : Int32} {x3 : Int32} (hf : fX10_plan Te Tp Tt x1 x2 x3 = some (r, op)) : CTi l g yX10_plan (Cond.code yX10_plan cX10_plan 5 (some .int)) 6 144 [.ref ((ad 0) 0), .int x1, .int x2, .int x3] (gcE g ad Te ++ (gcP g (ad 9) (ad 1) Tp ++ (gcT g (ad 1) Tt))) (gcE g ad Te ++ (gcP g (ad 9) (ad 1) op ++ (gcT g (ad 1) Tt))) r := by
  refine ct_i rfl (Nat.le_of_ble_eq_true rfl) ?_
  intro p e s m args below meth c A ls C hw hl
  have C : ctx g p s m args meth c RX10 cX10_plan 5 (some .int) A := C
  have hl : lv_has ls 5 [(0, .ref ((ad 0) 0)), (1, .int x1), (2, .int x2), (3, .int x3)] := hl
  obtain ⟨hx, hb, hml, hown, hts, -⟩ := id C
  unfold fX10_plan at hf
  refine lv_iload_n hx hb dX10_plan_0 rfl (lv_at hl 1 rfl) ?_
  refine lv_iload_n hx hb dX10_plan_1 rfl (lv_at hl 2 rfl) ?_
  obtain ⟨r1, hc2, hf⟩ := bd1_e hf
  refine r_callSi0 C hw (c_X10_isPlanAsked hc2) md_X10_isPlanAsked [] rfl rfl q3_160 ⟨Nat.le_of_ble_eq_true rfl, Nat.le_of_ble_eq_true rfl⟩ ⟨Nat.zero_le _, Nat.zero_le _⟩ hl.1 rfl rfl (Nat.le_of_ble_eq_true rfl) dX10_plan_2 (fun H locs hw => ?_)
  refine lv_if_eq (tgt := 17) hx hb dX10_plan_5 (by decide) (fun hc14 => ?_) (fun hc14 => ?_)
  · have hf := it_p hf hc14
    refine lv_bipush (v := (-3 : Int32)) hx hb dX10_plan_17 rfl ?_
    obtain ⟨rfl, rfl⟩ := so2 hf
    exact r_iret C hw rfl dX10_plan_19
  · have hf := it_n hf hc14
    refine lv_iload_n hx hb dX10_plan_8 rfl (lv_at hl 3 rfl) ?_
    refine lv_iconst (v := (0 : Int32)) hx hb dX10_plan_9 rfl ?_
    refine lv_iconst (v := (1 : Int32)) hx hb dX10_plan_10 rfl ?_
    obtain ⟨r3, hc4, hf⟩ := bd1_e hf
    refine r_callSi0 C hw (c_X10_within hc4) md_X10_within [] rfl rfl q2_51 ⟨Nat.le_of_ble_eq_true rfl, Nat.le_of_ble_eq_true rfl⟩ ⟨Nat.zero_le _, Nat.zero_le _⟩ hl.1 rfl rfl (Nat.le_of_ble_eq_true rfl) dX10_plan_11 (fun H locs hw => ?_)
    refine lv_if_ne (tgt := 20) hx hb dX10_plan_14 (by decide) (fun hc13 => ?_) (fun hc13 => ?_)
    · have hf := it_n hf hc13
      refine lv_aload_n hx hb dX10_plan_20 rfl (lv_at hl 0 rfl) ?_
      refine r_get C hw 0 rfl cf_X10 7 (by decide) q2_17 (v := .ref ((ad 9) 0)) rfl dX10_plan_21 ?_
      refine lv_iload_n hx hb dX10_plan_24 rfl (lv_at hl 1 rfl) ?_
      refine lv_iload_n hx hb dX10_plan_25 rfl (lv_at hl 2 rfl) ?_
      obtain ⟨r5, Tp_6, hc7, hf⟩ := bd2_e hf
      refine r_selVi C hw (c_X5_greatestWorth (zp := (ad 9)) (zt := (ad 1)) hc7) md_X5_greatestWorth (Sel.skip _ (Sel.take (gcP g (ad 9) (ad 1) Tp) (gcP g (ad 9) (ad 1) Tp_6) rfl rfl (Sel.last (gcT g (ad 1) Tt) (gcT g (ad 1) Tt) rfl rfl))) q3_163 3 rfl cf_X5.1 ⟨Nat.le_of_ble_eq_true rfl, Nat.le_of_ble_eq_true rfl⟩ ⟨Nat.zero_le _, Nat.zero_le _⟩ hl.1 rfl rfl (Nat.le_of_ble_eq_true rfl) dX10_plan_26 (fun H locs hw => ?_)
      refine lv_istore (lv' := [(4, .int r5), (0, .ref ((ad 0) 0)), (1, .int x1), (2, .int x2), (3, .int x3)]) hx hb dX10_plan_29 hl (by decide) rfl (fun ls hl => ?_)
      refine lv_iload_n hx hb dX10_plan_31 rfl (lv_at hl 4 rfl) ?_
      refine lv_if_eq (tgt := 41) hx hb dX10_plan_32 (by decide) (fun hc12 => ?_) (fun hc12 => ?_)
      · have hf := it_p hf hc12
        refine lv_iload hx hb dX10_plan_41 (lv_at hl 0 rfl) ?_
        obtain ⟨rfl, rfl⟩ := so2 hf
        exact r_iret C hw rfl dX10_plan_43
      · have hf := it_n hf hc12
        refine lv_iload hx hb dX10_plan_35 (lv_at hl 0 rfl) ?_
        refine lv_iconst (v := (-1 : Int32)) hx hb dX10_plan_37 rfl ?_
        refine lv_icmp_ne (tgt := 44) hx hb dX10_plan_38 (by decide) (fun hc11 => ?_) (fun hc11 => ?_)
        · have hf := it_n hf hc11
          refine lv_aload_n hx hb dX10_plan_44 rfl (lv_at hl 1 rfl) ?_
          refine r_get C hw 0 rfl cf_X10 7 (by decide) q2_17 (v := .ref ((ad 9) 0)) rfl dX10_plan_45 ?_
          refine lv_iload_n hx hb dX10_plan_48 rfl (lv_at hl 2 rfl) ?_
          refine lv_iload_n hx hb dX10_plan_49 rfl (lv_at hl 3 rfl) ?_
          refine lv_aload_n hx hb dX10_plan_50 rfl (lv_at hl 1 rfl) ?_
          refine r_get C hw 0 rfl cf_X10 0 (by decide) q2_10 (v := .ref ((ad 1) 0)) rfl dX10_plan_51 ?_
          refine r_getN C hw 7 rfl cf_X9 0 (by decide) nq_3 (v := .int (Tt 0 0)) rfl dX10_plan_54 ?_
          refine lv_iconst (v := (1 : Int32)) hx hb dX10_plan_57 rfl ?_
          refine lv_isub hx hb dX10_plan_58 ?_
          refine lv_aload_n hx hb dX10_plan_59 rfl (lv_at hl 1 rfl) ?_
          refine r_get C hw 0 rfl cf_X10 0 (by decide) q2_10 (v := .ref ((ad 1) 0)) rfl dX10_plan_60 ?_
          refine r_getN C hw 7 rfl cf_X9 1 (by decide) nq_6 (v := .int (Tt 0 1)) rfl dX10_plan_63 ?_
          refine lv_iconst (v := (1 : Int32)) hx hb dX10_plan_66 rfl ?_
          refine lv_isub hx hb dX10_plan_67 ?_
          obtain ⟨r8, Tp_9, hc10, hf⟩ := bd2_e hf
          refine r_selVi C hw (c_X5_follow (zp := (ad 9)) (zt := (ad 1)) hc10) md_X5_follow (Sel.skip _ (Sel.take (gcP g (ad 9) (ad 1) Tp_6) (gcP g (ad 9) (ad 1) Tp_9) rfl rfl (Sel.last (gcT g (ad 1) Tt) (gcT g (ad 1) Tt) rfl rfl))) q3_220 3 rfl cf_X5.1 ⟨Nat.le_of_ble_eq_true rfl, Nat.le_of_ble_eq_true rfl⟩ ⟨Nat.zero_le _, Nat.zero_le _⟩ hl.1 rfl rfl (Nat.le_of_ble_eq_true rfl) dX10_plan_68 (fun H locs hw => ?_)
          obtain ⟨rfl, rfl⟩ := so2 hf
          exact r_iret C hw rfl dX10_plan_71
        · have hf := it_p hf hc11
          refine lv_iload hx hb dX10_plan_41 (lv_at hl 0 rfl) ?_
          obtain ⟨rfl, rfl⟩ := so2 hf
          exact r_iret C hw rfl dX10_plan_43
    · have hf := it_p hf hc13
      refine lv_bipush (v := (-3 : Int32)) hx hb dX10_plan_17 rfl ?_
      obtain ⟨rfl, rfl⟩ := so2 hf
      exact r_iret C hw rfl dX10_plan_19
set_option maxRecDepth 100000 in
set_option maxHeartbeats 4000000 in
theorem c_X10_planned {l : Launch} {g : evG} {ad : Nat → Nat → Nat} {r : Int32} {op : Gp}  {Te : Gp} {Tp : Gp} {Tt : Gp} {x1 : Int32} {x2 : Int32} {x3 : Int32} {x4 : Int32} {x5 : Int32} (hf : fX10_planned Te Tp Tt x1 x2 x3 x4 x5 = some (r, op)) : CTi l g yX10_planned (Cond.code yX10_planned cX10_planned 6 (some .int)) 6 144 [.ref ((ad 0) 0), .int x1, .int x2, .int x3, .int x4, .int x5] (gcE g ad Te ++ (gcP g (ad 9) (ad 1) Tp ++ (gcT g (ad 1) Tt))) (gcE g ad Te ++ (gcP g (ad 9) (ad 1) op ++ (gcT g (ad 1) Tt))) r := by
  refine ct_i rfl (Nat.le_of_ble_eq_true rfl) ?_
  intro p e s m args below meth c A ls C hw hl
  have C : ctx g p s m args meth c RX10 cX10_planned 6 (some .int) A := C
  have hl : lv_has ls 6 [(0, .ref ((ad 0) 0)), (1, .int x1), (2, .int x2), (3, .int x3), (4, .int x4), (5, .int x5)] := hl
  obtain ⟨hx, hb, hml, hown, hts, -⟩ := id C
  unfold fX10_planned at hf
  refine lv_aload_n hx hb dX10_planned_0 rfl (lv_at hl 0 rfl) ?_
  refine lv_iload_n hx hb dX10_planned_1 rfl (lv_at hl 3 rfl) ?_
  refine lv_iload hx hb dX10_planned_2 (lv_at hl 4 rfl) ?_
  refine lv_iload hx hb dX10_planned_4 (lv_at hl 5 rfl) ?_
  obtain ⟨r1, hc2, hf⟩ := bd1_e hf
  refine r_callVi0 C hw (c_X10_isSlot (ad := ad) hc2) md_X10_isSlot [0, 1, 2, 7, 8, 9, 10, 11, 12] rfl rfl q3_19 0 rfl cf_X10.1 ⟨Nat.le_of_ble_eq_true rfl, Nat.le_of_ble_eq_true rfl⟩ ⟨Nat.zero_le _, Nat.zero_le _⟩ hl.1 rfl rfl (Nat.le_of_ble_eq_true rfl) dX10_planned_6 (fun H locs hw => ?_)
  refine lv_if_ne (tgt := 15) hx hb dX10_planned_9 (by decide) (fun hc14 => ?_) (fun hc14 => ?_)
  · have hf := it_n hf hc14
    refine lv_iload_n hx hb dX10_planned_15 rfl (lv_at hl 1 rfl) ?_
    refine lv_iload_n hx hb dX10_planned_16 rfl (lv_at hl 2 rfl) ?_
    obtain ⟨r3, hc4, hf⟩ := bd1_e hf
    refine r_callSi0 C hw (c_X10_isPlanAsked hc4) md_X10_isPlanAsked [] rfl rfl q3_160 ⟨Nat.le_of_ble_eq_true rfl, Nat.le_of_ble_eq_true rfl⟩ ⟨Nat.zero_le _, Nat.zero_le _⟩ hl.1 rfl rfl (Nat.le_of_ble_eq_true rfl) dX10_planned_17 (fun H locs hw => ?_)
    refine lv_if_ne (tgt := 26) hx hb dX10_planned_20 (by decide) (fun hc13 => ?_) (fun hc13 => ?_)
    · have hf := it_n hf hc13
      refine lv_aload_n hx hb dX10_planned_26 rfl (lv_at hl 0 rfl) ?_
      refine r_get C hw 0 rfl cf_X10 7 (by decide) q2_17 (v := .ref ((ad 9) 0)) rfl dX10_planned_27 ?_
      refine lv_iload_n hx hb dX10_planned_30 rfl (lv_at hl 1 rfl) ?_
      refine lv_iload_n hx hb dX10_planned_31 rfl (lv_at hl 2 rfl) ?_
      obtain ⟨r5, Tp_6, hc7, hf⟩ := bd2_e hf
      refine r_selVi C hw (c_X5_greatestWorth (zp := (ad 9)) (zt := (ad 1)) hc7) md_X5_greatestWorth (Sel.skip _ (Sel.take (gcP g (ad 9) (ad 1) Tp) (gcP g (ad 9) (ad 1) Tp_6) rfl rfl (Sel.last (gcT g (ad 1) Tt) (gcT g (ad 1) Tt) rfl rfl))) q3_163 3 rfl cf_X5.1 ⟨Nat.le_of_ble_eq_true rfl, Nat.le_of_ble_eq_true rfl⟩ ⟨Nat.zero_le _, Nat.zero_le _⟩ hl.1 rfl rfl (Nat.le_of_ble_eq_true rfl) dX10_planned_32 (fun H locs hw => ?_)
      refine lv_iconst (v := (-1 : Int32)) hx hb dX10_planned_35 rfl ?_
      refine lv_icmp_ne (tgt := 41) hx hb dX10_planned_36 (by decide) (fun hc12 => ?_) (fun hc12 => ?_)
      · have hf := it_n hf hc12
        refine lv_aload_n hx hb dX10_planned_41 rfl (lv_at hl 0 rfl) ?_
        refine r_get C hw 0 rfl cf_X10 7 (by decide) q2_17 (v := .ref ((ad 9) 0)) rfl dX10_planned_42 ?_
        refine lv_iload_n hx hb dX10_planned_45 rfl (lv_at hl 1 rfl) ?_
        refine lv_iload_n hx hb dX10_planned_46 rfl (lv_at hl 2 rfl) ?_
        refine lv_iload hx hb dX10_planned_47 (lv_at hl 4 rfl) ?_
        refine lv_iload hx hb dX10_planned_49 (lv_at hl 5 rfl) ?_
        obtain ⟨r8, Tp_9, hc10, hf⟩ := bd2_e hf
        refine r_selVi C hw (c_X5_follow (zp := (ad 9)) (zt := (ad 1)) hc10) md_X5_follow (Sel.skip _ (Sel.take (gcP g (ad 9) (ad 1) Tp_6) (gcP g (ad 9) (ad 1) Tp_9) rfl rfl (Sel.last (gcT g (ad 1) Tt) (gcT g (ad 1) Tt) rfl rfl))) q3_220 3 rfl cf_X5.1 ⟨Nat.le_of_ble_eq_true rfl, Nat.le_of_ble_eq_true rfl⟩ ⟨Nat.zero_le _, Nat.zero_le _⟩ hl.1 rfl rfl (Nat.le_of_ble_eq_true rfl) dX10_planned_51 (fun H locs hw => ?_)
        refine lv_pop hx hb dX10_planned_54 rfl ?_
        refine lv_iload_n hx hb dX10_planned_55 rfl (lv_at hl 3 rfl) ?_
        refine lv_if_ne (tgt := 69) hx hb dX10_planned_56 (by decide) (fun hc11 => ?_) (fun hc11 => ?_)
        · have hf := it_n hf hc11
          refine lv_aload_n hx hb dX10_planned_69 rfl (lv_at hl 0 rfl) ?_
          refine r_get C hw 0 rfl cf_X10 7 (by decide) q2_17 (v := .ref ((ad 9) 0)) rfl dX10_planned_70 ?_
          refine r_getN C hw 3 rfl cf_X5 5 (by decide) nq_22 (v := .int (Tp_9 0 5)) rfl dX10_planned_73 ?_
          obtain ⟨rfl, rfl⟩ := so2 hf
          exact r_iret C hw rfl dX10_planned_76
        · have hf := it_p hf hc11
          refine lv_aload_n hx hb dX10_planned_59 rfl (lv_at hl 0 rfl) ?_
          refine r_get C hw 0 rfl cf_X10 7 (by decide) q2_17 (v := .ref ((ad 9) 0)) rfl dX10_planned_60 ?_
          refine r_getN C hw 3 rfl cf_X5 4 (by decide) nq_21 (v := .int (Tp_9 0 4)) rfl dX10_planned_63 ?_
          refine lv_goto (tgt := 76) hx hb dX10_planned_66 (by decide) ?_
          obtain ⟨rfl, rfl⟩ := so2 hf
          exact r_iret C hw rfl dX10_planned_76
      · have hf := it_p hf hc12
        refine lv_iconst (v := (-1 : Int32)) hx hb dX10_planned_39 rfl ?_
        obtain ⟨rfl, rfl⟩ := so2 hf
        exact r_iret C hw rfl dX10_planned_40
    · have hf := it_p hf hc13
      refine lv_bipush (v := (-3 : Int32)) hx hb dX10_planned_23 rfl ?_
      obtain ⟨rfl, rfl⟩ := so2 hf
      exact r_iret C hw rfl dX10_planned_25
  · have hf := it_p hf hc14
    refine lv_bipush (v := (-2 : Int32)) hx hb dX10_planned_12 rfl ?_
    obtain ⟨rfl, rfl⟩ := so2 hf
    exact r_iret C hw rfl dX10_planned_14
set_option maxRecDepth 100000 in
set_option maxHeartbeats 4000000 in
theorem c_X10_news {l : Launch} {g : evG} {ad : Nat → Nat → Nat} {r : Int32} {on : Gp}  {Te : Gp} {Tn : Gp} {x1 : Int32} {x2 : Int32} {x3 : Int32} {x4 : Int32} (hf : fX10_news Te Tn x1 x2 x3 x4 = some (r, on)) : CTi l g yX10_news (Cond.code yX10_news cX10_news 5 (some .int)) 3 70 [.ref ((ad 0) 0), .int x1, .int x2, .int x3, .int x4] (gcE g ad Te ++ (gcN g (ad 10) Tn)) (gcE g ad Te ++ (gcN g (ad 10) on)) r := by
  refine ct_i rfl (Nat.le_of_ble_eq_true rfl) ?_
  intro p e s m args below meth c A ls C hw hl
  have C : ctx g p s m args meth c RX10 cX10_news 5 (some .int) A := C
  have hl : lv_has ls 5 [(0, .ref ((ad 0) 0)), (1, .int x1), (2, .int x2), (3, .int x3), (4, .int x4)] := hl
  obtain ⟨hx, hb, hml, hown, hts, -⟩ := id C
  unfold fX10_news at hf
  refine lv_iload_n hx hb dX10_news_0 rfl (lv_at hl 2 rfl) ?_
  refine lv_iconst (v := (1 : Int32)) hx hb dX10_news_1 rfl ?_
  refine lv_bipush (v := (12 : Int32)) hx hb dX10_news_2 rfl ?_
  obtain ⟨r1, hc2, hf⟩ := bd1_e hf
  refine r_callSi0 C hw (c_X10_within hc2) md_X10_within [] rfl rfl q2_51 ⟨Nat.le_of_ble_eq_true rfl, Nat.le_of_ble_eq_true rfl⟩ ⟨Nat.zero_le _, Nat.zero_le _⟩ hl.1 rfl rfl (Nat.le_of_ble_eq_true rfl) dX10_news_4 (fun H locs hw => ?_)
  refine lv_if_eq (tgt := 20) hx hb dX10_news_7 (by decide) (fun hc12 => ?_) (fun hc12 => ?_)
  · have hf := it_p hf hc12
    refine lv_bipush (v := (-3 : Int32)) hx hb dX10_news_20 rfl ?_
    obtain ⟨rfl, rfl⟩ := so2 hf
    exact r_iret C hw rfl dX10_news_22
  · have hf := it_n hf hc12
    refine lv_iload_n hx hb dX10_news_10 rfl (lv_at hl 3 rfl) ?_
    refine lv_iconst (v := (0 : Int32)) hx hb dX10_news_11 rfl ?_
    refine lv_bipush (v := (9 : Int32)) hx hb dX10_news_12 rfl ?_
    obtain ⟨r3, hc4, hf⟩ := bd1_e hf
    refine r_callSi0 C hw (c_X10_within hc4) md_X10_within [] rfl rfl q2_51 ⟨Nat.le_of_ble_eq_true rfl, Nat.le_of_ble_eq_true rfl⟩ ⟨Nat.zero_le _, Nat.zero_le _⟩ hl.1 rfl rfl (Nat.le_of_ble_eq_true rfl) dX10_news_14 (fun H locs hw => ?_)
    refine lv_if_ne (tgt := 23) hx hb dX10_news_17 (by decide) (fun hc11 => ?_) (fun hc11 => ?_)
    · have hf := it_n hf hc11
      refine lv_iload hx hb dX10_news_23 (lv_at hl 4 rfl) ?_
      refine lv_if_eq (tgt := 41) hx hb dX10_news_25 (by decide) (fun hc10 => ?_) (fun hc10 => ?_)
      · have hf := it_p hf hc10
        refine lv_aload_n hx hb dX10_news_41 rfl (lv_at hl 0 rfl) ?_
        refine r_get C hw 0 rfl cf_X10 8 (by decide) q2_18 (v := .ref ((ad 10) 0)) rfl dX10_news_42 ?_
        refine lv_iload_n hx hb dX10_news_45 rfl (lv_at hl 1 rfl) ?_
        refine lv_iload_n hx hb dX10_news_46 rfl (lv_at hl 2 rfl) ?_
        refine lv_iload_n hx hb dX10_news_47 rfl (lv_at hl 3 rfl) ?_
        obtain ⟨r5, Tn_6, hc7, hf⟩ := bd2_e hf
        refine r_selVi C hw (c_X3_toBeNeverAlike (zn := (ad 10)) hc7) md_X3_toBeNeverAlike (Sel.skip _ (Sel.last (gcN g (ad 10) Tn) (gcN g (ad 10) Tn_6) rfl rfl)) q4_3 3 rfl cf_X3.1 ⟨Nat.le_of_ble_eq_true rfl, Nat.le_of_ble_eq_true rfl⟩ ⟨Nat.zero_le _, Nat.zero_le _⟩ hl.1 rfl rfl (Nat.le_of_ble_eq_true rfl) dX10_news_48 (fun H locs hw => ?_)
        obtain ⟨rfl, rfl⟩ := so2 hf
        exact r_iret C hw rfl dX10_news_51
      · have hf := it_n hf hc10
        refine lv_aload_n hx hb dX10_news_28 rfl (lv_at hl 0 rfl) ?_
        refine r_get C hw 0 rfl cf_X10 8 (by decide) q2_18 (v := .ref ((ad 10) 0)) rfl dX10_news_29 ?_
        refine lv_iload_n hx hb dX10_news_32 rfl (lv_at hl 1 rfl) ?_
        refine lv_iload_n hx hb dX10_news_33 rfl (lv_at hl 2 rfl) ?_
        refine lv_iload_n hx hb dX10_news_34 rfl (lv_at hl 3 rfl) ?_
        obtain ⟨r8, hc9, hf⟩ := bd1_e hf
        refine r_callVi0 C hw (c_X3_toBeAlike (zn := (ad 10)) hc9) md_X3_toBeAlike [3, 4] rfl rfl q3_236 3 rfl cf_X3.1 ⟨Nat.le_of_ble_eq_true rfl, Nat.le_of_ble_eq_true rfl⟩ ⟨Nat.zero_le _, Nat.zero_le _⟩ hl.1 rfl rfl (Nat.le_of_ble_eq_true rfl) dX10_news_35 (fun H locs hw => ?_)
        refine lv_goto (tgt := 51) hx hb dX10_news_38 (by decide) ?_
        obtain ⟨rfl, rfl⟩ := so2 hf
        exact r_iret C hw rfl dX10_news_51
    · have hf := it_p hf hc11
      refine lv_bipush (v := (-3 : Int32)) hx hb dX10_news_20 rfl ?_
      obtain ⟨rfl, rfl⟩ := so2 hf
      exact r_iret C hw rfl dX10_news_22
set_option maxRecDepth 100000 in
set_option maxHeartbeats 4000000 in
theorem c_X10_harm {l : Launch} {g : evG} {ad : Nat → Nat → Nat} {r : Int32} {oh : Gp}  {Te : Gp} {Tt : Gp} {Th : Gp} {x1 : Int32} {x2 : Int32} {x3 : Int32} (hf : fX10_harm Te Tt Th x1 x2 x3 = some (r, oh)) : CTi l g yX10_harm (Cond.code yX10_harm cX10_harm 4 (some .int)) 2 47 [.ref ((ad 0) 0), .int x1, .int x2, .int x3] (gcE g ad Te ++ (gcT g (ad 1) Tt ++ (gcH g (ad 11) Th))) (gcE g ad Te ++ (gcT g (ad 1) Tt ++ (gcH g (ad 11) oh))) r := by
  refine ct_i rfl (Nat.le_of_ble_eq_true rfl) ?_
  intro p e s m args below meth c A ls C hw hl
  have C : ctx g p s m args meth c RX10 cX10_harm 4 (some .int) A := C
  have hl : lv_has ls 4 [(0, .ref ((ad 0) 0)), (1, .int x1), (2, .int x2), (3, .int x3)] := hl
  obtain ⟨hx, hb, hml, hown, hts, -⟩ := id C
  unfold fX10_harm at hf
  refine lv_aload_n hx hb dX10_harm_0 rfl (lv_at hl 0 rfl) ?_
  refine r_get C hw 0 rfl cf_X10 0 (by decide) q2_10 (v := .ref ((ad 1) 0)) rfl dX10_harm_1 ?_
  refine lv_iload_n hx hb dX10_harm_4 rfl (lv_at hl 1 rfl) ?_
  obtain ⟨r1, hc2, hf⟩ := bd1_e hf
  refine r_callVi0 C hw (c_X9_hasPair (zt := (ad 1)) hc2) md_X9_hasPair [3, 4, 5, 6, 7, 8] rfl rfl q3_30 3 rfl cf_X9.1 ⟨Nat.le_of_ble_eq_true rfl, Nat.le_of_ble_eq_true rfl⟩ ⟨Nat.zero_le _, Nat.zero_le _⟩ hl.1 rfl rfl (Nat.le_of_ble_eq_true rfl) dX10_harm_5 (fun H locs hw => ?_)
  refine lv_if_eq (tgt := 22) hx hb dX10_harm_8 (by decide) (fun hc12 => ?_) (fun hc12 => ?_)
  · have hf := it_p hf hc12
    refine lv_bipush (v := (-2 : Int32)) hx hb dX10_harm_22 rfl ?_
    obtain ⟨rfl, rfl⟩ := so2 hf
    exact r_iret C hw rfl dX10_harm_24
  · have hf := it_n hf hc12
    refine lv_aload_n hx hb dX10_harm_11 rfl (lv_at hl 0 rfl) ?_
    refine r_get C hw 0 rfl cf_X10 0 (by decide) q2_10 (v := .ref ((ad 1) 0)) rfl dX10_harm_12 ?_
    refine lv_iload_n hx hb dX10_harm_15 rfl (lv_at hl 2 rfl) ?_
    obtain ⟨r3, hc4, hf⟩ := bd1_e hf
    refine r_callVi0 C hw (c_X9_hasPair (zt := (ad 1)) hc4) md_X9_hasPair [3, 4, 5, 6, 7, 8] rfl rfl q3_30 3 rfl cf_X9.1 ⟨Nat.le_of_ble_eq_true rfl, Nat.le_of_ble_eq_true rfl⟩ ⟨Nat.zero_le _, Nat.zero_le _⟩ hl.1 rfl rfl (Nat.le_of_ble_eq_true rfl) dX10_harm_16 (fun H locs hw => ?_)
    refine lv_if_ne (tgt := 25) hx hb dX10_harm_19 (by decide) (fun hc11 => ?_) (fun hc11 => ?_)
    · have hf := it_n hf hc11
      refine lv_iload_n hx hb dX10_harm_25 rfl (lv_at hl 3 rfl) ?_
      refine lv_iconst (v := (0 : Int32)) hx hb dX10_harm_26 rfl ?_
      refine lv_bipush (v := (99 : Int32)) hx hb dX10_harm_27 rfl ?_
      obtain ⟨r5, hc6, hf⟩ := bd1_e hf
      refine r_callSi0 C hw (c_X10_within hc6) md_X10_within [] rfl rfl q2_51 ⟨Nat.le_of_ble_eq_true rfl, Nat.le_of_ble_eq_true rfl⟩ ⟨Nat.zero_le _, Nat.zero_le _⟩ hl.1 rfl rfl (Nat.le_of_ble_eq_true rfl) dX10_harm_29 (fun H locs hw => ?_)
      refine lv_if_ne (tgt := 38) hx hb dX10_harm_32 (by decide) (fun hc10 => ?_) (fun hc10 => ?_)
      · have hf := it_n hf hc10
        refine lv_aload_n hx hb dX10_harm_38 rfl (lv_at hl 0 rfl) ?_
        refine r_get C hw 0 rfl cf_X10 9 (by decide) q2_19 (v := .ref ((ad 11) 0)) rfl dX10_harm_39 ?_
        refine lv_iload_n hx hb dX10_harm_42 rfl (lv_at hl 1 rfl) ?_
        refine lv_iload_n hx hb dX10_harm_43 rfl (lv_at hl 2 rfl) ?_
        refine lv_iload_n hx hb dX10_harm_44 rfl (lv_at hl 3 rfl) ?_
        obtain ⟨r7, Th_8, hc9, hf⟩ := bd2_e hf
        refine r_selVi C hw (c_X4_changeHarm (zh := (ad 11)) hc9) md_X4_changeHarm (Sel.skip _ (Sel.skip _ (Sel.last (gcH g (ad 11) Th) (gcH g (ad 11) Th_8) rfl rfl))) q4_19 9 rfl cf_X4.1 ⟨Nat.le_of_ble_eq_true rfl, Nat.le_of_ble_eq_true rfl⟩ ⟨Nat.zero_le _, Nat.zero_le _⟩ hl.1 rfl rfl (Nat.le_of_ble_eq_true rfl) dX10_harm_45 (fun H locs hw => ?_)
        obtain ⟨rfl, rfl⟩ := so2 hf
        exact r_iret C hw rfl dX10_harm_48
      · have hf := it_p hf hc10
        refine lv_bipush (v := (-3 : Int32)) hx hb dX10_harm_35 rfl ?_
        obtain ⟨rfl, rfl⟩ := so2 hf
        exact r_iret C hw rfl dX10_harm_37
    · have hf := it_p hf hc11
      refine lv_bipush (v := (-2 : Int32)) hx hb dX10_harm_22 rfl ?_
      obtain ⟨rfl, rfl⟩ := so2 hf
      exact r_iret C hw rfl dX10_harm_24
set_option maxRecDepth 100000 in
set_option maxHeartbeats 4000000 in
theorem c_X10_anew {l : Launch} {g : evG} {ad : Nat → Nat → Nat} {r : Int32} {oh : Gp}  {Te : Gp} {Tt : Gp} {Th : Gp} {x1 : Int32} (hf : fX10_anew Te Tt Th x1 = some (r, oh)) : CTi l g yX10_anew (Cond.code yX10_anew cX10_anew 2 (some .int)) 4 102 [.ref ((ad 0) 0), .int x1] (gcE g ad Te ++ (gcT g (ad 1) Tt ++ (gcH g (ad 11) Th))) (gcE g ad Te ++ (gcT g (ad 1) Tt ++ (gcH g (ad 11) oh))) r := by
  refine ct_i rfl (Nat.le_of_ble_eq_true rfl) ?_
  intro p e s m args below meth c A ls C hw hl
  have C : ctx g p s m args meth c RX10 cX10_anew 2 (some .int) A := C
  have hl : lv_has ls 2 [(0, .ref ((ad 0) 0)), (1, .int x1)] := hl
  obtain ⟨hx, hb, hml, hown, hts, -⟩ := id C
  unfold fX10_anew at hf
  refine lv_iload_n hx hb dX10_anew_0 rfl (lv_at hl 1 rfl) ?_
  refine lv_iconst (v := (-1 : Int32)) hx hb dX10_anew_1 rfl ?_
  refine lv_icmp_ne (tgt := 22) hx hb dX10_anew_2 (by decide) (fun hc10 => ?_) (fun hc10 => ?_)
  · have hf := it_n hf hc10
    refine lv_aload_n hx hb dX10_anew_22 rfl (lv_at hl 0 rfl) ?_
    refine r_get C hw 0 rfl cf_X10 0 (by decide) q2_10 (v := .ref ((ad 1) 0)) rfl dX10_anew_23 ?_
    refine lv_iload_n hx hb dX10_anew_26 rfl (lv_at hl 1 rfl) ?_
    obtain ⟨r1, hc2, hf⟩ := bd1_e hf
    refine r_callVi0 C hw (c_X9_hasPair (zt := (ad 1)) hc2) md_X9_hasPair [3, 4, 5, 6, 7, 8] rfl rfl q3_30 3 rfl cf_X9.1 ⟨Nat.le_of_ble_eq_true rfl, Nat.le_of_ble_eq_true rfl⟩ ⟨Nat.zero_le _, Nat.zero_le _⟩ hl.1 rfl rfl (Nat.le_of_ble_eq_true rfl) dX10_anew_27 (fun H locs hw => ?_)
    refine lv_if_ne (tgt := 36) hx hb dX10_anew_30 (by decide) (fun hc6 => ?_) (fun hc6 => ?_)
    · have hf := it_n hf hc6
      refine lv_aload_n hx hb dX10_anew_36 rfl (lv_at hl 0 rfl) ?_
      refine r_get C hw 0 rfl cf_X10 9 (by decide) q2_19 (v := .ref ((ad 11) 0)) rfl dX10_anew_37 ?_
      refine lv_aload_n hx hb dX10_anew_40 rfl (lv_at hl 0 rfl) ?_
      refine r_get C hw 0 rfl cf_X10 0 (by decide) q2_10 (v := .ref ((ad 1) 0)) rfl dX10_anew_41 ?_
      refine r_getN C hw 3 rfl cf_X9 0 (by decide) nq_3 (v := .int (Tt 0 0)) rfl dX10_anew_44 ?_
      refine lv_iload_n hx hb dX10_anew_47 rfl (lv_at hl 1 rfl) ?_
      obtain ⟨r3, Th_4, hc5, hf⟩ := bd2_e hf
      refine r_selVi C hw (c_X4_partnerOf (zh := (ad 11)) hc5) md_X4_partnerOf (Sel.skip _ (Sel.skip _ (Sel.last (gcH g (ad 11) Th) (gcH g (ad 11) Th_4) rfl rfl))) q4_44 9 rfl cf_X4.1 ⟨Nat.le_of_ble_eq_true rfl, Nat.le_of_ble_eq_true rfl⟩ ⟨Nat.zero_le _, Nat.zero_le _⟩ hl.1 rfl rfl (Nat.le_of_ble_eq_true rfl) dX10_anew_48 (fun H locs hw => ?_)
      obtain ⟨rfl, rfl⟩ := so2 hf
      exact r_iret C hw rfl dX10_anew_51
    · have hf := it_p hf hc6
      refine lv_bipush (v := (-2 : Int32)) hx hb dX10_anew_33 rfl ?_
      obtain ⟨rfl, rfl⟩ := so2 hf
      exact r_iret C hw rfl dX10_anew_35
  · have hf := it_p hf hc10
    refine lv_aload_n hx hb dX10_anew_5 rfl (lv_at hl 0 rfl) ?_
    refine r_get C hw 0 rfl cf_X10 9 (by decide) q2_19 (v := .ref ((ad 11) 0)) rfl dX10_anew_6 ?_
    refine lv_aload_n hx hb dX10_anew_9 rfl (lv_at hl 0 rfl) ?_
    refine r_get C hw 0 rfl cf_X10 0 (by decide) q2_10 (v := .ref ((ad 1) 0)) rfl dX10_anew_10 ?_
    refine r_getN C hw 3 rfl cf_X9 0 (by decide) nq_3 (v := .int (Tt 0 0)) rfl dX10_anew_13 ?_
    refine lv_iconst (v := (-1 : Int32)) hx hb dX10_anew_16 rfl ?_
    refine lv_iconst (v := (-1 : Int32)) hx hb dX10_anew_17 rfl ?_
    obtain ⟨r7, Th_8, hc9, hf⟩ := bd2_e hf
    refine r_selVi C hw (c_X4_leastHarm (zh := (ad 11)) hc9) md_X4_leastHarm (Sel.skip _ (Sel.skip _ (Sel.last (gcH g (ad 11) Th) (gcH g (ad 11) Th_8) rfl rfl))) q4_28 9 rfl cf_X4.1 ⟨Nat.le_of_ble_eq_true rfl, Nat.le_of_ble_eq_true rfl⟩ ⟨Nat.zero_le _, Nat.zero_le _⟩ hl.1 rfl rfl (Nat.le_of_ble_eq_true rfl) dX10_anew_18 (fun H locs hw => ?_)
    obtain ⟨rfl, rfl⟩ := so2 hf
    exact r_iret C hw rfl dX10_anew_21
set_option maxRecDepth 100000 in
set_option maxHeartbeats 4000000 in
theorem c_X10_forced {l : Launch} {g : evG} {ad : Nat → Nat → Nat} {r : Int32} {oh : Gp}  {Te : Gp} {Tt : Gp} {Th : Gp} {x1 : Int32} {x2 : Int32} (hf : fX10_forced Te Tt Th x1 x2 = some (r, oh)) : CTi l g yX10_forced (Cond.code yX10_forced cX10_forced 3 (some .int)) 3 77 [.ref ((ad 0) 0), .int x1, .int x2] (gcE g ad Te ++ (gcT g (ad 1) Tt ++ (gcH g (ad 11) Th))) (gcE g ad Te ++ (gcT g (ad 1) Tt ++ (gcH g (ad 11) oh))) r := by
  refine ct_i rfl (Nat.le_of_ble_eq_true rfl) ?_
  intro p e s m args below meth c A ls C hw hl
  have C : ctx g p s m args meth c RX10 cX10_forced 3 (some .int) A := C
  have hl : lv_has ls 3 [(0, .ref ((ad 0) 0)), (1, .int x1), (2, .int x2)] := hl
  obtain ⟨hx, hb, hml, hown, hts, -⟩ := id C
  unfold fX10_forced at hf
  refine lv_aload_n hx hb dX10_forced_0 rfl (lv_at hl 0 rfl) ?_
  refine r_get C hw 0 rfl cf_X10 0 (by decide) q2_10 (v := .ref ((ad 1) 0)) rfl dX10_forced_1 ?_
  refine lv_iload_n hx hb dX10_forced_4 rfl (lv_at hl 1 rfl) ?_
  obtain ⟨r1, hc2, hf⟩ := bd1_e hf
  refine r_callVi0 C hw (c_X9_hasPair (zt := (ad 1)) hc2) md_X9_hasPair [3, 4, 5, 6, 7, 8] rfl rfl q3_30 3 rfl cf_X9.1 ⟨Nat.le_of_ble_eq_true rfl, Nat.le_of_ble_eq_true rfl⟩ ⟨Nat.zero_le _, Nat.zero_le _⟩ hl.1 rfl rfl (Nat.le_of_ble_eq_true rfl) dX10_forced_5 (fun H locs hw => ?_)
  refine lv_if_eq (tgt := 22) hx hb dX10_forced_8 (by decide) (fun hc9 => ?_) (fun hc9 => ?_)
  · have hf := it_p hf hc9
    refine lv_bipush (v := (-2 : Int32)) hx hb dX10_forced_22 rfl ?_
    obtain ⟨rfl, rfl⟩ := so2 hf
    exact r_iret C hw rfl dX10_forced_24
  · have hf := it_n hf hc9
    refine lv_aload_n hx hb dX10_forced_11 rfl (lv_at hl 0 rfl) ?_
    refine r_get C hw 0 rfl cf_X10 0 (by decide) q2_10 (v := .ref ((ad 1) 0)) rfl dX10_forced_12 ?_
    refine lv_iload_n hx hb dX10_forced_15 rfl (lv_at hl 2 rfl) ?_
    obtain ⟨r3, hc4, hf⟩ := bd1_e hf
    refine r_callVi0 C hw (c_X9_hasPair (zt := (ad 1)) hc4) md_X9_hasPair [3, 4, 5, 6, 7, 8] rfl rfl q3_30 3 rfl cf_X9.1 ⟨Nat.le_of_ble_eq_true rfl, Nat.le_of_ble_eq_true rfl⟩ ⟨Nat.zero_le _, Nat.zero_le _⟩ hl.1 rfl rfl (Nat.le_of_ble_eq_true rfl) dX10_forced_16 (fun H locs hw => ?_)
    refine lv_if_ne (tgt := 25) hx hb dX10_forced_19 (by decide) (fun hc8 => ?_) (fun hc8 => ?_)
    · have hf := it_n hf hc8
      refine lv_aload_n hx hb dX10_forced_25 rfl (lv_at hl 0 rfl) ?_
      refine r_get C hw 0 rfl cf_X10 9 (by decide) q2_19 (v := .ref ((ad 11) 0)) rfl dX10_forced_26 ?_
      refine lv_aload_n hx hb dX10_forced_29 rfl (lv_at hl 0 rfl) ?_
      refine r_get C hw 0 rfl cf_X10 0 (by decide) q2_10 (v := .ref ((ad 1) 0)) rfl dX10_forced_30 ?_
      refine r_getN C hw 3 rfl cf_X9 0 (by decide) nq_3 (v := .int (Tt 0 0)) rfl dX10_forced_33 ?_
      refine lv_iload_n hx hb dX10_forced_36 rfl (lv_at hl 1 rfl) ?_
      refine lv_iload_n hx hb dX10_forced_37 rfl (lv_at hl 2 rfl) ?_
      obtain ⟨r5, Th_6, hc7, hf⟩ := bd2_e hf
      refine r_selVi C hw (c_X4_leastHarm (zh := (ad 11)) hc7) md_X4_leastHarm (Sel.skip _ (Sel.skip _ (Sel.last (gcH g (ad 11) Th) (gcH g (ad 11) Th_6) rfl rfl))) q4_28 9 rfl cf_X4.1 ⟨Nat.le_of_ble_eq_true rfl, Nat.le_of_ble_eq_true rfl⟩ ⟨Nat.zero_le _, Nat.zero_le _⟩ hl.1 rfl rfl (Nat.le_of_ble_eq_true rfl) dX10_forced_38 (fun H locs hw => ?_)
      obtain ⟨rfl, rfl⟩ := so2 hf
      exact r_iret C hw rfl dX10_forced_41
    · have hf := it_p hf hc8
      refine lv_bipush (v := (-2 : Int32)) hx hb dX10_forced_22 rfl ?_
      obtain ⟨rfl, rfl⟩ := so2 hf
      exact r_iret C hw rfl dX10_forced_24
set_option maxRecDepth 100000 in
set_option maxHeartbeats 4000000 in
theorem c_X10_like {l : Launch} {g : evG} {ad : Nat → Nat → Nat} {r : Int32} {og : Gp}  {Te : Gp} {Tt : Gp} {Tg : Gp} {x1 : Int32} {x2 : Int32} {x3 : Int32} {x4 : Int32} (hf : fX10_like Te Tt Tg x1 x2 x3 x4 = some (r, og)) : CTi l g yX10_like (Cond.code yX10_like cX10_like 5 (some .int)) 3 69 [.ref ((ad 0) 0), .int x1, .int x2, .int x3, .int x4] (gcE g ad Te ++ (gcT g (ad 1) Tt ++ (gcG g (ad 12) Tg))) (gcE g ad Te ++ (gcT g (ad 1) Tt ++ (gcG g (ad 12) og))) r := by
  refine ct_i rfl (Nat.le_of_ble_eq_true rfl) ?_
  intro p e s m args below meth c A ls C hw hl
  have C : ctx g p s m args meth c RX10 cX10_like 5 (some .int) A := C
  have hl : lv_has ls 5 [(0, .ref ((ad 0) 0)), (1, .int x1), (2, .int x2), (3, .int x3), (4, .int x4)] := hl
  obtain ⟨hx, hb, hml, hown, hts, -⟩ := id C
  unfold fX10_like at hf
  refine lv_aload_n hx hb dX10_like_0 rfl (lv_at hl 0 rfl) ?_
  refine lv_iload_n hx hb dX10_like_1 rfl (lv_at hl 1 rfl) ?_
  refine lv_iload_n hx hb dX10_like_2 rfl (lv_at hl 2 rfl) ?_
  obtain ⟨r1, hc2, hf⟩ := bd1_e hf
  refine r_callVi0 C hw (c_X10_isPerson (ad := ad) hc2) md_X10_isPerson [0, 1, 2, 3, 4, 5, 6, 7, 8] rfl rfl q3_23 0 rfl cf_X10.1 ⟨Nat.le_of_ble_eq_true rfl, Nat.le_of_ble_eq_true rfl⟩ ⟨Nat.zero_le _, Nat.zero_le _⟩ hl.1 rfl rfl (Nat.le_of_ble_eq_true rfl) dX10_like_3 (fun H locs hw => ?_)
  refine lv_if_eq (tgt := 18) hx hb dX10_like_6 (by decide) (fun hc13 => ?_) (fun hc13 => ?_)
  · have hf := it_p hf hc13
    refine lv_bipush (v := (-2 : Int32)) hx hb dX10_like_18 rfl ?_
    obtain ⟨rfl, rfl⟩ := so2 hf
    exact r_iret C hw rfl dX10_like_20
  · have hf := it_n hf hc13
    refine lv_aload_n hx hb dX10_like_9 rfl (lv_at hl 0 rfl) ?_
    refine lv_iload_n hx hb dX10_like_10 rfl (lv_at hl 1 rfl) ?_
    refine lv_iload_n hx hb dX10_like_11 rfl (lv_at hl 3 rfl) ?_
    obtain ⟨r3, hc4, hf⟩ := bd1_e hf
    refine r_callVi0 C hw (c_X10_isPerson (ad := ad) hc4) md_X10_isPerson [0, 1, 2, 3, 4, 5, 6, 7, 8] rfl rfl q3_23 0 rfl cf_X10.1 ⟨Nat.le_of_ble_eq_true rfl, Nat.le_of_ble_eq_true rfl⟩ ⟨Nat.zero_le _, Nat.zero_le _⟩ hl.1 rfl rfl (Nat.le_of_ble_eq_true rfl) dX10_like_12 (fun H locs hw => ?_)
    refine lv_if_ne (tgt := 21) hx hb dX10_like_15 (by decide) (fun hc12 => ?_) (fun hc12 => ?_)
    · have hf := it_n hf hc12
      refine lv_iload_n hx hb dX10_like_21 rfl (lv_at hl 2 rfl) ?_
      refine lv_iload_n hx hb dX10_like_22 rfl (lv_at hl 3 rfl) ?_
      refine lv_icmp_eq (tgt := 37) hx hb dX10_like_23 (by decide) (fun hc11 => ?_) (fun hc11 => ?_)
      · have hf := it_p hf hc11
        refine lv_bipush (v := (-3 : Int32)) hx hb dX10_like_37 rfl ?_
        obtain ⟨rfl, rfl⟩ := so2 hf
        exact r_iret C hw rfl dX10_like_39
      · have hf := it_n hf hc11
        refine lv_iload hx hb dX10_like_26 (lv_at hl 4 rfl) ?_
        refine lv_iconst (v := (0 : Int32)) hx hb dX10_like_28 rfl ?_
        refine lv_bipush (v := (99 : Int32)) hx hb dX10_like_29 rfl ?_
        obtain ⟨r5, hc6, hf⟩ := bd1_e hf
        refine r_callSi0 C hw (c_X10_within hc6) md_X10_within [] rfl rfl q2_51 ⟨Nat.le_of_ble_eq_true rfl, Nat.le_of_ble_eq_true rfl⟩ ⟨Nat.zero_le _, Nat.zero_le _⟩ hl.1 rfl rfl (Nat.le_of_ble_eq_true rfl) dX10_like_31 (fun H locs hw => ?_)
        refine lv_if_ne (tgt := 40) hx hb dX10_like_34 (by decide) (fun hc10 => ?_) (fun hc10 => ?_)
        · have hf := it_n hf hc10
          refine lv_aload_n hx hb dX10_like_40 rfl (lv_at hl 0 rfl) ?_
          refine r_get C hw 0 rfl cf_X10 10 (by decide) q2_20 (v := .ref ((ad 12) 0)) rfl dX10_like_41 ?_
          refine lv_iload_n hx hb dX10_like_44 rfl (lv_at hl 1 rfl) ?_
          refine lv_iload_n hx hb dX10_like_45 rfl (lv_at hl 2 rfl) ?_
          refine lv_iload_n hx hb dX10_like_46 rfl (lv_at hl 3 rfl) ?_
          refine lv_iload hx hb dX10_like_47 (lv_at hl 4 rfl) ?_
          obtain ⟨r7, Tg_8, hc9, hf⟩ := bd2_e hf
          refine r_selVi C hw (c_X2_changeLiking (zg := (ad 12)) hc9) md_X2_changeLiking (Sel.skip _ (Sel.skip _ (Sel.last (gcG g (ad 12) Tg) (gcG g (ad 12) Tg_8) rfl rfl))) q4_61 9 rfl cf_X2.1 ⟨Nat.le_of_ble_eq_true rfl, Nat.le_of_ble_eq_true rfl⟩ ⟨Nat.zero_le _, Nat.zero_le _⟩ hl.1 rfl rfl (Nat.le_of_ble_eq_true rfl) dX10_like_49 (fun H locs hw => ?_)
          obtain ⟨rfl, rfl⟩ := so2 hf
          exact r_iret C hw rfl dX10_like_52
        · have hf := it_p hf hc10
          refine lv_bipush (v := (-3 : Int32)) hx hb dX10_like_37 rfl ?_
          obtain ⟨rfl, rfl⟩ := so2 hf
          exact r_iret C hw rfl dX10_like_39
    · have hf := it_p hf hc12
      refine lv_bipush (v := (-2 : Int32)) hx hb dX10_like_18 rfl ?_
      obtain ⟨rfl, rfl⟩ := so2 hf
      exact r_iret C hw rfl dX10_like_20
set_option maxRecDepth 100000 in
set_option maxHeartbeats 4000000 in
theorem c_X10_fours {l : Launch} {g : evG} {ad : Nat → Nat → Nat} {r : Int32} {og : Gp}  {Te : Gp} {Tt : Gp} {Tg : Gp} {x1 : Int32} (hf : fX10_fours Te Tt Tg x1 = some (r, og)) : CTi l g yX10_fours (Cond.code yX10_fours cX10_fours 2 (some .int)) 6 139 [.ref ((ad 0) 0), .int x1] (gcE g ad Te ++ (gcT g (ad 1) Tt ++ (gcG g (ad 12) Tg))) (gcE g ad Te ++ (gcT g (ad 1) Tt ++ (gcG g (ad 12) og))) r := by
  refine ct_i rfl (Nat.le_of_ble_eq_true rfl) ?_
  intro p e s m args below meth c A ls C hw hl
  have C : ctx g p s m args meth c RX10 cX10_fours 2 (some .int) A := C
  have hl : lv_has ls 2 [(0, .ref ((ad 0) 0)), (1, .int x1)] := hl
  obtain ⟨hx, hb, hml, hown, hts, -⟩ := id C
  unfold fX10_fours at hf
  refine lv_iload_n hx hb dX10_fours_0 rfl (lv_at hl 1 rfl) ?_
  refine lv_if_ne (tgt := 19) hx hb dX10_fours_1 (by decide) (fun hc8 => ?_) (fun hc8 => ?_)
  · have hf := it_n hf hc8
    refine lv_iload_n hx hb dX10_fours_19 rfl (lv_at hl 1 rfl) ?_
    refine lv_iconst (v := (1 : Int32)) hx hb dX10_fours_20 rfl ?_
    refine lv_icmp_ne (tgt := 39) hx hb dX10_fours_21 (by decide) (fun hc4 => ?_) (fun hc4 => ?_)
    · have hf := it_n hf hc4
      refine lv_bipush (v := (-3 : Int32)) hx hb dX10_fours_39 rfl ?_
      obtain ⟨rfl, rfl⟩ := so2 hf
      exact r_iret C hw rfl dX10_fours_41
    · have hf := it_p hf hc4
      refine lv_aload_n hx hb dX10_fours_24 rfl (lv_at hl 0 rfl) ?_
      refine r_get C hw 0 rfl cf_X10 10 (by decide) q2_20 (v := .ref ((ad 12) 0)) rfl dX10_fours_25 ?_
      refine lv_aload_n hx hb dX10_fours_28 rfl (lv_at hl 0 rfl) ?_
      refine r_get C hw 0 rfl cf_X10 0 (by decide) q2_10 (v := .ref ((ad 1) 0)) rfl dX10_fours_29 ?_
      refine r_getN C hw 3 rfl cf_X9 0 (by decide) nq_3 (v := .int (Tt 0 0)) rfl dX10_fours_32 ?_
      obtain ⟨r1, Tg_2, hc3, hf⟩ := bd2_e hf
      refine r_selVi C hw (c_X2_mostFours (zg := (ad 12)) hc3) md_X2_mostFours (Sel.skip _ (Sel.skip _ (Sel.last (gcG g (ad 12) Tg) (gcG g (ad 12) Tg_2) rfl rfl))) q4_96 9 rfl cf_X2.1 ⟨Nat.le_of_ble_eq_true rfl, Nat.le_of_ble_eq_true rfl⟩ ⟨Nat.zero_le _, Nat.zero_le _⟩ hl.1 rfl rfl (Nat.le_of_ble_eq_true rfl) dX10_fours_35 (fun H locs hw => ?_)
      obtain ⟨rfl, rfl⟩ := so2 hf
      exact r_iret C hw rfl dX10_fours_38
  · have hf := it_p hf hc8
    refine lv_aload_n hx hb dX10_fours_4 rfl (lv_at hl 0 rfl) ?_
    refine r_get C hw 0 rfl cf_X10 10 (by decide) q2_20 (v := .ref ((ad 12) 0)) rfl dX10_fours_5 ?_
    refine lv_aload_n hx hb dX10_fours_8 rfl (lv_at hl 0 rfl) ?_
    refine r_get C hw 0 rfl cf_X10 0 (by decide) q2_10 (v := .ref ((ad 1) 0)) rfl dX10_fours_9 ?_
    refine r_getN C hw 3 rfl cf_X9 0 (by decide) nq_3 (v := .int (Tt 0 0)) rfl dX10_fours_12 ?_
    obtain ⟨r5, Tg_6, hc7, hf⟩ := bd2_e hf
    refine r_selVi C hw (c_X2_greatestSum (zg := (ad 12)) hc7) md_X2_greatestSum (Sel.skip _ (Sel.skip _ (Sel.last (gcG g (ad 12) Tg) (gcG g (ad 12) Tg_6) rfl rfl))) q4_75 9 rfl cf_X2.1 ⟨Nat.le_of_ble_eq_true rfl, Nat.le_of_ble_eq_true rfl⟩ ⟨Nat.zero_le _, Nat.zero_le _⟩ hl.1 rfl rfl (Nat.le_of_ble_eq_true rfl) dX10_fours_15 (fun H locs hw => ?_)
    obtain ⟨rfl, rfl⟩ := so2 hf
    exact r_iret C hw rfl dX10_fours_18
set_option maxRecDepth 100000 in
set_option maxHeartbeats 4000000 in
theorem c_X10_record {l : Launch} {g : evG} {ad : Nat → Nat → Nat} {r : Int32} {or : Gp}  {Te : Gp} {Tr : Gp} {x1 : Int32} (hf : fX10_record Te Tr x1 = some (r, or)) : CTi l g yX10_record (Cond.code yX10_record cX10_record 2 (some .int)) 1 21 [.ref ((ad 0) 0), .int x1] (gcE g ad Te ++ (gcR g (ad 13) Tr)) (gcE g ad Te ++ (gcR g (ad 13) or)) r := by
  refine ct_i rfl (Nat.le_of_ble_eq_true rfl) ?_
  intro p e s m args below meth c A ls C hw hl
  have C : ctx g p s m args meth c RX10 cX10_record 2 (some .int) A := C
  have hl : lv_has ls 2 [(0, .ref ((ad 0) 0)), (1, .int x1)] := hl
  obtain ⟨hx, hb, hml, hown, hts, -⟩ := id C
  unfold fX10_record at hf
  refine lv_aload_n hx hb dX10_record_0 rfl (lv_at hl 0 rfl) ?_
  refine r_get C hw 0 rfl cf_X10 11 (by decide) q2_21 (v := .ref ((ad 13) 0)) rfl dX10_record_1 ?_
  refine r_getN C hw 3 rfl cf_X6 0 (by decide) nq_27 (v := .int (Tr 0 0)) rfl dX10_record_4 ?_
  refine lv_bipush (v := (40 : Int32)) hx hb dX10_record_7 rfl ?_
  refine lv_icmp_lt (tgt := 15) hx hb dX10_record_9 (by decide) (fun hc3 => ?_) (fun hc3 => ?_)
  · have hf := it_p hf hc3
    refine lv_aload_n hx hb dX10_record_15 rfl (lv_at hl 0 rfl) ?_
    refine r_get C hw 0 rfl cf_X10 11 (by decide) q2_21 (v := .ref ((ad 13) 0)) rfl dX10_record_16 ?_
    refine lv_iload_n hx hb dX10_record_19 rfl (lv_at hl 1 rfl) ?_
    obtain ⟨Tr_1, hc2, hf⟩ := bd1_e hf
    refine r_selVv C hw (c_X6_append (zr := (ad 13)) hc2) md_X6_append (Sel.skip _ (Sel.last (gcR g (ad 13) Tr) (gcR g (ad 13) Tr_1) rfl rfl)) q4_104 3 rfl cf_X6.1 ⟨Nat.le_of_ble_eq_true rfl, Nat.le_of_ble_eq_true rfl⟩ ⟨Nat.zero_le _, Nat.zero_le _⟩ hl.1 rfl rfl (Nat.le_of_ble_eq_true rfl) dX10_record_20 (fun H locs hw => ?_)
    refine lv_aload_n hx hb dX10_record_23 rfl (lv_at hl 0 rfl) ?_
    refine r_get C hw 0 rfl cf_X10 11 (by decide) q2_21 (v := .ref ((ad 13) 0)) rfl dX10_record_24 ?_
    refine r_getN C hw 3 rfl cf_X6 0 (by decide) nq_27 (v := .int (Tr_1 0 0)) rfl dX10_record_27 ?_
    obtain ⟨rfl, rfl⟩ := so2 hf
    exact r_iret C hw rfl dX10_record_30
  · have hf := it_n hf hc3
    refine lv_bipush (v := (-5 : Int32)) hx hb dX10_record_12 rfl ?_
    obtain ⟨rfl, rfl⟩ := so2 hf
    exact r_iret C hw rfl dX10_record_14
set_option maxRecDepth 100000 in
set_option maxHeartbeats 4000000 in
theorem c_X10_burn {l : Launch} {g : evG} {ad : Nat → Nat → Nat} {r : Int32} {or : Gp}  {Te : Gp} {Tr : Gp} (hf : fX10_burn Te Tr = some (r, or)) : CTi l g yX10_burn (Cond.code yX10_burn cX10_burn 2 (some .int)) 0 0 [.ref ((ad 0) 0)] (gcE g ad Te ++ (gcR g (ad 13) Tr)) (gcE g ad Te ++ (gcR g (ad 13) or)) r := by
  refine ct_i rfl (Nat.le_of_ble_eq_true rfl) ?_
  intro p e s m args below meth c A ls C hw hl
  have C : ctx g p s m args meth c RX10 cX10_burn 2 (some .int) A := C
  have hl : lv_has ls 2 [(0, .ref ((ad 0) 0))] := hl
  obtain ⟨hx, hb, hml, hown, hts, -⟩ := id C
  unfold fX10_burn at hf
  refine lv_aload_n hx hb dX10_burn_0 rfl (lv_at hl 0 rfl) ?_
  refine r_get C hw 0 rfl cf_X10 11 (by decide) q2_21 (v := .ref ((ad 13) 0)) rfl dX10_burn_1 ?_
  refine r_getN C hw 3 rfl cf_X6 0 (by decide) nq_27 (v := .int (Tr 0 0)) rfl dX10_burn_4 ?_
  refine lv_istore_n (lv' := [(1, .int (Tr 0 0)), (0, .ref ((ad 0) 0))]) hx hb dX10_burn_7 rfl hl (by decide) rfl (fun ls hl => ?_)
  refine lv_aload_n hx hb dX10_burn_8 rfl (lv_at hl 1 rfl) ?_
  refine r_get C hw 0 rfl cf_X10 11 (by decide) q2_21 (v := .ref ((ad 13) 0)) rfl dX10_burn_9 ?_
  refine lv_iconst (v := (0 : Int32)) hx hb dX10_burn_12 rfl ?_
  refine r_putiN C hw 3 rfl cf_X6 0 (by decide) nq_27 rfl rfl (Nat.le_of_ble_eq_true rfl) (ws' := (gcE g ad Te ++ (gcR g (ad 13) (u2 Tr 0 0 (0 : Int32))))) (set_r (n := 3) (k := 0) rfl gcR_p0) dX10_burn_13 (fun H locs hw => ?_)
  refine lv_iload_n hx hb dX10_burn_16 rfl (lv_at hl 0 rfl) ?_
  obtain ⟨rfl, rfl⟩ := so2 hf
  exact r_iret C hw rfl dX10_burn_17
set_option maxRecDepth 100000 in
set_option maxHeartbeats 4000000 in
theorem c_X10_slips {l : Launch} {g : evG} {ad : Nat → Nat → Nat} {r : Int32} {or : Gp}  {Te : Gp} {Tr : Gp} {x1 : Int32} {x2 : Int32} {x3 : Int32} (hf : fX10_slips Te Tr x1 x2 x3 = some (r, or)) : CTi l g yX10_slips (Cond.code yX10_slips cX10_slips 4 (some .int)) 5 120 [.ref ((ad 0) 0), .int x1, .int x2, .int x3] (gcE g ad Te ++ (gcR g (ad 13) Tr)) (gcE g ad Te ++ (gcR g (ad 13) or)) r := by
  refine ct_i rfl (Nat.le_of_ble_eq_true rfl) ?_
  intro p e s m args below meth c A ls C hw hl
  have C : ctx g p s m args meth c RX10 cX10_slips 4 (some .int) A := C
  have hl : lv_has ls 4 [(0, .ref ((ad 0) 0)), (1, .int x1), (2, .int x2), (3, .int x3)] := hl
  obtain ⟨hx, hb, hml, hown, hts, -⟩ := id C
  unfold fX10_slips at hf
  refine lv_iload_n hx hb dX10_slips_0 rfl (lv_at hl 1 rfl) ?_
  refine lv_iconst (v := (1 : Int32)) hx hb dX10_slips_1 rfl ?_
  refine lv_bipush (v := (9 : Int32)) hx hb dX10_slips_2 rfl ?_
  obtain ⟨r1, hc2, hf⟩ := bd1_e hf
  refine r_callSi0 C hw (c_X10_within hc2) md_X10_within [] rfl rfl q2_51 ⟨Nat.le_of_ble_eq_true rfl, Nat.le_of_ble_eq_true rfl⟩ ⟨Nat.zero_le _, Nat.zero_le _⟩ hl.1 rfl rfl (Nat.le_of_ble_eq_true rfl) dX10_slips_4 (fun H locs hw => ?_)
  refine lv_if_eq (tgt := 20) hx hb dX10_slips_7 (by decide) (fun hc18 => ?_) (fun hc18 => ?_)
  · have hf := it_p hf hc18
    refine lv_bipush (v := (-3 : Int32)) hx hb dX10_slips_20 rfl ?_
    obtain ⟨rfl, rfl⟩ := so2 hf
    exact r_iret C hw rfl dX10_slips_22
  · have hf := it_n hf hc18
    refine lv_iload_n hx hb dX10_slips_10 rfl (lv_at hl 2 rfl) ?_
    refine lv_iconst (v := (1 : Int32)) hx hb dX10_slips_11 rfl ?_
    refine lv_bipush (v := (9 : Int32)) hx hb dX10_slips_12 rfl ?_
    obtain ⟨r3, hc4, hf⟩ := bd1_e hf
    refine r_callSi0 C hw (c_X10_within hc4) md_X10_within [] rfl rfl q2_51 ⟨Nat.le_of_ble_eq_true rfl, Nat.le_of_ble_eq_true rfl⟩ ⟨Nat.zero_le _, Nat.zero_le _⟩ hl.1 rfl rfl (Nat.le_of_ble_eq_true rfl) dX10_slips_14 (fun H locs hw => ?_)
    refine lv_if_ne (tgt := 23) hx hb dX10_slips_17 (by decide) (fun hc17 => ?_) (fun hc17 => ?_)
    · have hf := it_n hf hc17
      refine lv_iload_n hx hb dX10_slips_23 rfl (lv_at hl 3 rfl) ?_
      by_cases hs8 : x3 = (0 : Int32)
      · have hf := it_p hf hs8
        refine lv_tableIn (off := 28) (tgt := 52) hx hb dX10_slips_24 (by rw [hs8]; decide) (by rw [hs8]; decide) (by rw [hs8]; rfl) (by decide) ?_
        refine lv_aload_n hx hb dX10_slips_52 rfl (lv_at hl 0 rfl) ?_
        refine r_get C hw 0 rfl cf_X10 11 (by decide) q2_21 (v := .ref ((ad 13) 0)) rfl dX10_slips_53 ?_
        refine lv_iload_n hx hb dX10_slips_56 rfl (lv_at hl 1 rfl) ?_
        refine lv_iload_n hx hb dX10_slips_57 rfl (lv_at hl 2 rfl) ?_
        obtain ⟨r5, Tr_6, hc7, hf⟩ := bd2_e hf
        refine r_selVi C hw (c_X6_leastCost (zr := (ad 13)) hc7) md_X6_leastCost (Sel.skip _ (Sel.last (gcR g (ad 13) Tr) (gcR g (ad 13) Tr_6) rfl rfl)) q4_116 3 rfl cf_X6.1 ⟨Nat.le_of_ble_eq_true rfl, Nat.le_of_ble_eq_true rfl⟩ ⟨Nat.zero_le _, Nat.zero_le _⟩ hl.1 rfl rfl (Nat.le_of_ble_eq_true rfl) dX10_slips_58 (fun H locs hw => ?_)
        obtain ⟨rfl, rfl⟩ := so2 hf
        exact r_iret C hw rfl dX10_slips_61
      · have hf := it_n hf hs8
        by_cases hs12 : x3 = (1 : Int32)
        · have hf := it_p hf hs12
          refine lv_tableIn (off := 38) (tgt := 62) hx hb dX10_slips_24 (by rw [hs12]; decide) (by rw [hs12]; decide) (by rw [hs12]; rfl) (by decide) ?_
          refine lv_aload_n hx hb dX10_slips_62 rfl (lv_at hl 0 rfl) ?_
          refine r_get C hw 0 rfl cf_X10 11 (by decide) q2_21 (v := .ref ((ad 13) 0)) rfl dX10_slips_63 ?_
          refine lv_iload_n hx hb dX10_slips_66 rfl (lv_at hl 1 rfl) ?_
          refine lv_iload_n hx hb dX10_slips_67 rfl (lv_at hl 2 rfl) ?_
          obtain ⟨r9, Tr_10, hc11, hf⟩ := bd2_e hf
          refine r_selVi C hw (c_X6_fewestSlips (zr := (ad 13)) hc11) md_X6_fewestSlips (Sel.skip _ (Sel.last (gcR g (ad 13) Tr) (gcR g (ad 13) Tr_10) rfl rfl)) q4_139 3 rfl cf_X6.1 ⟨Nat.le_of_ble_eq_true rfl, Nat.le_of_ble_eq_true rfl⟩ ⟨Nat.zero_le _, Nat.zero_le _⟩ hl.1 rfl rfl (Nat.le_of_ble_eq_true rfl) dX10_slips_68 (fun H locs hw => ?_)
          obtain ⟨rfl, rfl⟩ := so2 hf
          exact r_iret C hw rfl dX10_slips_71
        · have hf := it_n hf hs12
          by_cases hs16 : x3 = (2 : Int32)
          · have hf := it_p hf hs16
            refine lv_tableIn (off := 48) (tgt := 72) hx hb dX10_slips_24 (by rw [hs16]; decide) (by rw [hs16]; decide) (by rw [hs16]; rfl) (by decide) ?_
            refine lv_aload_n hx hb dX10_slips_72 rfl (lv_at hl 0 rfl) ?_
            refine r_get C hw 0 rfl cf_X10 11 (by decide) q2_21 (v := .ref ((ad 13) 0)) rfl dX10_slips_73 ?_
            refine lv_iload_n hx hb dX10_slips_76 rfl (lv_at hl 1 rfl) ?_
            refine lv_iload_n hx hb dX10_slips_77 rfl (lv_at hl 2 rfl) ?_
            obtain ⟨r13, Tr_14, hc15, hf⟩ := bd2_e hf
            refine r_selVi C hw (c_X6_firstSlip (zr := (ad 13)) hc15) md_X6_firstSlip (Sel.skip _ (Sel.last (gcR g (ad 13) Tr) (gcR g (ad 13) Tr_14) rfl rfl)) q4_143 3 rfl cf_X6.1 ⟨Nat.le_of_ble_eq_true rfl, Nat.le_of_ble_eq_true rfl⟩ ⟨Nat.zero_le _, Nat.zero_le _⟩ hl.1 rfl rfl (Nat.le_of_ble_eq_true rfl) dX10_slips_78 (fun H locs hw => ?_)
            obtain ⟨rfl, rfl⟩ := so2 hf
            exact r_iret C hw rfl dX10_slips_81
          · have hf := it_n hf hs16
            refine lv_tableOut (tgt := 82) hx hb dX10_slips_24 (sw_o (lo := 0) (hi := 2) (by decide) (by decide) (fun k h1 h2 => ?_)) (by decide) ?_
            · rcases (show k = 0 ∨ k = 1 ∨ k = 2 by omega) with rfl | rfl | rfl
              · exact hs8
              · exact hs12
              · exact hs16
            · refine lv_bipush (v := (-3 : Int32)) hx hb dX10_slips_82 rfl ?_
              obtain ⟨rfl, rfl⟩ := so2 hf
              exact r_iret C hw rfl dX10_slips_84
    · have hf := it_p hf hc17
      refine lv_bipush (v := (-3 : Int32)) hx hb dX10_slips_20 rfl ?_
      obtain ⟨rfl, rfl⟩ := so2 hf
      exact r_iret C hw rfl dX10_slips_22
set_option maxRecDepth 100000 in
set_option maxHeartbeats 4000000 in
theorem c_X10_keep {l : Launch} {g : evG} {ad : Nat → Nat → Nat} {r : Int32} {oe oa ob : Gp}  {Te : Gp} {Td : Gp} {Ta : Gp} {Tb : Gp} {x1 : Int32} (hf : fX10_keep Te Td Ta Tb x1 = some (r, oe, oa, ob)) : CTi l g yX10_keep (Cond.code yX10_keep cX10_keep 2 (some .int)) 1 22 [.ref ((ad 0) 0), .int x1] (gcE g ad Te ++ (gcD g (ad 6) Td ++ (gcD g (ad 7) Ta ++ (gcD g (ad 8) Tb)))) (gcE g ad oe ++ (gcD g (ad 6) Td ++ (gcD g (ad 7) oa ++ (gcD g (ad 8) ob)))) r := by
  refine ct_i rfl (Nat.le_of_ble_eq_true rfl) ?_
  intro p e s m args below meth c A ls C hw hl
  have C : ctx g p s m args meth c RX10 cX10_keep 2 (some .int) A := C
  have hl : lv_has ls 2 [(0, .ref ((ad 0) 0)), (1, .int x1)] := hl
  obtain ⟨hx, hb, hml, hown, hts, -⟩ := id C
  unfold fX10_keep at hf
  refine lv_iload_n hx hb dX10_keep_0 rfl (lv_at hl 1 rfl) ?_
  refine lv_iconst (v := (0 : Int32)) hx hb dX10_keep_1 rfl ?_
  refine lv_iconst (v := (1 : Int32)) hx hb dX10_keep_2 rfl ?_
  obtain ⟨r1, hc2, hf⟩ := bd1_e hf
  refine r_callSi0 C hw (c_X10_within hc2) md_X10_within [] rfl rfl q2_51 ⟨Nat.le_of_ble_eq_true rfl, Nat.le_of_ble_eq_true rfl⟩ ⟨Nat.zero_le _, Nat.zero_le _⟩ hl.1 rfl rfl (Nat.le_of_ble_eq_true rfl) dX10_keep_3 (fun H locs hw => ?_)
  refine lv_if_ne (tgt := 12) hx hb dX10_keep_6 (by decide) (fun hc11 => ?_) (fun hc11 => ?_)
  · have hf := it_n hf hc11
    refine lv_aload_n hx hb dX10_keep_12 rfl (lv_at hl 0 rfl) ?_
    refine r_get C hw 0 rfl cf_X10 5 (by decide) q2_15 (v := .ref ((ad 0) 1)) rfl dX10_keep_13 ?_
    refine lv_iload_n hx hb dX10_keep_16 rfl (lv_at hl 1 rfl) ?_
    obtain ⟨hi3, hf⟩ := it_g hf
    refine r_aldK C hw 1 rfl hi3 dX10_keep_17 (fun hc4 => ?_) (fun hc4 => ?_)
    · have hf := it_p hf hc4
      refine lv_aload_n hx hb dX10_keep_18 rfl (lv_at hl 0 rfl) ?_
      refine r_get C hw 0 rfl cf_X10 4 (by decide) q2_14 (v := .ref ((ad 6) 0)) rfl dX10_keep_19 ?_
      obtain ⟨Ta_5, hc6, hf⟩ := bd1_e hf
      refine r_callVv C hw (c_X0_becomeLike (zd := (ad 7)) (zo := (ad 6)) hc6) md_X0_becomeLike [8, 9, 10, 11, 12, 3, 4, 5, 6, 7] rfl rfl rfl q4_151 8 rfl cf_X0.1 ⟨Nat.le_of_ble_eq_true rfl, Nat.le_of_ble_eq_true rfl⟩ ⟨Nat.zero_le _, Nat.zero_le _⟩ hl.1 rfl rfl (Nat.le_of_ble_eq_true rfl) dX10_keep_22 (fun H locs hw => ?_)
      have hw : wl g A s.heap (gcE g ad Te ++ (gcD g (ad 6) Td ++ (gcD g (ad 7) Ta_5 ++ (gcD g (ad 8) Tb)))) H locs := hw
      refine lv_aload_n hx hb dX10_keep_25 rfl (lv_at hl 0 rfl) ?_
      refine r_get C hw 0 rfl cf_X10 6 (by decide) q2_16 (v := .ref ((ad 0) 2)) rfl dX10_keep_26 ?_
      refine lv_iload_n hx hb dX10_keep_29 rfl (lv_at hl 1 rfl) ?_
      refine lv_iconst (v := (1 : Int32)) hx hb dX10_keep_30 rfl ?_
      obtain ⟨hi7, hf⟩ := it_g hf
      refine r_zast C hw 2 (f := (Te 2)) rfl hi7 (ws' := (gcE g ad (u2 Te 2 x1.toNatClampNeg (vp_nar .boolean (1 : Int32))) ++ (gcD g (ad 6) Td ++ (gcD g (ad 7) Ta_5 ++ (gcD g (ad 8) Tb))))) (set_l (Nat.le_of_ble_eq_true rfl) gcE_a2) dX10_keep_31 (fun H locs hw => ?_)
      refine lv_aload_n hx hb dX10_keep_32 rfl (lv_at hl 0 rfl) ?_
      refine r_get C hw 0 rfl cf_X10 4 (by decide) q2_14 (v := .ref ((ad 6) 0)) rfl dX10_keep_33 ?_
      refine r_getN C hw 3 rfl cf_X0 0 (by decide) nq_19 (v := .int (Td 0 0)) rfl dX10_keep_36 ?_
      obtain ⟨rfl, rfl, rfl, rfl⟩ := so4 hf
      exact r_iret C hw rfl dX10_keep_39
    · have hf := it_n hf hc4
      refine lv_aload_n hx hb dX10_keep_18 rfl (lv_at hl 0 rfl) ?_
      refine r_get C hw 0 rfl cf_X10 4 (by decide) q2_14 (v := .ref ((ad 6) 0)) rfl dX10_keep_19 ?_
      obtain ⟨Tb_8, hc9, hf⟩ := bd1_e hf
      refine r_callVv C hw (c_X0_becomeLike (zd := (ad 8)) (zo := (ad 6)) hc9) md_X0_becomeLike [13, 14, 15, 16, 17, 3, 4, 5, 6, 7] rfl rfl rfl q4_151 13 rfl cf_X0.1 ⟨Nat.le_of_ble_eq_true rfl, Nat.le_of_ble_eq_true rfl⟩ ⟨Nat.zero_le _, Nat.zero_le _⟩ hl.1 rfl rfl (Nat.le_of_ble_eq_true rfl) dX10_keep_22 (fun H locs hw => ?_)
      have hw : wl g A s.heap (gcE g ad Te ++ (gcD g (ad 6) Td ++ (gcD g (ad 7) Ta ++ (gcD g (ad 8) Tb_8)))) H locs := hw
      refine lv_aload_n hx hb dX10_keep_25 rfl (lv_at hl 0 rfl) ?_
      refine r_get C hw 0 rfl cf_X10 6 (by decide) q2_16 (v := .ref ((ad 0) 2)) rfl dX10_keep_26 ?_
      refine lv_iload_n hx hb dX10_keep_29 rfl (lv_at hl 1 rfl) ?_
      refine lv_iconst (v := (1 : Int32)) hx hb dX10_keep_30 rfl ?_
      obtain ⟨hi10, hf⟩ := it_g hf
      refine r_zast C hw 2 (f := (Te 2)) rfl hi10 (ws' := (gcE g ad (u2 Te 2 x1.toNatClampNeg (vp_nar .boolean (1 : Int32))) ++ (gcD g (ad 6) Td ++ (gcD g (ad 7) Ta ++ (gcD g (ad 8) Tb_8))))) (set_l (Nat.le_of_ble_eq_true rfl) gcE_a2) dX10_keep_31 (fun H locs hw => ?_)
      refine lv_aload_n hx hb dX10_keep_32 rfl (lv_at hl 0 rfl) ?_
      refine r_get C hw 0 rfl cf_X10 4 (by decide) q2_14 (v := .ref ((ad 6) 0)) rfl dX10_keep_33 ?_
      refine r_getN C hw 3 rfl cf_X0 0 (by decide) nq_19 (v := .int (Td 0 0)) rfl dX10_keep_36 ?_
      obtain ⟨rfl, rfl, rfl, rfl⟩ := so4 hf
      exact r_iret C hw rfl dX10_keep_39
  · have hf := it_p hf hc11
    refine lv_bipush (v := (-2 : Int32)) hx hb dX10_keep_9 rfl ?_
    obtain ⟨rfl, rfl, rfl, rfl⟩ := so4 hf
    exact r_iret C hw rfl dX10_keep_11
set_option maxRecDepth 100000 in
set_option maxHeartbeats 4000000 in
theorem c_X10_back {l : Launch} {g : evG} {ad : Nat → Nat → Nat} {r : Int32} {od : Gp}  {Te : Gp} {Td : Gp} {Ta : Gp} {Tb : Gp} {x1 : Int32} (hf : fX10_back Te Td Ta Tb x1 = some (r, od)) : CTi l g yX10_back (Cond.code yX10_back cX10_back 2 (some .int)) 1 22 [.ref ((ad 0) 0), .int x1] (gcE g ad Te ++ (gcD g (ad 6) Td ++ (gcD g (ad 7) Ta ++ (gcD g (ad 8) Tb)))) (gcE g ad Te ++ (gcD g (ad 6) od ++ (gcD g (ad 7) Ta ++ (gcD g (ad 8) Tb)))) r := by
  refine ct_i rfl (Nat.le_of_ble_eq_true rfl) ?_
  intro p e s m args below meth c A ls C hw hl
  have C : ctx g p s m args meth c RX10 cX10_back 2 (some .int) A := C
  have hl : lv_has ls 2 [(0, .ref ((ad 0) 0)), (1, .int x1)] := hl
  obtain ⟨hx, hb, hml, hown, hts, -⟩ := id C
  unfold fX10_back at hf
  refine lv_iload_n hx hb dX10_back_0 rfl (lv_at hl 1 rfl) ?_
  refine lv_iconst (v := (0 : Int32)) hx hb dX10_back_1 rfl ?_
  refine lv_iconst (v := (1 : Int32)) hx hb dX10_back_2 rfl ?_
  obtain ⟨r1, hc2, hf⟩ := bd1_e hf
  refine r_callSi0 C hw (c_X10_within hc2) md_X10_within [] rfl rfl q2_51 ⟨Nat.le_of_ble_eq_true rfl, Nat.le_of_ble_eq_true rfl⟩ ⟨Nat.zero_le _, Nat.zero_le _⟩ hl.1 rfl rfl (Nat.le_of_ble_eq_true rfl) dX10_back_3 (fun H locs hw => ?_)
  refine lv_if_ne (tgt := 12) hx hb dX10_back_6 (by decide) (fun hc11 => ?_) (fun hc11 => ?_)
  · have hf := it_n hf hc11
    refine lv_aload_n hx hb dX10_back_12 rfl (lv_at hl 0 rfl) ?_
    refine r_get C hw 0 rfl cf_X10 6 (by decide) q2_16 (v := .ref ((ad 0) 2)) rfl dX10_back_13 ?_
    refine lv_iload_n hx hb dX10_back_16 rfl (lv_at hl 1 rfl) ?_
    obtain ⟨hi3, hf⟩ := it_g hf
    refine r_zald C hw 2 (f := (Te 2)) rfl hi3 dX10_back_17 ?_
    refine lv_if_ne (tgt := 24) hx hb dX10_back_18 (by decide) (fun hc10 => ?_) (fun hc10 => ?_)
    · have hf := it_n hf hc10
      refine lv_aload_n hx hb dX10_back_24 rfl (lv_at hl 0 rfl) ?_
      refine r_get C hw 0 rfl cf_X10 4 (by decide) q2_14 (v := .ref ((ad 6) 0)) rfl dX10_back_25 ?_
      refine lv_aload_n hx hb dX10_back_28 rfl (lv_at hl 0 rfl) ?_
      refine r_get C hw 0 rfl cf_X10 5 (by decide) q2_15 (v := .ref ((ad 0) 1)) rfl dX10_back_29 ?_
      refine lv_iload_n hx hb dX10_back_32 rfl (lv_at hl 1 rfl) ?_
      obtain ⟨hi4, hf⟩ := it_g hf
      refine r_aldK C hw 1 rfl hi4 dX10_back_33 (fun hc5 => ?_) (fun hc5 => ?_)
      · have hf := it_p hf hc5
        obtain ⟨Td_6, hc7, hf⟩ := bd1_e hf
        refine r_selVv C hw (c_X0_becomeLike (zd := (ad 6)) (zo := (ad 7)) hc7) md_X0_becomeLike (Sel.skip _ (Sel.take (gcD g (ad 6) Td) (gcD g (ad 6) Td_6) rfl rfl (Sel.one (gcD g (ad 7) Ta) (gcD g (ad 7) Ta) _ rfl rfl))) q4_151 3 rfl cf_X0.1 ⟨Nat.le_of_ble_eq_true rfl, Nat.le_of_ble_eq_true rfl⟩ ⟨Nat.zero_le _, Nat.zero_le _⟩ hl.1 rfl rfl (Nat.le_of_ble_eq_true rfl) dX10_back_34 (fun H locs hw => ?_)
        refine lv_aload_n hx hb dX10_back_37 rfl (lv_at hl 0 rfl) ?_
        refine r_get C hw 0 rfl cf_X10 4 (by decide) q2_14 (v := .ref ((ad 6) 0)) rfl dX10_back_38 ?_
        refine r_getN C hw 3 rfl cf_X0 0 (by decide) nq_19 (v := .int (Td_6 0 0)) rfl dX10_back_41 ?_
        obtain ⟨rfl, rfl⟩ := so2 hf
        exact r_iret C hw rfl dX10_back_44
      · have hf := it_n hf hc5
        obtain ⟨Td_8, hc9, hf⟩ := bd1_e hf
        refine r_selVv C hw (c_X0_becomeLike (zd := (ad 6)) (zo := (ad 8)) hc9) md_X0_becomeLike (Sel.skip _ (Sel.take (gcD g (ad 6) Td) (gcD g (ad 6) Td_8) rfl rfl (Sel.skip _ (Sel.last (gcD g (ad 8) Tb) (gcD g (ad 8) Tb) rfl rfl)))) q4_151 3 rfl cf_X0.1 ⟨Nat.le_of_ble_eq_true rfl, Nat.le_of_ble_eq_true rfl⟩ ⟨Nat.zero_le _, Nat.zero_le _⟩ hl.1 rfl rfl (Nat.le_of_ble_eq_true rfl) dX10_back_34 (fun H locs hw => ?_)
        refine lv_aload_n hx hb dX10_back_37 rfl (lv_at hl 0 rfl) ?_
        refine r_get C hw 0 rfl cf_X10 4 (by decide) q2_14 (v := .ref ((ad 6) 0)) rfl dX10_back_38 ?_
        refine r_getN C hw 3 rfl cf_X0 0 (by decide) nq_19 (v := .int (Td_8 0 0)) rfl dX10_back_41 ?_
        obtain ⟨rfl, rfl⟩ := so2 hf
        exact r_iret C hw rfl dX10_back_44
    · have hf := it_p hf hc10
      refine lv_bipush (v := (-4 : Int32)) hx hb dX10_back_21 rfl ?_
      obtain ⟨rfl, rfl⟩ := so2 hf
      exact r_iret C hw rfl dX10_back_23
  · have hf := it_p hf hc11
    refine lv_bipush (v := (-2 : Int32)) hx hb dX10_back_9 rfl ?_
    obtain ⟨rfl, rfl⟩ := so2 hf
    exact r_iret C hw rfl dX10_back_11
set_option maxRecDepth 100000 in
set_option maxHeartbeats 4000000 in
theorem c_X10_count {l : Launch} {g : evG} {ad : Nat → Nat → Nat} {r : Int32}  {Te : Gp} {Td : Gp} {Tx : Gp} {Tt : Gp} {Tr : Gp} {x1 : Int32} (hf : fX10_count Te Td Tx Tt Tr x1 = some (r)) : CTi l g yX10_count (Cond.code yX10_count cX10_count 2 (some .int)) 1 22 [.ref ((ad 0) 0), .int x1] (gcE g ad Te ++ (gcD g (ad 6) Td ++ (gcX g (ad 3) Tx ++ (gcT g (ad 1) Tt ++ (gcR g (ad 13) Tr))))) (gcE g ad Te ++ (gcD g (ad 6) Td ++ (gcX g (ad 3) Tx ++ (gcT g (ad 1) Tt ++ (gcR g (ad 13) Tr))))) r := by
  refine ct_i rfl (Nat.le_of_ble_eq_true rfl) ?_
  intro p e s m args below meth c A ls C hw hl
  have C : ctx g p s m args meth c RX10 cX10_count 2 (some .int) A := C
  have hl : lv_has ls 2 [(0, .ref ((ad 0) 0)), (1, .int x1)] := hl
  obtain ⟨hx, hb, hml, hown, hts, -⟩ := id C
  unfold fX10_count at hf
  refine lv_iload_n hx hb dX10_count_0 rfl (lv_at hl 1 rfl) ?_
  by_cases hs1 : x1 = (0 : Int32)
  · have hf := it_p hf hs1
    refine lv_tableIn (off := 43) (tgt := 44) hx hb dX10_count_1 (by rw [hs1]; decide) (by rw [hs1]; decide) (by rw [hs1]; rfl) (by decide) ?_
    refine lv_aload_n hx hb dX10_count_44 rfl (lv_at hl 0 rfl) ?_
    refine r_get C hw 0 rfl cf_X10 0 (by decide) q2_10 (v := .ref ((ad 1) 0)) rfl dX10_count_45 ?_
    refine r_getN C hw 10 rfl cf_X9 0 (by decide) nq_3 (v := .int (Tt 0 0)) rfl dX10_count_48 ?_
    obtain rfl := so1 hf
    exact r_iret C hw rfl dX10_count_51
  · have hf := it_n hf hs1
    by_cases hs2 : x1 = (1 : Int32)
    · have hf := it_p hf hs2
      refine lv_tableIn (off := 51) (tgt := 52) hx hb dX10_count_1 (by rw [hs2]; decide) (by rw [hs2]; decide) (by rw [hs2]; rfl) (by decide) ?_
      refine lv_aload_n hx hb dX10_count_52 rfl (lv_at hl 0 rfl) ?_
      refine r_get C hw 0 rfl cf_X10 0 (by decide) q2_10 (v := .ref ((ad 1) 0)) rfl dX10_count_53 ?_
      refine r_getN C hw 10 rfl cf_X9 1 (by decide) nq_6 (v := .int (Tt 0 1)) rfl dX10_count_56 ?_
      obtain rfl := so1 hf
      exact r_iret C hw rfl dX10_count_59
    · have hf := it_n hf hs2
      by_cases hs3 : x1 = (2 : Int32)
      · have hf := it_p hf hs3
        refine lv_tableIn (off := 59) (tgt := 60) hx hb dX10_count_1 (by rw [hs3]; decide) (by rw [hs3]; decide) (by rw [hs3]; rfl) (by decide) ?_
        refine lv_aload_n hx hb dX10_count_60 rfl (lv_at hl 0 rfl) ?_
        refine r_get C hw 0 rfl cf_X10 0 (by decide) q2_10 (v := .ref ((ad 1) 0)) rfl dX10_count_61 ?_
        refine r_getN C hw 10 rfl cf_X9 2 (by decide) nq_10 (v := .int (Tt 0 2)) rfl dX10_count_64 ?_
        obtain rfl := so1 hf
        exact r_iret C hw rfl dX10_count_67
      · have hf := it_n hf hs3
        by_cases hs4 : x1 = (3 : Int32)
        · have hf := it_p hf hs4
          refine lv_tableIn (off := 67) (tgt := 68) hx hb dX10_count_1 (by rw [hs4]; decide) (by rw [hs4]; decide) (by rw [hs4]; rfl) (by decide) ?_
          refine lv_aload_n hx hb dX10_count_68 rfl (lv_at hl 0 rfl) ?_
          refine r_get C hw 0 rfl cf_X10 0 (by decide) q2_10 (v := .ref ((ad 1) 0)) rfl dX10_count_69 ?_
          refine r_getN C hw 10 rfl cf_X9 3 (by decide) nq_13 (v := .int (Tt 0 3)) rfl dX10_count_72 ?_
          obtain rfl := so1 hf
          exact r_iret C hw rfl dX10_count_75
        · have hf := it_n hf hs4
          by_cases hs5 : x1 = (4 : Int32)
          · have hf := it_p hf hs5
            refine lv_tableIn (off := 75) (tgt := 76) hx hb dX10_count_1 (by rw [hs5]; decide) (by rw [hs5]; decide) (by rw [hs5]; rfl) (by decide) ?_
            refine lv_aload_n hx hb dX10_count_76 rfl (lv_at hl 0 rfl) ?_
            refine r_get C hw 0 rfl cf_X10 4 (by decide) q2_14 (v := .ref ((ad 6) 0)) rfl dX10_count_77 ?_
            refine r_getN C hw 3 rfl cf_X0 0 (by decide) nq_19 (v := .int (Td 0 0)) rfl dX10_count_80 ?_
            obtain rfl := so1 hf
            exact r_iret C hw rfl dX10_count_83
          · have hf := it_n hf hs5
            by_cases hs6 : x1 = (5 : Int32)
            · have hf := it_p hf hs6
              refine lv_tableIn (off := 83) (tgt := 84) hx hb dX10_count_1 (by rw [hs6]; decide) (by rw [hs6]; decide) (by rw [hs6]; rfl) (by decide) ?_
              refine lv_aload_n hx hb dX10_count_84 rfl (lv_at hl 0 rfl) ?_
              refine r_get C hw 0 rfl cf_X10 11 (by decide) q2_21 (v := .ref ((ad 13) 0)) rfl dX10_count_85 ?_
              refine r_getN C hw 16 rfl cf_X6 0 (by decide) nq_27 (v := .int (Tr 0 0)) rfl dX10_count_88 ?_
              obtain rfl := so1 hf
              exact r_iret C hw rfl dX10_count_91
            · have hf := it_n hf hs6
              by_cases hs7 : x1 = (6 : Int32)
              · have hf := it_p hf hs7
                refine lv_tableIn (off := 91) (tgt := 92) hx hb dX10_count_1 (by rw [hs7]; decide) (by rw [hs7]; decide) (by rw [hs7]; rfl) (by decide) ?_
                refine lv_aload_n hx hb dX10_count_92 rfl (lv_at hl 0 rfl) ?_
                refine r_get C hw 0 rfl cf_X10 2 (by decide) q2_12 (v := .ref ((ad 3) 0)) rfl dX10_count_93 ?_
                refine r_getN C hw 8 rfl cf_X7 0 (by decide) nq_15 (v := .int (Tx 0 0)) rfl dX10_count_96 ?_
                obtain rfl := so1 hf
                exact r_iret C hw rfl dX10_count_99
              · have hf := it_n hf hs7
                refine lv_tableOut (tgt := 100) hx hb dX10_count_1 (sw_o (lo := 0) (hi := 6) (by decide) (by decide) (fun k h1 h2 => ?_)) (by decide) ?_
                · rcases (show k = 0 ∨ k = 1 ∨ k = 2 ∨ k = 3 ∨ k = 4 ∨ k = 5 ∨ k = 6 by omega) with rfl | rfl | rfl | rfl | rfl | rfl | rfl
                  · exact hs1
                  · exact hs2
                  · exact hs3
                  · exact hs4
                  · exact hs5
                  · exact hs6
                  · exact hs7
                · refine lv_iload_n hx hb dX10_count_100 rfl (lv_at hl 1 rfl) ?_
                  refine lv_bipush (v := (7 : Int32)) hx hb dX10_count_101 rfl ?_
                  refine lv_bipush (v := (12 : Int32)) hx hb dX10_count_103 rfl ?_
                  obtain ⟨r8, hc9, hf⟩ := bd1_e hf
                  refine r_callSi0 C hw (c_X10_within hc9) md_X10_within [] rfl rfl q2_51 ⟨Nat.le_of_ble_eq_true rfl, Nat.le_of_ble_eq_true rfl⟩ ⟨Nat.zero_le _, Nat.zero_le _⟩ hl.1 rfl rfl (Nat.le_of_ble_eq_true rfl) dX10_count_105 (fun H locs hw => ?_)
                  refine lv_if_ne (tgt := 114) hx hb dX10_count_108 (by decide) (fun hc12 => ?_) (fun hc12 => ?_)
                  · have hf := it_n hf hc12
                    refine lv_aload_n hx hb dX10_count_114 rfl (lv_at hl 0 rfl) ?_
                    refine r_get C hw 0 rfl cf_X10 0 (by decide) q2_10 (v := .ref ((ad 1) 0)) rfl dX10_count_115 ?_
                    refine lv_iload_n hx hb dX10_count_118 rfl (lv_at hl 1 rfl) ?_
                    refine lv_bipush (v := (7 : Int32)) hx hb dX10_count_119 rfl ?_
                    refine lv_isub hx hb dX10_count_121 ?_
                    obtain ⟨r10, hc11, hf⟩ := bd1_e hf
                    refine r_callVi0 C hw (c_X9_kindOf (zt := (ad 1)) hc11) md_X9_kindOf [10, 11, 12, 13, 14, 15] rfl rfl q3_152 10 rfl cf_X9.1 ⟨Nat.le_of_ble_eq_true rfl, Nat.le_of_ble_eq_true rfl⟩ ⟨Nat.zero_le _, Nat.zero_le _⟩ hl.1 rfl rfl (Nat.le_of_ble_eq_true rfl) dX10_count_122 (fun H locs hw => ?_)
                    obtain rfl := so1 hf
                    exact r_iret C hw rfl dX10_count_125
                  · have hf := it_p hf hc12
                    refine lv_bipush (v := (-3 : Int32)) hx hb dX10_count_111 rfl ?_
                    obtain rfl := so1 hf
                    exact r_iret C hw rfl dX10_count_113
