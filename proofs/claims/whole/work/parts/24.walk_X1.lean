set_option maxRecDepth 100000 in
set_option maxHeartbeats 4000000 in
theorem c_X1_takeNumber {l : Launch} {g : evG} {zk : Nat → Nat} {zl : Nat → Nat} {zx : Nat → Nat} {r : Int32} {ol ok : Gp}  {Tl : Gp} {Tk : Gp} {Tx : Gp} {x1 : Int32} {x2 : Int32} (hf : fX1_takeNumber Tl Tk Tx x1 x2 = some (r, ol, ok)) : CTi l g yX1_takeNumber (Cond.code yX1_takeNumber cX1_takeNumber 4 (some .int)) 2 43 [.ref (zl 0), .int x1, .int x2] (gcL g zl zk Tl ++ (gcK g zk zx Tk ++ (gcX g zx Tx))) (gcL g zl zk ol ++ (gcK g zk zx ok ++ (gcX g zx Tx))) r := by
  refine ct_i rfl (Nat.le_of_ble_eq_true rfl) ?_
  intro p e s m args below meth c A ls C hw hl
  have C : ctx g p s m args meth c RX1 cX1_takeNumber 4 (some .int) A := C
  have hl : lv_has ls 4 [(0, .ref (zl 0)), (1, .int x1), (2, .int x2)] := hl
  obtain ⟨hx, hb, hml, hown, hts, -⟩ := id C
  unfold fX1_takeNumber at hf
  refine lv_aload_n hx hb dX1_takeNumber_0 rfl (lv_at hl 0 rfl) ?_
  refine r_get C hw 0 rfl cf_X1 1 (by decide) q1_126 (v := .int (Tl 0 1)) rfl dX1_takeNumber_1 ?_
  refine lv_iconst (v := (-1 : Int32)) hx hb dX1_takeNumber_4 rfl ?_
  refine lv_icmp_eq (tgt := 10) hx hb dX1_takeNumber_5 (by decide) (fun hc8 => ?_) (fun hc8 => ?_)
  · have hf := it_p hf hc8
    refine lv_aload_n hx hb dX1_takeNumber_10 rfl (lv_at hl 0 rfl) ?_
    refine r_get C hw 0 rfl cf_X1 0 (by decide) q1_125 (v := .ref (zk 0)) rfl dX1_takeNumber_11 ?_
    obtain ⟨r1, hc2, hf⟩ := bd1_e hf
    refine r_callVi0 C hw (c_X8_number (zk := zk) (zx := zx) hc2) md_X8_number [1, 2, 3] rfl rfl q2_157 1 rfl cf_X8.1 ⟨Nat.le_of_ble_eq_true rfl, Nat.le_of_ble_eq_true rfl⟩ ⟨Nat.zero_le _, Nat.zero_le _⟩ hl.1 rfl rfl (Nat.le_of_ble_eq_true rfl) dX1_takeNumber_14 (fun H locs hw => ?_)
    refine lv_istore_n (lv' := [(3, .int r1), (0, .ref (zl 0)), (1, .int x1), (2, .int x2)]) hx hb dX1_takeNumber_17 rfl hl (by decide) rfl (fun ls hl => ?_)
    refine lv_iload_n hx hb dX1_takeNumber_18 rfl (lv_at hl 0 rfl) ?_
    refine lv_iload_n hx hb dX1_takeNumber_19 rfl (lv_at hl 2 rfl) ?_
    refine lv_iload_n hx hb dX1_takeNumber_20 rfl (lv_at hl 3 rfl) ?_
    obtain ⟨r3, hc4, hf⟩ := bd1_e hf
    refine r_callNi0 C hw (c_X10_within hc4) md_X10_within [] rfl rfl nq_29 ⟨Nat.le_of_ble_eq_true rfl, Nat.le_of_ble_eq_true rfl⟩ ⟨Nat.zero_le _, Nat.zero_le _⟩ hl.1 rfl rfl (Nat.le_of_ble_eq_true rfl) dX1_takeNumber_21 (fun H locs hw => ?_)
    refine lv_if_eq (tgt := 37) hx hb dX1_takeNumber_24 (by decide) (fun hc7 => ?_) (fun hc7 => ?_)
    · have hf := it_p hf hc7
      refine lv_aload_n hx hb dX1_takeNumber_37 rfl (lv_at hl 1 rfl) ?_
      refine lv_aload_n hx hb dX1_takeNumber_38 rfl (lv_at hl 1 rfl) ?_
      refine r_get C hw 0 rfl cf_X1 0 (by decide) q1_125 (v := .ref (zk 0)) rfl dX1_takeNumber_39 ?_
      refine r_getN C hw 1 rfl cf_X8 1 (by decide) nq_17 (v := .int (Tk 0 1)) rfl dX1_takeNumber_42 ?_
      refine r_puti C hw 0 rfl cf_X1 1 (by decide) q1_126 rfl rfl (Nat.le_of_ble_eq_true rfl) (ws' := (gcL g zl zk (u2 Tl 0 1 (Tk 0 1)) ++ (gcK g zk zx Tk ++ (gcX g zx Tx)))) (set_l (Nat.le_of_ble_eq_true rfl) gcL_p1) dX1_takeNumber_45 (fun H locs hw => ?_)
      refine lv_iload_n hx hb dX1_takeNumber_48 rfl (lv_at hl 0 rfl) ?_
      obtain ⟨rfl, rfl, rfl⟩ := so3 hf
      exact r_iret C hw rfl dX1_takeNumber_49
    · have hf := it_n hf hc7
      refine lv_aload_n hx hb dX1_takeNumber_27 rfl (lv_at hl 1 rfl) ?_
      refine r_get C hw 0 rfl cf_X1 0 (by decide) q1_125 (v := .ref (zk 0)) rfl dX1_takeNumber_28 ?_
      obtain ⟨Tk_5, hc6, hf⟩ := bd1_e hf
      refine r_callVv C hw (c_X8_advance (zk := zk) (zx := zx) hc6) md_X8_advance [1, 2, 3] rfl rfl rfl q2_152 1 rfl cf_X8.1 ⟨Nat.le_of_ble_eq_true rfl, Nat.le_of_ble_eq_true rfl⟩ ⟨Nat.zero_le _, Nat.zero_le _⟩ hl.1 rfl rfl (Nat.le_of_ble_eq_true rfl) dX1_takeNumber_31 (fun H locs hw => ?_)
      have hw : wl g A s.heap (gcL g zl zk Tl ++ (gcK g zk zx Tk_5 ++ (gcX g zx Tx))) H locs := hw
      refine lv_goto (tgt := 48) hx hb dX1_takeNumber_34 (by decide) ?_
      refine lv_iload_n hx hb dX1_takeNumber_48 rfl (lv_at hl 0 rfl) ?_
      obtain ⟨rfl, rfl, rfl⟩ := so3 hf
      exact r_iret C hw rfl dX1_takeNumber_49
  · have hf := it_n hf hc8
    refine lv_iconst (v := (-1 : Int32)) hx hb dX1_takeNumber_8 rfl ?_
    obtain ⟨rfl, rfl, rfl⟩ := so3 hf
    exact r_iret C hw rfl dX1_takeNumber_9
set_option maxRecDepth 100000 in
set_option maxHeartbeats 4000000 in
theorem c_X1_readEats {l : Launch} {g : evG} {zk : Nat → Nat} {zl : Nat → Nat} {zv : Nat → Nat} {zx : Nat → Nat} {ol ok ov : Gp}  {Tl : Gp} {Tk : Gp} {Tx : Gp} {Tv : Gp} (hf : fX1_readEats Tl Tk Tx Tv = some (ol, ok, ov)) : CTv l g yX1_readEats (Cond.code yX1_readEats cX1_readEats 3 none) 3 66 [.ref (zl 0), .ref (zv 0)] (gcL g zl zk Tl ++ (gcK g zk zx Tk ++ (gcX g zx Tx ++ (gcT g zv Tv)))) (gcL g zl zk ol ++ (gcK g zk zx ok ++ (gcX g zx Tx ++ (gcT g zv ov)))) := by
  refine ct_v rfl (Nat.le_of_ble_eq_true rfl) ?_
  intro p e s m args below meth c A ls C hw hl
  have C : ctx g p s m args meth c RX1 cX1_readEats 3 none A := C
  have hl : lv_has ls 3 [(0, .ref (zl 0)), (1, .ref (zv 0))] := hl
  obtain ⟨hx, hb, hml, hown, hts, -⟩ := id C
  unfold fX1_readEats at hf
  refine lv_aload_n hx hb dX1_readEats_0 rfl (lv_at hl 0 rfl) ?_
  refine r_get C hw 0 rfl cf_X1 0 (by decide) q1_125 (v := .ref (zk 0)) rfl dX1_readEats_1 ?_
  obtain ⟨Tk_1, hc2, hf⟩ := bd1_e hf
  refine r_callVv C hw (c_X8_advance (zk := zk) (zx := zx) hc2) md_X8_advance [1, 2, 3] rfl rfl rfl q2_152 1 rfl cf_X8.1 ⟨Nat.le_of_ble_eq_true rfl, Nat.le_of_ble_eq_true rfl⟩ ⟨Nat.zero_le _, Nat.zero_le _⟩ hl.1 rfl rfl (Nat.le_of_ble_eq_true rfl) dX1_readEats_4 (fun H locs hw => ?_)
  have hw : wl g A s.heap (gcL g zl zk Tl ++ (gcK g zk zx Tk_1 ++ (gcX g zx Tx ++ (gcT g zv Tv)))) H locs := hw
  refine lv_aload_n hx hb dX1_readEats_7 rfl (lv_at hl 0 rfl) ?_
  refine lv_iconst (v := (0 : Int32)) hx hb dX1_readEats_8 rfl ?_
  refine lv_bipush (v := (20 : Int32)) hx hb dX1_readEats_9 rfl ?_
  obtain ⟨r3, Tl_4, Tk_5, hc6, hf⟩ := bd3_e hf
  refine r_callVi C hw (c_X1_takeNumber (zk := zk) (zl := zl) (zx := zx) hc6) md_X1_takeNumber [0, 1, 2, 3] rfl rfl rfl q2_153 0 rfl cf_X1.1 ⟨Nat.le_of_ble_eq_true rfl, Nat.le_of_ble_eq_true rfl⟩ ⟨Nat.zero_le _, Nat.zero_le _⟩ hl.1 rfl rfl (Nat.le_of_ble_eq_true rfl) dX1_readEats_11 (fun H locs hw => ?_)
  have hw : wl g A s.heap (gcL g zl zk Tl_4 ++ (gcK g zk zx Tk_5 ++ (gcX g zx Tx ++ (gcT g zv Tv)))) H locs := hw
  refine lv_istore_n (lv' := [(2, .int r3), (0, .ref (zl 0)), (1, .ref (zv 0))]) hx hb dX1_readEats_14 rfl hl (by decide) rfl (fun ls hl => ?_)
  refine lv_aload_n hx hb dX1_readEats_15 rfl (lv_at hl 1 rfl) ?_
  refine r_get C hw 0 rfl cf_X1 1 (by decide) q1_126 (v := .int (Tl_4 0 1)) rfl dX1_readEats_16 ?_
  refine lv_iconst (v := (-1 : Int32)) hx hb dX1_readEats_19 rfl ?_
  refine lv_icmp_ne (tgt := 28) hx hb dX1_readEats_20 (by decide) (fun hc7 => ?_) (fun hc7 => ?_)
  · have hf := it_n hf hc7
    obtain ⟨rfl, rfl, rfl⟩ := so3 hf
    exact r_vret C hw dX1_readEats_28
  · have hf := it_p hf hc7
    refine lv_aload_n hx hb dX1_readEats_23 rfl (lv_at hl 2 rfl) ?_
    refine lv_iload_n hx hb dX1_readEats_24 rfl (lv_at hl 0 rfl) ?_
    refine r_putiN C hw 4 rfl cf_X9 2 (by decide) nq_8 rfl rfl (Nat.le_of_ble_eq_true rfl) (ws' := (gcL g zl zk Tl_4 ++ (gcK g zk zx Tk_5 ++ (gcX g zx Tx ++ (gcT g zv (u2 Tv 0 2 r3)))))) (set_r (n := 1) (k := 3) rfl (set_r (n := 1) (k := 2) rfl (set_r (n := 2) (k := 0) rfl gcT_p2))) dX1_readEats_25 (fun H locs hw => ?_)
    obtain ⟨rfl, rfl, rfl⟩ := so3 hf
    exact r_vret C hw dX1_readEats_28
set_option maxRecDepth 100000 in
set_option maxHeartbeats 4000000 in
theorem c_X1_readFine {l : Launch} {g : evG} {zk : Nat → Nat} {zl : Nat → Nat} {zv : Nat → Nat} {zx : Nat → Nat} {ol ok ov : Gp}  {Tl : Gp} {Tk : Gp} {Tx : Gp} {Tv : Gp} (hf : fX1_readFine Tl Tk Tx Tv = some (ol, ok, ov)) : CTv l g yX1_readFine (Cond.code yX1_readFine cX1_readFine 3 none) 3 66 [.ref (zl 0), .ref (zv 0)] (gcL g zl zk Tl ++ (gcK g zk zx Tk ++ (gcX g zx Tx ++ (gcT g zv Tv)))) (gcL g zl zk ol ++ (gcK g zk zx ok ++ (gcX g zx Tx ++ (gcT g zv ov)))) := by
  refine ct_v rfl (Nat.le_of_ble_eq_true rfl) ?_
  intro p e s m args below meth c A ls C hw hl
  have C : ctx g p s m args meth c RX1 cX1_readFine 3 none A := C
  have hl : lv_has ls 3 [(0, .ref (zl 0)), (1, .ref (zv 0))] := hl
  obtain ⟨hx, hb, hml, hown, hts, -⟩ := id C
  unfold fX1_readFine at hf
  refine lv_aload_n hx hb dX1_readFine_0 rfl (lv_at hl 0 rfl) ?_
  refine r_get C hw 0 rfl cf_X1 0 (by decide) q1_125 (v := .ref (zk 0)) rfl dX1_readFine_1 ?_
  obtain ⟨Tk_1, hc2, hf⟩ := bd1_e hf
  refine r_callVv C hw (c_X8_advance (zk := zk) (zx := zx) hc2) md_X8_advance [1, 2, 3] rfl rfl rfl q2_152 1 rfl cf_X8.1 ⟨Nat.le_of_ble_eq_true rfl, Nat.le_of_ble_eq_true rfl⟩ ⟨Nat.zero_le _, Nat.zero_le _⟩ hl.1 rfl rfl (Nat.le_of_ble_eq_true rfl) dX1_readFine_4 (fun H locs hw => ?_)
  have hw : wl g A s.heap (gcL g zl zk Tl ++ (gcK g zk zx Tk_1 ++ (gcX g zx Tx ++ (gcT g zv Tv)))) H locs := hw
  refine lv_aload_n hx hb dX1_readFine_7 rfl (lv_at hl 0 rfl) ?_
  refine lv_iconst (v := (0 : Int32)) hx hb dX1_readFine_8 rfl ?_
  refine lv_bipush (v := (99 : Int32)) hx hb dX1_readFine_9 rfl ?_
  obtain ⟨r3, Tl_4, Tk_5, hc6, hf⟩ := bd3_e hf
  refine r_callVi C hw (c_X1_takeNumber (zk := zk) (zl := zl) (zx := zx) hc6) md_X1_takeNumber [0, 1, 2, 3] rfl rfl rfl q2_153 0 rfl cf_X1.1 ⟨Nat.le_of_ble_eq_true rfl, Nat.le_of_ble_eq_true rfl⟩ ⟨Nat.zero_le _, Nat.zero_le _⟩ hl.1 rfl rfl (Nat.le_of_ble_eq_true rfl) dX1_readFine_11 (fun H locs hw => ?_)
  have hw : wl g A s.heap (gcL g zl zk Tl_4 ++ (gcK g zk zx Tk_5 ++ (gcX g zx Tx ++ (gcT g zv Tv)))) H locs := hw
  refine lv_istore_n (lv' := [(2, .int r3), (0, .ref (zl 0)), (1, .ref (zv 0))]) hx hb dX1_readFine_14 rfl hl (by decide) rfl (fun ls hl => ?_)
  refine lv_aload_n hx hb dX1_readFine_15 rfl (lv_at hl 1 rfl) ?_
  refine r_get C hw 0 rfl cf_X1 1 (by decide) q1_126 (v := .int (Tl_4 0 1)) rfl dX1_readFine_16 ?_
  refine lv_iconst (v := (-1 : Int32)) hx hb dX1_readFine_19 rfl ?_
  refine lv_icmp_ne (tgt := 28) hx hb dX1_readFine_20 (by decide) (fun hc7 => ?_) (fun hc7 => ?_)
  · have hf := it_n hf hc7
    obtain ⟨rfl, rfl, rfl⟩ := so3 hf
    exact r_vret C hw dX1_readFine_28
  · have hf := it_p hf hc7
    refine lv_aload_n hx hb dX1_readFine_23 rfl (lv_at hl 2 rfl) ?_
    refine lv_iload_n hx hb dX1_readFine_24 rfl (lv_at hl 0 rfl) ?_
    refine r_putiN C hw 4 rfl cf_X9 3 (by decide) nq_11 rfl rfl (Nat.le_of_ble_eq_true rfl) (ws' := (gcL g zl zk Tl_4 ++ (gcK g zk zx Tk_5 ++ (gcX g zx Tx ++ (gcT g zv (u2 Tv 0 3 r3)))))) (set_r (n := 1) (k := 3) rfl (set_r (n := 1) (k := 2) rfl (set_r (n := 2) (k := 0) rfl gcT_p3))) dX1_readFine_25 (fun H locs hw => ?_)
    obtain ⟨rfl, rfl, rfl⟩ := so3 hf
    exact r_vret C hw dX1_readFine_28
set_option maxRecDepth 100000 in
set_option maxHeartbeats 4000000 in
theorem c_X1_readKind {l : Launch} {g : evG} {zk : Nat → Nat} {zl : Nat → Nat} {zv : Nat → Nat} {zx : Nat → Nat} {ol ok ov : Gp}  {Tl : Gp} {Tk : Gp} {Tx : Gp} {Tv : Gp} (hf : fX1_readKind Tl Tk Tx Tv = some (ol, ok, ov)) : CTv l g yX1_readKind (Cond.code yX1_readKind cX1_readKind 4 none) 3 66 [.ref (zl 0), .ref (zv 0)] (gcL g zl zk Tl ++ (gcK g zk zx Tk ++ (gcX g zx Tx ++ (gcT g zv Tv)))) (gcL g zl zk ol ++ (gcK g zk zx ok ++ (gcX g zx Tx ++ (gcT g zv ov)))) := by
  refine ct_v rfl (Nat.le_of_ble_eq_true rfl) ?_
  intro p e s m args below meth c A ls C hw hl
  have C : ctx g p s m args meth c RX1 cX1_readKind 4 none A := C
  have hl : lv_has ls 4 [(0, .ref (zl 0)), (1, .ref (zv 0))] := hl
  obtain ⟨hx, hb, hml, hown, hts, -⟩ := id C
  unfold fX1_readKind at hf
  refine lv_aload_n hx hb dX1_readKind_0 rfl (lv_at hl 0 rfl) ?_
  refine r_get C hw 0 rfl cf_X1 0 (by decide) q1_125 (v := .ref (zk 0)) rfl dX1_readKind_1 ?_
  obtain ⟨Tk_1, hc2, hf⟩ := bd1_e hf
  refine r_callVv C hw (c_X8_advance (zk := zk) (zx := zx) hc2) md_X8_advance [1, 2, 3] rfl rfl rfl q2_152 1 rfl cf_X8.1 ⟨Nat.le_of_ble_eq_true rfl, Nat.le_of_ble_eq_true rfl⟩ ⟨Nat.zero_le _, Nat.zero_le _⟩ hl.1 rfl rfl (Nat.le_of_ble_eq_true rfl) dX1_readKind_4 (fun H locs hw => ?_)
  have hw : wl g A s.heap (gcL g zl zk Tl ++ (gcK g zk zx Tk_1 ++ (gcX g zx Tx ++ (gcT g zv Tv)))) H locs := hw
  refine lv_aload_n hx hb dX1_readKind_7 rfl (lv_at hl 0 rfl) ?_
  refine lv_iconst (v := (0 : Int32)) hx hb dX1_readKind_8 rfl ?_
  refine lv_aload_n hx hb dX1_readKind_9 rfl (lv_at hl 1 rfl) ?_
  refine r_getN C hw 4 rfl cf_X9 0 (by decide) nq_1 (v := .int (Tv 0 0)) rfl dX1_readKind_10 ?_
  refine lv_iconst (v := (1 : Int32)) hx hb dX1_readKind_13 rfl ?_
  refine lv_isub hx hb dX1_readKind_14 ?_
  obtain ⟨r3, Tl_4, Tk_5, hc6, hf⟩ := bd3_e hf
  refine r_callVi C hw (c_X1_takeNumber (zk := zk) (zl := zl) (zx := zx) hc6) md_X1_takeNumber [0, 1, 2, 3] rfl rfl rfl q2_153 0 rfl cf_X1.1 ⟨Nat.le_of_ble_eq_true rfl, Nat.le_of_ble_eq_true rfl⟩ ⟨Nat.zero_le _, Nat.zero_le _⟩ hl.1 rfl rfl (Nat.le_of_ble_eq_true rfl) dX1_readKind_15 (fun H locs hw => ?_)
  have hw : wl g A s.heap (gcL g zl zk Tl_4 ++ (gcK g zk zx Tk_5 ++ (gcX g zx Tx ++ (gcT g zv Tv)))) H locs := hw
  refine lv_istore_n (lv' := [(2, .int r3), (0, .ref (zl 0)), (1, .ref (zv 0))]) hx hb dX1_readKind_18 rfl hl (by decide) rfl (fun ls hl => ?_)
  refine lv_aload_n hx hb dX1_readKind_19 rfl (lv_at hl 1 rfl) ?_
  refine lv_iconst (v := (0 : Int32)) hx hb dX1_readKind_20 rfl ?_
  refine lv_iconst (v := (3 : Int32)) hx hb dX1_readKind_21 rfl ?_
  obtain ⟨r7, Tl_8, Tk_9, hc10, hf⟩ := bd3_e hf
  refine r_callVi C hw (c_X1_takeNumber (zk := zk) (zl := zl) (zx := zx) hc10) md_X1_takeNumber [0, 1, 2, 3] rfl rfl rfl q2_153 0 rfl cf_X1.1 ⟨Nat.le_of_ble_eq_true rfl, Nat.le_of_ble_eq_true rfl⟩ ⟨Nat.zero_le _, Nat.zero_le _⟩ hl.1 rfl rfl (Nat.le_of_ble_eq_true rfl) dX1_readKind_22 (fun H locs hw => ?_)
  have hw : wl g A s.heap (gcL g zl zk Tl_8 ++ (gcK g zk zx Tk_9 ++ (gcX g zx Tx ++ (gcT g zv Tv)))) H locs := hw
  refine lv_istore_n (lv' := [(3, .int r7), (2, .int r3), (0, .ref (zl 0)), (1, .ref (zv 0))]) hx hb dX1_readKind_25 rfl hl (by decide) rfl (fun ls hl => ?_)
  refine lv_aload_n hx hb dX1_readKind_26 rfl (lv_at hl 2 rfl) ?_
  refine r_get C hw 0 rfl cf_X1 1 (by decide) q1_126 (v := .int (Tl_8 0 1)) rfl dX1_readKind_27 ?_
  refine lv_iconst (v := (-1 : Int32)) hx hb dX1_readKind_30 rfl ?_
  refine lv_icmp_ne (tgt := 40) hx hb dX1_readKind_31 (by decide) (fun hc13 => ?_) (fun hc13 => ?_)
  · have hf := it_n hf hc13
    obtain ⟨rfl, rfl, rfl⟩ := so3 hf
    exact r_vret C hw dX1_readKind_40
  · have hf := it_p hf hc13
    refine lv_aload_n hx hb dX1_readKind_34 rfl (lv_at hl 3 rfl) ?_
    refine lv_iload_n hx hb dX1_readKind_35 rfl (lv_at hl 1 rfl) ?_
    refine lv_iload_n hx hb dX1_readKind_36 rfl (lv_at hl 0 rfl) ?_
    obtain ⟨Tv_11, hc12, hf⟩ := bd1_e hf
    refine r_callVv C hw (c_X9_tellKind (zt := zv) hc12) md_X9_tellKind [4, 5, 6, 7, 8, 9] rfl rfl rfl q2_182 4 rfl cf_X9.1 ⟨Nat.le_of_ble_eq_true rfl, Nat.le_of_ble_eq_true rfl⟩ ⟨Nat.zero_le _, Nat.zero_le _⟩ hl.1 rfl rfl (Nat.le_of_ble_eq_true rfl) dX1_readKind_37 (fun H locs hw => ?_)
    have hw : wl g A s.heap (gcL g zl zk Tl_8 ++ (gcK g zk zx Tk_9 ++ (gcX g zx Tx ++ (gcT g zv Tv_11)))) H locs := hw
    obtain ⟨rfl, rfl, rfl⟩ := so3 hf
    exact r_vret C hw dX1_readKind_40
set_option maxRecDepth 100000 in
set_option maxHeartbeats 4000000 in
theorem c_X1_readMeant {l : Launch} {g : evG} {zk : Nat → Nat} {zl : Nat → Nat} {zv : Nat → Nat} {zx : Nat → Nat} {ol ok ov : Gp}  {Tl : Gp} {Tk : Gp} {Tx : Gp} {Tv : Gp} (hf : fX1_readMeant Tl Tk Tx Tv = some (ol, ok, ov)) : CTv l g yX1_readMeant (Cond.code yX1_readMeant cX1_readMeant 8 none) 3 66 [.ref (zl 0), .ref (zv 0)] (gcL g zl zk Tl ++ (gcK g zk zx Tk ++ (gcX g zx Tx ++ (gcT g zv Tv)))) (gcL g zl zk ol ++ (gcK g zk zx ok ++ (gcX g zx Tx ++ (gcT g zv ov)))) := by
  refine ct_v rfl (Nat.le_of_ble_eq_true rfl) ?_
  intro p e s m args below meth c A ls C hw hl
  have C : ctx g p s m args meth c RX1 cX1_readMeant 8 none A := C
  have hl : lv_has ls 8 [(0, .ref (zl 0)), (1, .ref (zv 0))] := hl
  obtain ⟨hx, hb, hml, hown, hts, -⟩ := id C
  unfold fX1_readMeant at hf
  refine lv_aload_n hx hb dX1_readMeant_0 rfl (lv_at hl 0 rfl) ?_
  refine r_get C hw 0 rfl cf_X1 0 (by decide) q1_125 (v := .ref (zk 0)) rfl dX1_readMeant_1 ?_
  obtain ⟨Tk_1, hc2, hf⟩ := bd1_e hf
  refine r_callVv C hw (c_X8_advance (zk := zk) (zx := zx) hc2) md_X8_advance [1, 2, 3] rfl rfl rfl q2_152 1 rfl cf_X8.1 ⟨Nat.le_of_ble_eq_true rfl, Nat.le_of_ble_eq_true rfl⟩ ⟨Nat.zero_le _, Nat.zero_le _⟩ hl.1 rfl rfl (Nat.le_of_ble_eq_true rfl) dX1_readMeant_4 (fun H locs hw => ?_)
  have hw : wl g A s.heap (gcL g zl zk Tl ++ (gcK g zk zx Tk_1 ++ (gcX g zx Tx ++ (gcT g zv Tv)))) H locs := hw
  refine lv_aload_n hx hb dX1_readMeant_7 rfl (lv_at hl 0 rfl) ?_
  refine lv_iconst (v := (0 : Int32)) hx hb dX1_readMeant_8 rfl ?_
  refine lv_iconst (v := (1 : Int32)) hx hb dX1_readMeant_9 rfl ?_
  obtain ⟨r3, Tl_4, Tk_5, hc6, hf⟩ := bd3_e hf
  refine r_callVi C hw (c_X1_takeNumber (zk := zk) (zl := zl) (zx := zx) hc6) md_X1_takeNumber [0, 1, 2, 3] rfl rfl rfl q2_153 0 rfl cf_X1.1 ⟨Nat.le_of_ble_eq_true rfl, Nat.le_of_ble_eq_true rfl⟩ ⟨Nat.zero_le _, Nat.zero_le _⟩ hl.1 rfl rfl (Nat.le_of_ble_eq_true rfl) dX1_readMeant_10 (fun H locs hw => ?_)
  have hw : wl g A s.heap (gcL g zl zk Tl_4 ++ (gcK g zk zx Tk_5 ++ (gcX g zx Tx ++ (gcT g zv Tv)))) H locs := hw
  refine lv_istore_n (lv' := [(2, .int r3), (0, .ref (zl 0)), (1, .ref (zv 0))]) hx hb dX1_readMeant_13 rfl hl (by decide) rfl (fun ls hl => ?_)
  refine lv_aload_n hx hb dX1_readMeant_14 rfl (lv_at hl 1 rfl) ?_
  refine lv_iconst (v := (0 : Int32)) hx hb dX1_readMeant_15 rfl ?_
  refine lv_iconst (v := (1 : Int32)) hx hb dX1_readMeant_16 rfl ?_
  obtain ⟨r7, Tl_8, Tk_9, hc10, hf⟩ := bd3_e hf
  refine r_callVi C hw (c_X1_takeNumber (zk := zk) (zl := zl) (zx := zx) hc10) md_X1_takeNumber [0, 1, 2, 3] rfl rfl rfl q2_153 0 rfl cf_X1.1 ⟨Nat.le_of_ble_eq_true rfl, Nat.le_of_ble_eq_true rfl⟩ ⟨Nat.zero_le _, Nat.zero_le _⟩ hl.1 rfl rfl (Nat.le_of_ble_eq_true rfl) dX1_readMeant_17 (fun H locs hw => ?_)
  have hw : wl g A s.heap (gcL g zl zk Tl_8 ++ (gcK g zk zx Tk_9 ++ (gcX g zx Tx ++ (gcT g zv Tv)))) H locs := hw
  refine lv_istore_n (lv' := [(3, .int r7), (2, .int r3), (0, .ref (zl 0)), (1, .ref (zv 0))]) hx hb dX1_readMeant_20 rfl hl (by decide) rfl (fun ls hl => ?_)
  refine lv_aload_n hx hb dX1_readMeant_21 rfl (lv_at hl 2 rfl) ?_
  refine lv_iconst (v := (0 : Int32)) hx hb dX1_readMeant_22 rfl ?_
  refine lv_aload_n hx hb dX1_readMeant_23 rfl (lv_at hl 3 rfl) ?_
  refine r_getN C hw 4 rfl cf_X9 0 (by decide) nq_1 (v := .int (Tv 0 0)) rfl dX1_readMeant_24 ?_
  refine lv_iconst (v := (1 : Int32)) hx hb dX1_readMeant_27 rfl ?_
  refine lv_isub hx hb dX1_readMeant_28 ?_
  obtain ⟨r11, Tl_12, Tk_13, hc14, hf⟩ := bd3_e hf
  refine r_callVi C hw (c_X1_takeNumber (zk := zk) (zl := zl) (zx := zx) hc14) md_X1_takeNumber [0, 1, 2, 3] rfl rfl rfl q2_153 0 rfl cf_X1.1 ⟨Nat.le_of_ble_eq_true rfl, Nat.le_of_ble_eq_true rfl⟩ ⟨Nat.zero_le _, Nat.zero_le _⟩ hl.1 rfl rfl (Nat.le_of_ble_eq_true rfl) dX1_readMeant_29 (fun H locs hw => ?_)
  have hw : wl g A s.heap (gcL g zl zk Tl_12 ++ (gcK g zk zx Tk_13 ++ (gcX g zx Tx ++ (gcT g zv Tv)))) H locs := hw
  refine lv_istore (lv' := [(4, .int r11), (3, .int r7), (2, .int r3), (0, .ref (zl 0)), (1, .ref (zv 0))]) hx hb dX1_readMeant_32 hl (by decide) rfl (fun ls hl => ?_)
  refine lv_aload_n hx hb dX1_readMeant_34 rfl (lv_at hl 3 rfl) ?_
  refine lv_iconst (v := (0 : Int32)) hx hb dX1_readMeant_35 rfl ?_
  refine lv_aload_n hx hb dX1_readMeant_36 rfl (lv_at hl 4 rfl) ?_
  refine r_getN C hw 4 rfl cf_X9 1 (by decide) nq_5 (v := .int (Tv 0 1)) rfl dX1_readMeant_37 ?_
  refine lv_iconst (v := (1 : Int32)) hx hb dX1_readMeant_40 rfl ?_
  refine lv_isub hx hb dX1_readMeant_41 ?_
  obtain ⟨r15, Tl_16, Tk_17, hc18, hf⟩ := bd3_e hf
  refine r_callVi C hw (c_X1_takeNumber (zk := zk) (zl := zl) (zx := zx) hc18) md_X1_takeNumber [0, 1, 2, 3] rfl rfl rfl q2_153 0 rfl cf_X1.1 ⟨Nat.le_of_ble_eq_true rfl, Nat.le_of_ble_eq_true rfl⟩ ⟨Nat.zero_le _, Nat.zero_le _⟩ hl.1 rfl rfl (Nat.le_of_ble_eq_true rfl) dX1_readMeant_42 (fun H locs hw => ?_)
  have hw : wl g A s.heap (gcL g zl zk Tl_16 ++ (gcK g zk zx Tk_17 ++ (gcX g zx Tx ++ (gcT g zv Tv)))) H locs := hw
  refine lv_istore (lv' := [(5, .int r15), (4, .int r11), (3, .int r7), (2, .int r3), (0, .ref (zl 0)), (1, .ref (zv 0))]) hx hb dX1_readMeant_45 hl (by decide) rfl (fun ls hl => ?_)
  refine lv_aload_n hx hb dX1_readMeant_47 rfl (lv_at hl 4 rfl) ?_
  refine r_get C hw 0 rfl cf_X1 0 (by decide) q1_125 (v := .ref (zk 0)) rfl dX1_readMeant_48 ?_
  refine r_getN C hw 1 rfl cf_X8 1 (by decide) nq_17 (v := .int (Tk_17 0 1)) rfl dX1_readMeant_51 ?_
  refine lv_istore (lv' := [(6, .int (Tk_17 0 1)), (5, .int r15), (4, .int r11), (3, .int r7), (2, .int r3), (0, .ref (zl 0)), (1, .ref (zv 0))]) hx hb dX1_readMeant_54 hl (by decide) rfl (fun ls hl => ?_)
  refine lv_aload_n hx hb dX1_readMeant_56 rfl (lv_at hl 5 rfl) ?_
  refine lv_iconst (v := (0 : Int32)) hx hb dX1_readMeant_57 rfl ?_
  refine lv_iconst (v := (5 : Int32)) hx hb dX1_readMeant_58 rfl ?_
  obtain ⟨r19, Tl_20, Tk_21, hc22, hf⟩ := bd3_e hf
  refine r_callVi C hw (c_X1_takeNumber (zk := zk) (zl := zl) (zx := zx) hc22) md_X1_takeNumber [0, 1, 2, 3] rfl rfl rfl q2_153 0 rfl cf_X1.1 ⟨Nat.le_of_ble_eq_true rfl, Nat.le_of_ble_eq_true rfl⟩ ⟨Nat.zero_le _, Nat.zero_le _⟩ hl.1 rfl rfl (Nat.le_of_ble_eq_true rfl) dX1_readMeant_59 (fun H locs hw => ?_)
  have hw : wl g A s.heap (gcL g zl zk Tl_20 ++ (gcK g zk zx Tk_21 ++ (gcX g zx Tx ++ (gcT g zv Tv)))) H locs := hw
  refine lv_istore (lv' := [(7, .int r19), (6, .int (Tk_17 0 1)), (5, .int r15), (4, .int r11), (3, .int r7), (2, .int r3), (0, .ref (zl 0)), (1, .ref (zv 0))]) hx hb dX1_readMeant_62 hl (by decide) rfl (fun ls hl => ?_)
  refine lv_aload_n hx hb dX1_readMeant_64 rfl (lv_at hl 6 rfl) ?_
  refine r_get C hw 0 rfl cf_X1 1 (by decide) q1_126 (v := .int (Tl_20 0 1)) rfl dX1_readMeant_65 ?_
  refine lv_iconst (v := (-1 : Int32)) hx hb dX1_readMeant_68 rfl ?_
  refine lv_icmp_eq (tgt := 73) hx hb dX1_readMeant_69 (by decide) (fun hc30 => ?_) (fun hc30 => ?_)
  · have hf := it_p hf hc30
    refine lv_aload_n hx hb dX1_readMeant_73 rfl (lv_at hl 7 rfl) ?_
    refine lv_iload_n hx hb dX1_readMeant_74 rfl (lv_at hl 4 rfl) ?_
    refine lv_iload hx hb dX1_readMeant_75 (lv_at hl 0 rfl) ?_
    obtain ⟨r23, hc24, hf⟩ := bd1_e hf
    refine r_callVi0 C hw (c_X9_canBeDone (zt := zv) hc24) md_X9_canBeDone [4, 5, 6, 7, 8, 9] rfl rfl q2_196 4 rfl cf_X9.1 ⟨Nat.le_of_ble_eq_true rfl, Nat.le_of_ble_eq_true rfl⟩ ⟨Nat.zero_le _, Nat.zero_le _⟩ hl.1 rfl rfl (Nat.le_of_ble_eq_true rfl) dX1_readMeant_77 (fun H locs hw => ?_)
    refine lv_if_eq (tgt := 101) hx hb dX1_readMeant_80 (by decide) (fun hc29 => ?_) (fun hc29 => ?_)
    · have hf := it_p hf hc29
      refine lv_aload_n hx hb dX1_readMeant_101 rfl (lv_at hl 6 rfl) ?_
      refine lv_iload hx hb dX1_readMeant_102 (lv_at hl 1 rfl) ?_
      refine r_puti C hw 0 rfl cf_X1 1 (by decide) q1_126 rfl rfl (Nat.le_of_ble_eq_true rfl) (ws' := (gcL g zl zk (u2 Tl_20 0 1 (Tk_17 0 1)) ++ (gcK g zk zx Tk_21 ++ (gcX g zx Tx ++ (gcT g zv Tv))))) (set_l (Nat.le_of_ble_eq_true rfl) gcL_p1) dX1_readMeant_104 (fun H locs hw => ?_)
      obtain ⟨rfl, rfl, rfl⟩ := so3 hf
      exact r_vret C hw dX1_readMeant_107
    · have hf := it_n hf hc29
      refine lv_aload_n hx hb dX1_readMeant_83 rfl (lv_at hl 7 rfl) ?_
      refine lv_iload_n hx hb dX1_readMeant_84 rfl (lv_at hl 5 rfl) ?_
      refine lv_iload_n hx hb dX1_readMeant_85 rfl (lv_at hl 4 rfl) ?_
      refine lv_iload hx hb dX1_readMeant_86 (lv_at hl 3 rfl) ?_
      refine lv_iload hx hb dX1_readMeant_88 (lv_at hl 2 rfl) ?_
      obtain ⟨r25, hc26, hf⟩ := bd1_e hf
      refine r_callNi0 C hw (c_X10_slotIndex hc26) md_X10_slotIndex [] rfl rfl nq_31 ⟨Nat.le_of_ble_eq_true rfl, Nat.le_of_ble_eq_true rfl⟩ ⟨Nat.zero_le _, Nat.zero_le _⟩ hl.1 rfl rfl (Nat.le_of_ble_eq_true rfl) dX1_readMeant_90 (fun H locs hw => ?_)
      refine lv_iload hx hb dX1_readMeant_93 (lv_at hl 0 rfl) ?_
      obtain ⟨Tv_27, hc28, hf⟩ := bd1_e hf
      refine r_callVv C hw (c_X9_tellMeant (zt := zv) hc28) md_X9_tellMeant [4, 5, 6, 7, 8, 9] rfl rfl rfl q2_210 4 rfl cf_X9.1 ⟨Nat.le_of_ble_eq_true rfl, Nat.le_of_ble_eq_true rfl⟩ ⟨Nat.zero_le _, Nat.zero_le _⟩ hl.1 rfl rfl (Nat.le_of_ble_eq_true rfl) dX1_readMeant_95 (fun H locs hw => ?_)
      have hw : wl g A s.heap (gcL g zl zk Tl_20 ++ (gcK g zk zx Tk_21 ++ (gcX g zx Tx ++ (gcT g zv Tv_27)))) H locs := hw
      refine lv_goto (tgt := 107) hx hb dX1_readMeant_98 (by decide) ?_
      obtain ⟨rfl, rfl, rfl⟩ := so3 hf
      exact r_vret C hw dX1_readMeant_107
  · have hf := it_n hf hc30
    obtain ⟨rfl, rfl, rfl⟩ := so3 hf
    exact r_vret C hw dX1_readMeant_72
set_option maxRecDepth 100000 in
set_option maxHeartbeats 4000000 in
theorem c_X1_readTreaty {l : Launch} {g : evG} {zk : Nat → Nat} {zl : Nat → Nat} {zv : Nat → Nat} {zx : Nat → Nat} {ol ok ov : Gp}  {Tl : Gp} {Tk : Gp} {Tx : Gp} {Tv : Gp} (hf : fX1_readTreaty Tl Tk Tx Tv = some (ol, ok, ov)) : CTv l g yX1_readTreaty (Cond.code yX1_readTreaty cX1_readTreaty 4 none) 3 66 [.ref (zl 0), .ref (zv 0)] (gcL g zl zk Tl ++ (gcK g zk zx Tk ++ (gcX g zx Tx ++ (gcT g zv Tv)))) (gcL g zl zk ol ++ (gcK g zk zx ok ++ (gcX g zx Tx ++ (gcT g zv ov)))) := by
  refine ct_v rfl (Nat.le_of_ble_eq_true rfl) ?_
  intro p e s m args below meth c A ls C hw hl
  have C : ctx g p s m args meth c RX1 cX1_readTreaty 4 none A := C
  have hl : lv_has ls 4 [(0, .ref (zl 0)), (1, .ref (zv 0))] := hl
  obtain ⟨hx, hb, hml, hown, hts, -⟩ := id C
  unfold fX1_readTreaty at hf
  refine lv_aload_n hx hb dX1_readTreaty_0 rfl (lv_at hl 0 rfl) ?_
  refine r_get C hw 0 rfl cf_X1 0 (by decide) q1_125 (v := .ref (zk 0)) rfl dX1_readTreaty_1 ?_
  obtain ⟨Tk_1, hc2, hf⟩ := bd1_e hf
  refine r_callVv C hw (c_X8_advance (zk := zk) (zx := zx) hc2) md_X8_advance [1, 2, 3] rfl rfl rfl q2_152 1 rfl cf_X8.1 ⟨Nat.le_of_ble_eq_true rfl, Nat.le_of_ble_eq_true rfl⟩ ⟨Nat.zero_le _, Nat.zero_le _⟩ hl.1 rfl rfl (Nat.le_of_ble_eq_true rfl) dX1_readTreaty_4 (fun H locs hw => ?_)
  have hw : wl g A s.heap (gcL g zl zk Tl ++ (gcK g zk zx Tk_1 ++ (gcX g zx Tx ++ (gcT g zv Tv)))) H locs := hw
  refine lv_aload_n hx hb dX1_readTreaty_7 rfl (lv_at hl 0 rfl) ?_
  refine lv_iconst (v := (1 : Int32)) hx hb dX1_readTreaty_8 rfl ?_
  refine lv_bipush (v := (6 : Int32)) hx hb dX1_readTreaty_9 rfl ?_
  obtain ⟨r3, Tl_4, Tk_5, hc6, hf⟩ := bd3_e hf
  refine r_callVi C hw (c_X1_takeNumber (zk := zk) (zl := zl) (zx := zx) hc6) md_X1_takeNumber [0, 1, 2, 3] rfl rfl rfl q2_153 0 rfl cf_X1.1 ⟨Nat.le_of_ble_eq_true rfl, Nat.le_of_ble_eq_true rfl⟩ ⟨Nat.zero_le _, Nat.zero_le _⟩ hl.1 rfl rfl (Nat.le_of_ble_eq_true rfl) dX1_readTreaty_11 (fun H locs hw => ?_)
  have hw : wl g A s.heap (gcL g zl zk Tl_4 ++ (gcK g zk zx Tk_5 ++ (gcX g zx Tx ++ (gcT g zv Tv)))) H locs := hw
  refine lv_istore_n (lv' := [(2, .int r3), (0, .ref (zl 0)), (1, .ref (zv 0))]) hx hb dX1_readTreaty_14 rfl hl (by decide) rfl (fun ls hl => ?_)
  refine lv_aload_n hx hb dX1_readTreaty_15 rfl (lv_at hl 1 rfl) ?_
  refine lv_iconst (v := (1 : Int32)) hx hb dX1_readTreaty_16 rfl ?_
  refine lv_iconst (v := (4 : Int32)) hx hb dX1_readTreaty_17 rfl ?_
  obtain ⟨r7, Tl_8, Tk_9, hc10, hf⟩ := bd3_e hf
  refine r_callVi C hw (c_X1_takeNumber (zk := zk) (zl := zl) (zx := zx) hc10) md_X1_takeNumber [0, 1, 2, 3] rfl rfl rfl q2_153 0 rfl cf_X1.1 ⟨Nat.le_of_ble_eq_true rfl, Nat.le_of_ble_eq_true rfl⟩ ⟨Nat.zero_le _, Nat.zero_le _⟩ hl.1 rfl rfl (Nat.le_of_ble_eq_true rfl) dX1_readTreaty_18 (fun H locs hw => ?_)
  have hw : wl g A s.heap (gcL g zl zk Tl_8 ++ (gcK g zk zx Tk_9 ++ (gcX g zx Tx ++ (gcT g zv Tv)))) H locs := hw
  refine lv_istore_n (lv' := [(3, .int r7), (2, .int r3), (0, .ref (zl 0)), (1, .ref (zv 0))]) hx hb dX1_readTreaty_21 rfl hl (by decide) rfl (fun ls hl => ?_)
  refine lv_aload_n hx hb dX1_readTreaty_22 rfl (lv_at hl 2 rfl) ?_
  refine r_get C hw 0 rfl cf_X1 1 (by decide) q1_126 (v := .int (Tl_8 0 1)) rfl dX1_readTreaty_23 ?_
  refine lv_iconst (v := (-1 : Int32)) hx hb dX1_readTreaty_26 rfl ?_
  refine lv_icmp_ne (tgt := 36) hx hb dX1_readTreaty_27 (by decide) (fun hc13 => ?_) (fun hc13 => ?_)
  · have hf := it_n hf hc13
    obtain ⟨rfl, rfl, rfl⟩ := so3 hf
    exact r_vret C hw dX1_readTreaty_36
  · have hf := it_p hf hc13
    refine lv_aload_n hx hb dX1_readTreaty_30 rfl (lv_at hl 3 rfl) ?_
    refine lv_iload_n hx hb dX1_readTreaty_31 rfl (lv_at hl 1 rfl) ?_
    refine lv_iload_n hx hb dX1_readTreaty_32 rfl (lv_at hl 0 rfl) ?_
    obtain ⟨Tv_11, hc12, hf⟩ := bd1_e hf
    refine r_callVv C hw (c_X9_settle (zt := zv) hc12) md_X9_settle [4, 5, 6, 7, 8, 9] rfl rfl rfl q2_163 4 rfl cf_X9.1 ⟨Nat.le_of_ble_eq_true rfl, Nat.le_of_ble_eq_true rfl⟩ ⟨Nat.zero_le _, Nat.zero_le _⟩ hl.1 rfl rfl (Nat.le_of_ble_eq_true rfl) dX1_readTreaty_33 (fun H locs hw => ?_)
    have hw : wl g A s.heap (gcL g zl zk Tl_8 ++ (gcK g zk zx Tk_9 ++ (gcX g zx Tx ++ (gcT g zv Tv_11)))) H locs := hw
    obtain ⟨rfl, rfl, rfl⟩ := so3 hf
    exact r_vret C hw dX1_readTreaty_36
set_option maxRecDepth 100000 in
set_option maxHeartbeats 4000000 in
theorem c_X1_readWork {l : Launch} {g : evG} {zk : Nat → Nat} {zl : Nat → Nat} {zv : Nat → Nat} {zx : Nat → Nat} {ol ok ov : Gp}  {Tl : Gp} {Tk : Gp} {Tx : Gp} {Tv : Gp} (hf : fX1_readWork Tl Tk Tx Tv = some (ol, ok, ov)) : CTv l g yX1_readWork (Cond.code yX1_readWork cX1_readWork 7 none) 3 66 [.ref (zl 0), .ref (zv 0)] (gcL g zl zk Tl ++ (gcK g zk zx Tk ++ (gcX g zx Tx ++ (gcT g zv Tv)))) (gcL g zl zk ol ++ (gcK g zk zx ok ++ (gcX g zx Tx ++ (gcT g zv ov)))) := by
  refine ct_v rfl (Nat.le_of_ble_eq_true rfl) ?_
  intro p e s m args below meth c A ls C hw hl
  have C : ctx g p s m args meth c RX1 cX1_readWork 7 none A := C
  have hl : lv_has ls 7 [(0, .ref (zl 0)), (1, .ref (zv 0))] := hl
  obtain ⟨hx, hb, hml, hown, hts, -⟩ := id C
  unfold fX1_readWork at hf
  refine lv_aload_n hx hb dX1_readWork_0 rfl (lv_at hl 0 rfl) ?_
  refine r_get C hw 0 rfl cf_X1 0 (by decide) q1_125 (v := .ref (zk 0)) rfl dX1_readWork_1 ?_
  obtain ⟨Tk_1, hc2, hf⟩ := bd1_e hf
  refine r_callVv C hw (c_X8_advance (zk := zk) (zx := zx) hc2) md_X8_advance [1, 2, 3] rfl rfl rfl q2_152 1 rfl cf_X8.1 ⟨Nat.le_of_ble_eq_true rfl, Nat.le_of_ble_eq_true rfl⟩ ⟨Nat.zero_le _, Nat.zero_le _⟩ hl.1 rfl rfl (Nat.le_of_ble_eq_true rfl) dX1_readWork_4 (fun H locs hw => ?_)
  have hw : wl g A s.heap (gcL g zl zk Tl ++ (gcK g zk zx Tk_1 ++ (gcX g zx Tx ++ (gcT g zv Tv)))) H locs := hw
  refine lv_aload_n hx hb dX1_readWork_7 rfl (lv_at hl 0 rfl) ?_
  refine lv_iconst (v := (0 : Int32)) hx hb dX1_readWork_8 rfl ?_
  refine lv_iconst (v := (4 : Int32)) hx hb dX1_readWork_9 rfl ?_
  obtain ⟨r3, Tl_4, Tk_5, hc6, hf⟩ := bd3_e hf
  refine r_callVi C hw (c_X1_takeNumber (zk := zk) (zl := zl) (zx := zx) hc6) md_X1_takeNumber [0, 1, 2, 3] rfl rfl rfl q2_153 0 rfl cf_X1.1 ⟨Nat.le_of_ble_eq_true rfl, Nat.le_of_ble_eq_true rfl⟩ ⟨Nat.zero_le _, Nat.zero_le _⟩ hl.1 rfl rfl (Nat.le_of_ble_eq_true rfl) dX1_readWork_10 (fun H locs hw => ?_)
  have hw : wl g A s.heap (gcL g zl zk Tl_4 ++ (gcK g zk zx Tk_5 ++ (gcX g zx Tx ++ (gcT g zv Tv)))) H locs := hw
  refine lv_istore_n (lv' := [(2, .int r3), (0, .ref (zl 0)), (1, .ref (zv 0))]) hx hb dX1_readWork_13 rfl hl (by decide) rfl (fun ls hl => ?_)
  refine lv_aload_n hx hb dX1_readWork_14 rfl (lv_at hl 1 rfl) ?_
  refine lv_iconst (v := (0 : Int32)) hx hb dX1_readWork_15 rfl ?_
  refine lv_iconst (v := (3 : Int32)) hx hb dX1_readWork_16 rfl ?_
  obtain ⟨r7, Tl_8, Tk_9, hc10, hf⟩ := bd3_e hf
  refine r_callVi C hw (c_X1_takeNumber (zk := zk) (zl := zl) (zx := zx) hc10) md_X1_takeNumber [0, 1, 2, 3] rfl rfl rfl q2_153 0 rfl cf_X1.1 ⟨Nat.le_of_ble_eq_true rfl, Nat.le_of_ble_eq_true rfl⟩ ⟨Nat.zero_le _, Nat.zero_le _⟩ hl.1 rfl rfl (Nat.le_of_ble_eq_true rfl) dX1_readWork_17 (fun H locs hw => ?_)
  have hw : wl g A s.heap (gcL g zl zk Tl_8 ++ (gcK g zk zx Tk_9 ++ (gcX g zx Tx ++ (gcT g zv Tv)))) H locs := hw
  refine lv_istore_n (lv' := [(3, .int r7), (2, .int r3), (0, .ref (zl 0)), (1, .ref (zv 0))]) hx hb dX1_readWork_20 rfl hl (by decide) rfl (fun ls hl => ?_)
  refine lv_aload_n hx hb dX1_readWork_21 rfl (lv_at hl 2 rfl) ?_
  refine lv_iconst (v := (-1 : Int32)) hx hb dX1_readWork_22 rfl ?_
  refine lv_bipush (v := (20 : Int32)) hx hb dX1_readWork_23 rfl ?_
  obtain ⟨r11, Tl_12, Tk_13, hc14, hf⟩ := bd3_e hf
  refine r_callVi C hw (c_X1_takeNumber (zk := zk) (zl := zl) (zx := zx) hc14) md_X1_takeNumber [0, 1, 2, 3] rfl rfl rfl q2_153 0 rfl cf_X1.1 ⟨Nat.le_of_ble_eq_true rfl, Nat.le_of_ble_eq_true rfl⟩ ⟨Nat.zero_le _, Nat.zero_le _⟩ hl.1 rfl rfl (Nat.le_of_ble_eq_true rfl) dX1_readWork_25 (fun H locs hw => ?_)
  have hw : wl g A s.heap (gcL g zl zk Tl_12 ++ (gcK g zk zx Tk_13 ++ (gcX g zx Tx ++ (gcT g zv Tv)))) H locs := hw
  refine lv_istore (lv' := [(4, .int r11), (3, .int r7), (2, .int r3), (0, .ref (zl 0)), (1, .ref (zv 0))]) hx hb dX1_readWork_28 hl (by decide) rfl (fun ls hl => ?_)
  refine lv_aload_n hx hb dX1_readWork_30 rfl (lv_at hl 3 rfl) ?_
  refine lv_iconst (v := (-1 : Int32)) hx hb dX1_readWork_31 rfl ?_
  refine lv_bipush (v := (20 : Int32)) hx hb dX1_readWork_32 rfl ?_
  obtain ⟨r15, Tl_16, Tk_17, hc18, hf⟩ := bd3_e hf
  refine r_callVi C hw (c_X1_takeNumber (zk := zk) (zl := zl) (zx := zx) hc18) md_X1_takeNumber [0, 1, 2, 3] rfl rfl rfl q2_153 0 rfl cf_X1.1 ⟨Nat.le_of_ble_eq_true rfl, Nat.le_of_ble_eq_true rfl⟩ ⟨Nat.zero_le _, Nat.zero_le _⟩ hl.1 rfl rfl (Nat.le_of_ble_eq_true rfl) dX1_readWork_34 (fun H locs hw => ?_)
  have hw : wl g A s.heap (gcL g zl zk Tl_16 ++ (gcK g zk zx Tk_17 ++ (gcX g zx Tx ++ (gcT g zv Tv)))) H locs := hw
  refine lv_istore (lv' := [(5, .int r15), (4, .int r11), (3, .int r7), (2, .int r3), (0, .ref (zl 0)), (1, .ref (zv 0))]) hx hb dX1_readWork_37 hl (by decide) rfl (fun ls hl => ?_)
  refine lv_aload_n hx hb dX1_readWork_39 rfl (lv_at hl 4 rfl) ?_
  refine lv_iconst (v := (0 : Int32)) hx hb dX1_readWork_40 rfl ?_
  refine lv_bipush (v := (20 : Int32)) hx hb dX1_readWork_41 rfl ?_
  obtain ⟨r19, Tl_20, Tk_21, hc22, hf⟩ := bd3_e hf
  refine r_callVi C hw (c_X1_takeNumber (zk := zk) (zl := zl) (zx := zx) hc22) md_X1_takeNumber [0, 1, 2, 3] rfl rfl rfl q2_153 0 rfl cf_X1.1 ⟨Nat.le_of_ble_eq_true rfl, Nat.le_of_ble_eq_true rfl⟩ ⟨Nat.zero_le _, Nat.zero_le _⟩ hl.1 rfl rfl (Nat.le_of_ble_eq_true rfl) dX1_readWork_43 (fun H locs hw => ?_)
  have hw : wl g A s.heap (gcL g zl zk Tl_20 ++ (gcK g zk zx Tk_21 ++ (gcX g zx Tx ++ (gcT g zv Tv)))) H locs := hw
  refine lv_istore (lv' := [(6, .int r19), (5, .int r15), (4, .int r11), (3, .int r7), (2, .int r3), (0, .ref (zl 0)), (1, .ref (zv 0))]) hx hb dX1_readWork_46 hl (by decide) rfl (fun ls hl => ?_)
  refine lv_aload_n hx hb dX1_readWork_48 rfl (lv_at hl 5 rfl) ?_
  refine r_get C hw 0 rfl cf_X1 1 (by decide) q1_126 (v := .int (Tl_20 0 1)) rfl dX1_readWork_49 ?_
  refine lv_iconst (v := (-1 : Int32)) hx hb dX1_readWork_52 rfl ?_
  refine lv_icmp_eq (tgt := 57) hx hb dX1_readWork_53 (by decide) (fun hc29 => ?_) (fun hc29 => ?_)
  · have hf := it_p hf hc29
    refine lv_aload_n hx hb dX1_readWork_57 rfl (lv_at hl 6 rfl) ?_
    refine lv_iload_n hx hb dX1_readWork_58 rfl (lv_at hl 4 rfl) ?_
    refine lv_iload_n hx hb dX1_readWork_59 rfl (lv_at hl 3 rfl) ?_
    refine lv_iload hx hb dX1_readWork_60 (lv_at hl 0 rfl) ?_
    obtain ⟨Tv_23, hc24, hf⟩ := bd1_e hf
    refine r_callVv C hw (c_X9_tellWork (zt := zv) hc24) md_X9_tellWork [4, 5, 6, 7, 8, 9] rfl rfl rfl q2_169 4 rfl cf_X9.1 ⟨Nat.le_of_ble_eq_true rfl, Nat.le_of_ble_eq_true rfl⟩ ⟨Nat.zero_le _, Nat.zero_le _⟩ hl.1 rfl rfl (Nat.le_of_ble_eq_true rfl) dX1_readWork_62 (fun H locs hw => ?_)
    have hw : wl g A s.heap (gcL g zl zk Tl_20 ++ (gcK g zk zx Tk_21 ++ (gcX g zx Tx ++ (gcT g zv Tv_23)))) H locs := hw
    refine lv_aload_n hx hb dX1_readWork_65 rfl (lv_at hl 6 rfl) ?_
    refine lv_iconst (v := (0 : Int32)) hx hb dX1_readWork_66 rfl ?_
    refine lv_iload_n hx hb dX1_readWork_67 rfl (lv_at hl 4 rfl) ?_
    refine lv_iload hx hb dX1_readWork_68 (lv_at hl 2 rfl) ?_
    obtain ⟨Tv_25, hc26, hf⟩ := bd1_e hf
    refine r_callVv C hw (c_X9_tellBread (zt := zv) hc26) md_X9_tellBread [4, 5, 6, 7, 8, 9] rfl rfl rfl q2_173 4 rfl cf_X9.1 ⟨Nat.le_of_ble_eq_true rfl, Nat.le_of_ble_eq_true rfl⟩ ⟨Nat.zero_le _, Nat.zero_le _⟩ hl.1 rfl rfl (Nat.le_of_ble_eq_true rfl) dX1_readWork_70 (fun H locs hw => ?_)
    have hw : wl g A s.heap (gcL g zl zk Tl_20 ++ (gcK g zk zx Tk_21 ++ (gcX g zx Tx ++ (gcT g zv Tv_25)))) H locs := hw
    refine lv_aload_n hx hb dX1_readWork_73 rfl (lv_at hl 6 rfl) ?_
    refine lv_iconst (v := (1 : Int32)) hx hb dX1_readWork_74 rfl ?_
    refine lv_iload_n hx hb dX1_readWork_75 rfl (lv_at hl 4 rfl) ?_
    refine lv_iload hx hb dX1_readWork_76 (lv_at hl 1 rfl) ?_
    obtain ⟨Tv_27, hc28, hf⟩ := bd1_e hf
    refine r_callVv C hw (c_X9_tellBread (zt := zv) hc28) md_X9_tellBread [4, 5, 6, 7, 8, 9] rfl rfl rfl q2_173 4 rfl cf_X9.1 ⟨Nat.le_of_ble_eq_true rfl, Nat.le_of_ble_eq_true rfl⟩ ⟨Nat.zero_le _, Nat.zero_le _⟩ hl.1 rfl rfl (Nat.le_of_ble_eq_true rfl) dX1_readWork_78 (fun H locs hw => ?_)
    have hw : wl g A s.heap (gcL g zl zk Tl_20 ++ (gcK g zk zx Tk_21 ++ (gcX g zx Tx ++ (gcT g zv Tv_27)))) H locs := hw
    obtain ⟨rfl, rfl, rfl⟩ := so3 hf
    exact r_vret C hw dX1_readWork_81
  · have hf := it_n hf hc29
    obtain ⟨rfl, rfl, rfl⟩ := so3 hf
    exact r_vret C hw dX1_readWork_56
set_option maxRecDepth 100000 in
set_option maxHeartbeats 4000000 in
theorem c_X1_readLine {l : Launch} {g : evG} {zk : Nat → Nat} {zl : Nat → Nat} {zv : Nat → Nat} {zx : Nat → Nat} {ol ok ov : Gp}  {Tl : Gp} {Tk : Gp} {Tx : Gp} {Tv : Gp} (hf : fX1_readLine Tl Tk Tx Tv = some (ol, ok, ov)) : CTv l g yX1_readLine (Cond.code yX1_readLine cX1_readLine 2 none) 5 107 [.ref (zl 0), .ref (zv 0)] (gcL g zl zk Tl ++ (gcK g zk zx Tk ++ (gcX g zx Tx ++ (gcT g zv Tv)))) (gcL g zl zk ol ++ (gcK g zk zx ok ++ (gcX g zx Tx ++ (gcT g zv ov)))) := by
  refine ct_v rfl (Nat.le_of_ble_eq_true rfl) ?_
  intro p e s m args below meth c A ls C hw hl
  have C : ctx g p s m args meth c RX1 cX1_readLine 2 none A := C
  have hl : lv_has ls 2 [(0, .ref (zl 0)), (1, .ref (zv 0))] := hl
  obtain ⟨hx, hb, hml, hown, hts, -⟩ := id C
  unfold fX1_readLine at hf
  refine lv_aload_n hx hb dX1_readLine_0 rfl (lv_at hl 0 rfl) ?_
  refine r_get C hw 0 rfl cf_X1 0 (by decide) q1_125 (v := .ref (zk 0)) rfl dX1_readLine_1 ?_
  refine va_ldcS hx hb hown (C.2.2.2.2.2.2.2.2.2.2.2.2.2.2.2 0 (by decide)) dX1_readLine_4 ?_
  obtain ⟨r1, hc2, hf⟩ := bd1_e hf
  refine r_callVi0 C hw (c_X8_isWord (zk := zk) (zx := zx) (by decide) hc2) md_X8_isWord [1, 2, 3] rfl rfl q2_96 1 rfl cf_X8.1 ⟨Nat.le_of_ble_eq_true rfl, Nat.le_of_ble_eq_true rfl⟩ ⟨Nat.zero_le _, Nat.zero_le _⟩ hl.1 rfl rfl (Nat.le_of_ble_eq_true rfl) dX1_readLine_6 (fun H locs hw => ?_)
  refine lv_if_eq (tgt := 20) hx hb dX1_readLine_9 (by decide) (fun hc42 => ?_) (fun hc42 => ?_)
  · have hf := it_p hf hc42
    refine lv_aload_n hx hb dX1_readLine_20 rfl (lv_at hl 0 rfl) ?_
    refine r_get C hw 0 rfl cf_X1 0 (by decide) q1_125 (v := .ref (zk 0)) rfl dX1_readLine_21 ?_
    refine va_ldcS hx hb hown (C.2.2.2.2.2.2.2.2.2.2.2.2.2.2.2 1 (by decide)) dX1_readLine_24 ?_
    obtain ⟨r3, hc4, hf⟩ := bd1_e hf
    refine r_callVi0 C hw (c_X8_isWord (zk := zk) (zx := zx) (by decide) hc4) md_X8_isWord [1, 2, 3] rfl rfl q2_96 1 rfl cf_X8.1 ⟨Nat.le_of_ble_eq_true rfl, Nat.le_of_ble_eq_true rfl⟩ ⟨Nat.zero_le _, Nat.zero_le _⟩ hl.1 rfl rfl (Nat.le_of_ble_eq_true rfl) dX1_readLine_26 (fun H locs hw => ?_)
    refine lv_if_eq (tgt := 40) hx hb dX1_readLine_29 (by decide) (fun hc37 => ?_) (fun hc37 => ?_)
    · have hf := it_p hf hc37
      refine lv_aload_n hx hb dX1_readLine_40 rfl (lv_at hl 0 rfl) ?_
      refine r_get C hw 0 rfl cf_X1 0 (by decide) q1_125 (v := .ref (zk 0)) rfl dX1_readLine_41 ?_
      refine va_ldcS hx hb hown (C.2.2.2.2.2.2.2.2.2.2.2.2.2.2.2 2 (by decide)) dX1_readLine_44 ?_
      obtain ⟨r5, hc6, hf⟩ := bd1_e hf
      refine r_callVi0 C hw (c_X8_isWord (zk := zk) (zx := zx) (by decide) hc6) md_X8_isWord [1, 2, 3] rfl rfl q2_96 1 rfl cf_X8.1 ⟨Nat.le_of_ble_eq_true rfl, Nat.le_of_ble_eq_true rfl⟩ ⟨Nat.zero_le _, Nat.zero_le _⟩ hl.1 rfl rfl (Nat.le_of_ble_eq_true rfl) dX1_readLine_46 (fun H locs hw => ?_)
      refine lv_if_eq (tgt := 60) hx hb dX1_readLine_49 (by decide) (fun hc32 => ?_) (fun hc32 => ?_)
      · have hf := it_p hf hc32
        refine lv_aload_n hx hb dX1_readLine_60 rfl (lv_at hl 0 rfl) ?_
        refine r_get C hw 0 rfl cf_X1 0 (by decide) q1_125 (v := .ref (zk 0)) rfl dX1_readLine_61 ?_
        refine va_ldcS hx hb hown (C.2.2.2.2.2.2.2.2.2.2.2.2.2.2.2 3 (by decide)) dX1_readLine_64 ?_
        obtain ⟨r7, hc8, hf⟩ := bd1_e hf
        refine r_callVi0 C hw (c_X8_isWord (zk := zk) (zx := zx) (by decide) hc8) md_X8_isWord [1, 2, 3] rfl rfl q2_96 1 rfl cf_X8.1 ⟨Nat.le_of_ble_eq_true rfl, Nat.le_of_ble_eq_true rfl⟩ ⟨Nat.zero_le _, Nat.zero_le _⟩ hl.1 rfl rfl (Nat.le_of_ble_eq_true rfl) dX1_readLine_66 (fun H locs hw => ?_)
        refine lv_if_eq (tgt := 80) hx hb dX1_readLine_69 (by decide) (fun hc27 => ?_) (fun hc27 => ?_)
        · have hf := it_p hf hc27
          refine lv_aload_n hx hb dX1_readLine_80 rfl (lv_at hl 0 rfl) ?_
          refine r_get C hw 0 rfl cf_X1 0 (by decide) q1_125 (v := .ref (zk 0)) rfl dX1_readLine_81 ?_
          refine va_ldcS hx hb hown (C.2.2.2.2.2.2.2.2.2.2.2.2.2.2.2 4 (by decide)) dX1_readLine_84 ?_
          obtain ⟨r9, hc10, hf⟩ := bd1_e hf
          refine r_callVi0 C hw (c_X8_isWord (zk := zk) (zx := zx) (by decide) hc10) md_X8_isWord [1, 2, 3] rfl rfl q2_96 1 rfl cf_X8.1 ⟨Nat.le_of_ble_eq_true rfl, Nat.le_of_ble_eq_true rfl⟩ ⟨Nat.zero_le _, Nat.zero_le _⟩ hl.1 rfl rfl (Nat.le_of_ble_eq_true rfl) dX1_readLine_86 (fun H locs hw => ?_)
          refine lv_if_eq (tgt := 100) hx hb dX1_readLine_89 (by decide) (fun hc22 => ?_) (fun hc22 => ?_)
          · have hf := it_p hf hc22
            refine lv_aload_n hx hb dX1_readLine_100 rfl (lv_at hl 0 rfl) ?_
            refine r_get C hw 0 rfl cf_X1 0 (by decide) q1_125 (v := .ref (zk 0)) rfl dX1_readLine_101 ?_
            refine va_ldcS hx hb hown (C.2.2.2.2.2.2.2.2.2.2.2.2.2.2.2 5 (by decide)) dX1_readLine_104 ?_
            obtain ⟨r11, hc12, hf⟩ := bd1_e hf
            refine r_callVi0 C hw (c_X8_isWord (zk := zk) (zx := zx) (by decide) hc12) md_X8_isWord [1, 2, 3] rfl rfl q2_96 1 rfl cf_X8.1 ⟨Nat.le_of_ble_eq_true rfl, Nat.le_of_ble_eq_true rfl⟩ ⟨Nat.zero_le _, Nat.zero_le _⟩ hl.1 rfl rfl (Nat.le_of_ble_eq_true rfl) dX1_readLine_106 (fun H locs hw => ?_)
            refine lv_if_eq (tgt := 120) hx hb dX1_readLine_109 (by decide) (fun hc17 => ?_) (fun hc17 => ?_)
            · have hf := it_p hf hc17
              refine lv_aload_n hx hb dX1_readLine_120 rfl (lv_at hl 0 rfl) ?_
              refine lv_aload_n hx hb dX1_readLine_121 rfl (lv_at hl 0 rfl) ?_
              refine r_get C hw 0 rfl cf_X1 0 (by decide) q1_125 (v := .ref (zk 0)) rfl dX1_readLine_122 ?_
              refine r_getN C hw 1 rfl cf_X8 1 (by decide) nq_17 (v := .int (Tk 0 1)) rfl dX1_readLine_125 ?_
              refine r_puti C hw 0 rfl cf_X1 1 (by decide) q1_126 rfl rfl (Nat.le_of_ble_eq_true rfl) (ws' := (gcL g zl zk (u2 Tl 0 1 (Tk 0 1)) ++ (gcK g zk zx Tk ++ (gcX g zx Tx ++ (gcT g zv Tv))))) (set_l (Nat.le_of_ble_eq_true rfl) gcL_p1) dX1_readLine_128 (fun H locs hw => ?_)
              obtain ⟨rfl, rfl, rfl⟩ := so3 hf
              exact r_vret C hw dX1_readLine_131
            · have hf := it_n hf hc17
              refine lv_aload_n hx hb dX1_readLine_112 rfl (lv_at hl 0 rfl) ?_
              refine lv_aload_n hx hb dX1_readLine_113 rfl (lv_at hl 1 rfl) ?_
              obtain ⟨Tl_13, Tk_14, Tv_15, hc16, hf⟩ := bd3_e hf
              refine r_callVvF C hw (c_X1_readFine (zk := zk) (zl := zl) (zv := zv) (zx := zx) hc16) md_X1_readFine [0, 1, 2, 3, 4, 5, 6, 7, 8, 9] rfl rfl rfl rfl q2_220 0 rfl cf_X1.1 ⟨Nat.le_of_ble_eq_true rfl, Nat.le_of_ble_eq_true rfl⟩ ⟨Nat.zero_le _, Nat.zero_le _⟩ hl.1 rfl rfl (Nat.le_of_ble_eq_true rfl) dX1_readLine_114 (fun H locs hw => ?_)
              have hw : wl g A s.heap (gcL g zl zk Tl_13 ++ (gcK g zk zx Tk_14 ++ (gcX g zx Tx ++ (gcT g zv Tv_15)))) H locs := hw
              refine lv_goto (tgt := 131) hx hb dX1_readLine_117 (by decide) ?_
              obtain ⟨rfl, rfl, rfl⟩ := so3 hf
              exact r_vret C hw dX1_readLine_131
          · have hf := it_n hf hc22
            refine lv_aload_n hx hb dX1_readLine_92 rfl (lv_at hl 0 rfl) ?_
            refine lv_aload_n hx hb dX1_readLine_93 rfl (lv_at hl 1 rfl) ?_
            obtain ⟨Tl_18, Tk_19, Tv_20, hc21, hf⟩ := bd3_e hf
            refine r_callVvF C hw (c_X1_readEats (zk := zk) (zl := zl) (zv := zv) (zx := zx) hc21) md_X1_readEats [0, 1, 2, 3, 4, 5, 6, 7, 8, 9] rfl rfl rfl rfl q2_215 0 rfl cf_X1.1 ⟨Nat.le_of_ble_eq_true rfl, Nat.le_of_ble_eq_true rfl⟩ ⟨Nat.zero_le _, Nat.zero_le _⟩ hl.1 rfl rfl (Nat.le_of_ble_eq_true rfl) dX1_readLine_94 (fun H locs hw => ?_)
            have hw : wl g A s.heap (gcL g zl zk Tl_18 ++ (gcK g zk zx Tk_19 ++ (gcX g zx Tx ++ (gcT g zv Tv_20)))) H locs := hw
            refine lv_goto (tgt := 131) hx hb dX1_readLine_97 (by decide) ?_
            obtain ⟨rfl, rfl, rfl⟩ := so3 hf
            exact r_vret C hw dX1_readLine_131
        · have hf := it_n hf hc27
          refine lv_aload_n hx hb dX1_readLine_72 rfl (lv_at hl 0 rfl) ?_
          refine lv_aload_n hx hb dX1_readLine_73 rfl (lv_at hl 1 rfl) ?_
          obtain ⟨Tl_23, Tk_24, Tv_25, hc26, hf⟩ := bd3_e hf
          refine r_callVvF C hw (c_X1_readMeant (zk := zk) (zl := zl) (zv := zv) (zx := zx) hc26) md_X1_readMeant [0, 1, 2, 3, 4, 5, 6, 7, 8, 9] rfl rfl rfl rfl q2_192 0 rfl cf_X1.1 ⟨Nat.le_of_ble_eq_true rfl, Nat.le_of_ble_eq_true rfl⟩ ⟨Nat.zero_le _, Nat.zero_le _⟩ hl.1 rfl rfl (Nat.le_of_ble_eq_true rfl) dX1_readLine_74 (fun H locs hw => ?_)
          have hw : wl g A s.heap (gcL g zl zk Tl_23 ++ (gcK g zk zx Tk_24 ++ (gcX g zx Tx ++ (gcT g zv Tv_25)))) H locs := hw
          refine lv_goto (tgt := 131) hx hb dX1_readLine_77 (by decide) ?_
          obtain ⟨rfl, rfl, rfl⟩ := so3 hf
          exact r_vret C hw dX1_readLine_131
      · have hf := it_n hf hc32
        refine lv_aload_n hx hb dX1_readLine_52 rfl (lv_at hl 0 rfl) ?_
        refine lv_aload_n hx hb dX1_readLine_53 rfl (lv_at hl 1 rfl) ?_
        obtain ⟨Tl_28, Tk_29, Tv_30, hc31, hf⟩ := bd3_e hf
        refine r_callVvF C hw (c_X1_readKind (zk := zk) (zl := zl) (zv := zv) (zx := zx) hc31) md_X1_readKind [0, 1, 2, 3, 4, 5, 6, 7, 8, 9] rfl rfl rfl rfl q2_178 0 rfl cf_X1.1 ⟨Nat.le_of_ble_eq_true rfl, Nat.le_of_ble_eq_true rfl⟩ ⟨Nat.zero_le _, Nat.zero_le _⟩ hl.1 rfl rfl (Nat.le_of_ble_eq_true rfl) dX1_readLine_54 (fun H locs hw => ?_)
        have hw : wl g A s.heap (gcL g zl zk Tl_28 ++ (gcK g zk zx Tk_29 ++ (gcX g zx Tx ++ (gcT g zv Tv_30)))) H locs := hw
        refine lv_goto (tgt := 131) hx hb dX1_readLine_57 (by decide) ?_
        obtain ⟨rfl, rfl, rfl⟩ := so3 hf
        exact r_vret C hw dX1_readLine_131
    · have hf := it_n hf hc37
      refine lv_aload_n hx hb dX1_readLine_32 rfl (lv_at hl 0 rfl) ?_
      refine lv_aload_n hx hb dX1_readLine_33 rfl (lv_at hl 1 rfl) ?_
      obtain ⟨Tl_33, Tk_34, Tv_35, hc36, hf⟩ := bd3_e hf
      refine r_callVvF C hw (c_X1_readWork (zk := zk) (zl := zl) (zv := zv) (zx := zx) hc36) md_X1_readWork [0, 1, 2, 3, 4, 5, 6, 7, 8, 9] rfl rfl rfl rfl q2_165 0 rfl cf_X1.1 ⟨Nat.le_of_ble_eq_true rfl, Nat.le_of_ble_eq_true rfl⟩ ⟨Nat.zero_le _, Nat.zero_le _⟩ hl.1 rfl rfl (Nat.le_of_ble_eq_true rfl) dX1_readLine_34 (fun H locs hw => ?_)
      have hw : wl g A s.heap (gcL g zl zk Tl_33 ++ (gcK g zk zx Tk_34 ++ (gcX g zx Tx ++ (gcT g zv Tv_35)))) H locs := hw
      refine lv_goto (tgt := 131) hx hb dX1_readLine_37 (by decide) ?_
      obtain ⟨rfl, rfl, rfl⟩ := so3 hf
      exact r_vret C hw dX1_readLine_131
  · have hf := it_n hf hc42
    refine lv_aload_n hx hb dX1_readLine_12 rfl (lv_at hl 0 rfl) ?_
    refine lv_aload_n hx hb dX1_readLine_13 rfl (lv_at hl 1 rfl) ?_
    obtain ⟨Tl_38, Tk_39, Tv_40, hc41, hf⟩ := bd3_e hf
    refine r_callVvF C hw (c_X1_readTreaty (zk := zk) (zl := zl) (zv := zv) (zx := zx) hc41) md_X1_readTreaty [0, 1, 2, 3, 4, 5, 6, 7, 8, 9] rfl rfl rfl rfl q2_148 0 rfl cf_X1.1 ⟨Nat.le_of_ble_eq_true rfl, Nat.le_of_ble_eq_true rfl⟩ ⟨Nat.zero_le _, Nat.zero_le _⟩ hl.1 rfl rfl (Nat.le_of_ble_eq_true rfl) dX1_readLine_14 (fun H locs hw => ?_)
    have hw : wl g A s.heap (gcL g zl zk Tl_38 ++ (gcK g zk zx Tk_39 ++ (gcX g zx Tx ++ (gcT g zv Tv_40)))) H locs := hw
    refine lv_goto (tgt := 131) hx hb dX1_readLine_17 (by decide) ?_
    obtain ⟨rfl, rfl, rfl⟩ := so3 hf
    exact r_vret C hw dX1_readLine_131
set_option maxRecDepth 100000 in
set_option maxHeartbeats 4000000 in
theorem kX1_readInto_14 {l : Launch} {g : evG} {p : Program} {e : Env} {s : State} {m : MethodId} {args : Array Value} {below : List Frame} {meth : Method} {c : Code} {A : Nat → Prop} {zk : Nat → Nat} {zl : Nat → Nat} {zv : Nat → Nat} {zx : Nat → Nat} {r : Int32} {ol ok ov : Gp} (C : ctx g p s m args meth c RX1 cX1_readInto 3 (some .int) A) {Tx : Gp} {rec14 : Gp → Gp → Gp → Int32 → Option (Int32 × Gp × Gp × Gp)} (hr14 : ∀ (Tl : Gp) (Tk : Gp) (Tv : Gp) (x2 : Int32) (H : Heap) (locs : List Loc) (ls : Array Slot), rec14 Tl Tk Tv x2 = some (r, ol, ok, ov) → wl g A s.heap (gcL g zl zk Tl ++ (gcK g zk zx Tk ++ (gcX g zx Tx ++ (gcT g zv Tv)))) H locs → lv_has ls 3 [(0, .ref (zl 0)), (1, .ref (zv 0)), (2, .int x2)] → W p l e (rmK 6 128) s m args below meth c H locs 0 0 (MQ below (Qi g A (gcL g zl zk ol ++ (gcK g zk zx ok ++ (gcX g zx Tx ++ (gcT g zv ov)))) r) args s 0 0 A) (F0 m 14 ls [])) {Tl : Gp} {Tk : Gp} {Tv : Gp} {x2 : Int32} {H : Heap} {locs : List Loc} {ls : Array Slot} (hf : fX1_readInto_14 Tx rec14 Tl Tk Tv x2 = some (r, ol, ok, ov)) (hw : wl g A s.heap (gcL g zl zk Tl ++ (gcK g zk zx Tk ++ (gcX g zx Tx ++ (gcT g zv Tv)))) H locs) (hl : lv_has ls 3 [(0, .ref (zl 0)), (1, .ref (zv 0)), (2, .int x2)]) : W p l e (rmK 6 128) s m args below meth c H locs 0 0 (MQ below (Qi g A (gcL g zl zk ol ++ (gcK g zk zx ok ++ (gcX g zx Tx ++ (gcT g zv ov)))) r) args s 0 0 A) (F0 m 14 ls []) := by
  obtain ⟨hx, hb, hml, hown, hts, -⟩ := id C
  unfold fX1_readInto_14 at hf
  refine lv_iload_n hx hb dX1_readInto_14 rfl (lv_at hl 2 rfl) ?_
  refine lv_bipush (v := (10 : Int32)) hx hb dX1_readInto_15 rfl ?_
  refine lv_icmp_gt (tgt := 92) hx hb dX1_readInto_17 (by decide) (fun hc15 => ?_) (fun hc15 => ?_)
  · have hf := it_p hf hc15
    refine lv_aload_n hx hb dX1_readInto_92 rfl (lv_at hl 0 rfl) ?_
    refine r_get C hw 0 rfl cf_X1 1 (by decide) q1_126 (v := .int (Tl 0 1)) rfl dX1_readInto_93 ?_
    obtain ⟨rfl, rfl, rfl, rfl⟩ := so4 hf
    exact r_iret C hw rfl dX1_readInto_96
  · have hf := it_n hf hc15
    refine lv_aload_n hx hb dX1_readInto_20 rfl (lv_at hl 0 rfl) ?_
    refine lv_aload_n hx hb dX1_readInto_21 rfl (lv_at hl 1 rfl) ?_
    obtain ⟨Tl_1, Tk_2, Tv_3, hc4, hf⟩ := bd3_e hf
    refine r_callVvF C hw (c_X1_readLine (zk := zk) (zl := zl) (zv := zv) (zx := zx) hc4) md_X1_readLine [0, 1, 2, 3, 4, 5, 6, 7, 8, 9] rfl rfl rfl rfl q2_91 0 rfl cf_X1.1 ⟨Nat.le_of_ble_eq_true rfl, Nat.le_of_ble_eq_true rfl⟩ ⟨Nat.zero_le _, Nat.zero_le _⟩ hl.1 rfl rfl (Nat.le_of_ble_eq_true rfl) dX1_readInto_22 (fun H locs hw => ?_)
    have hw : wl g A s.heap (gcL g zl zk Tl_1 ++ (gcK g zk zx Tk_2 ++ (gcX g zx Tx ++ (gcT g zv Tv_3)))) H locs := hw
    refine lv_aload_n hx hb dX1_readInto_25 rfl (lv_at hl 0 rfl) ?_
    refine lv_iload_n hx hb dX1_readInto_26 rfl (lv_at hl 2 rfl) ?_
    refine r_puti C hw 0 rfl cf_X1 2 (by decide) q1_127 rfl rfl (Nat.le_of_ble_eq_true rfl) (ws' := (gcL g zl zk (u2 Tl_1 0 2 x2) ++ (gcK g zk zx Tk_2 ++ (gcX g zx Tx ++ (gcT g zv Tv_3))))) (set_l (Nat.le_of_ble_eq_true rfl) gcL_p2) dX1_readInto_27 (fun H locs hw => ?_)
    refine lv_aload_n hx hb dX1_readInto_30 rfl (lv_at hl 0 rfl) ?_
    refine r_get C hw 0 rfl cf_X1 1 (by decide) q1_126 (v := .int (Tl_1 0 1)) rfl dX1_readInto_31 ?_
    refine lv_iconst (v := (-1 : Int32)) hx hb dX1_readInto_34 rfl ?_
    refine lv_icmp_ne (tgt := 48) hx hb dX1_readInto_35 (by decide) (fun hc14 => ?_) (fun hc14 => ?_)
    · have hf := it_n hf hc14
      refine lv_aload_n hx hb dX1_readInto_48 rfl (lv_at hl 0 rfl) ?_
      refine r_get C hw 0 rfl cf_X1 1 (by decide) q1_126 (v := .int (Tl_1 0 1)) rfl dX1_readInto_49 ?_
      obtain ⟨rfl, rfl, rfl, rfl⟩ := so4 hf
      exact r_iret C hw rfl dX1_readInto_52
    · have hf := it_p hf hc14
      refine lv_aload_n hx hb dX1_readInto_38 rfl (lv_at hl 0 rfl) ?_
      refine r_get C hw 0 rfl cf_X1 0 (by decide) q1_125 (v := .ref (zk 0)) rfl dX1_readInto_39 ?_
      obtain ⟨r5, hc6, hf⟩ := bd1_e hf
      refine r_callVi0 C hw (c_X8_isEnd (zk := zk) (zx := zx) hc6) md_X8_isEnd [1] rfl rfl q2_224 1 rfl cf_X8.1 ⟨Nat.le_of_ble_eq_true rfl, Nat.le_of_ble_eq_true rfl⟩ ⟨Nat.zero_le _, Nat.zero_le _⟩ hl.1 rfl rfl (Nat.le_of_ble_eq_true rfl) dX1_readInto_42 (fun H locs hw => ?_)
      refine lv_if_eq (tgt := 53) hx hb dX1_readInto_45 (by decide) (fun hc13 => ?_) (fun hc13 => ?_)
      · have hf := it_p hf hc13
        refine lv_iload_n hx hb dX1_readInto_53 rfl (lv_at hl 2 rfl) ?_
        refine lv_bipush (v := (10 : Int32)) hx hb dX1_readInto_54 rfl ?_
        refine lv_icmp_eq (tgt := 71) hx hb dX1_readInto_56 (by decide) (fun hc12 => ?_) (fun hc12 => ?_)
        · have hf := it_p hf hc12
          refine lv_aload_n hx hb dX1_readInto_71 rfl (lv_at hl 0 rfl) ?_
          refine r_get C hw 0 rfl cf_X1 0 (by decide) q1_125 (v := .ref (zk 0)) rfl dX1_readInto_72 ?_
          refine r_getN C hw 1 rfl cf_X8 1 (by decide) nq_17 (v := .int (Tk_2 0 1)) rfl dX1_readInto_75 ?_
          obtain ⟨rfl, rfl, rfl, rfl⟩ := so4 hf
          exact r_iret C hw rfl dX1_readInto_78
        · have hf := it_n hf hc12
          refine lv_aload_n hx hb dX1_readInto_59 rfl (lv_at hl 0 rfl) ?_
          refine r_get C hw 0 rfl cf_X1 0 (by decide) q1_125 (v := .ref (zk 0)) rfl dX1_readInto_60 ?_
          refine lv_bipush (v := (59 : Int32)) hx hb dX1_readInto_63 rfl ?_
          obtain ⟨r7, hc8, hf⟩ := bd1_e hf
          refine r_callVi0 C hw (c_X8_isSign (zk := zk) (zx := zx) hc8) md_X8_isSign [1, 2, 3] rfl rfl q2_228 1 rfl cf_X8.1 ⟨Nat.le_of_ble_eq_true rfl, Nat.le_of_ble_eq_true rfl⟩ ⟨Nat.zero_le _, Nat.zero_le _⟩ hl.1 rfl rfl (Nat.le_of_ble_eq_true rfl) dX1_readInto_65 (fun H locs hw => ?_)
          refine lv_if_ne (tgt := 79) hx hb dX1_readInto_68 (by decide) (fun hc11 => ?_) (fun hc11 => ?_)
          · have hf := it_n hf hc11
            refine lv_aload_n hx hb dX1_readInto_79 rfl (lv_at hl 0 rfl) ?_
            refine r_get C hw 0 rfl cf_X1 0 (by decide) q1_125 (v := .ref (zk 0)) rfl dX1_readInto_80 ?_
            obtain ⟨Tk_9, hc10, hf⟩ := bd1_e hf
            refine r_callVv C hw (c_X8_advance (zk := zk) (zx := zx) hc10) md_X8_advance [1, 2, 3] rfl rfl rfl q2_152 1 rfl cf_X8.1 ⟨Nat.le_of_ble_eq_true rfl, Nat.le_of_ble_eq_true rfl⟩ ⟨Nat.zero_le _, Nat.zero_le _⟩ hl.1 rfl rfl (Nat.le_of_ble_eq_true rfl) dX1_readInto_83 (fun H locs hw => ?_)
            have hw : wl g A s.heap (gcL g zl zk (u2 Tl_1 0 2 x2) ++ (gcK g zk zx Tk_9 ++ (gcX g zx Tx ++ (gcT g zv Tv_3)))) H locs := hw
            refine lv_iinc (v := (x2 + (1 : Int32))) (lv' := [(2, .int (x2 + (1 : Int32))), (0, .ref (zl 0)), (1, .ref (zv 0))]) hx hb dX1_readInto_86 hl (k := 2) rfl rfl (by decide) rfl (fun ls hl => ?_)
            refine lv_goto (tgt := 14) hx hb dX1_readInto_89 (by decide) ?_
            exact hr14 _ _ _ _ _ _ _ hf hw (lv_sub hl [1, 2, 0] rfl)
          · have hf := it_p hf hc11
            refine lv_aload_n hx hb dX1_readInto_71 rfl (lv_at hl 0 rfl) ?_
            refine r_get C hw 0 rfl cf_X1 0 (by decide) q1_125 (v := .ref (zk 0)) rfl dX1_readInto_72 ?_
            refine r_getN C hw 1 rfl cf_X8 1 (by decide) nq_17 (v := .int (Tk_2 0 1)) rfl dX1_readInto_75 ?_
            obtain ⟨rfl, rfl, rfl, rfl⟩ := so4 hf
            exact r_iret C hw rfl dX1_readInto_78
      · have hf := it_n hf hc13
        refine lv_aload_n hx hb dX1_readInto_48 rfl (lv_at hl 0 rfl) ?_
        refine r_get C hw 0 rfl cf_X1 1 (by decide) q1_126 (v := .int (Tl_1 0 1)) rfl dX1_readInto_49 ?_
        obtain ⟨rfl, rfl, rfl, rfl⟩ := so4 hf
        exact r_iret C hw rfl dX1_readInto_52
set_option maxRecDepth 100000 in
set_option maxHeartbeats 4000000 in
theorem klX1_readInto_14 {l : Launch} {g : evG} {p : Program} {e : Env} {s : State} {m : MethodId} {args : Array Value} {below : List Frame} {meth : Method} {c : Code} {A : Nat → Prop} {zk : Nat → Nat} {zl : Nat → Nat} {zv : Nat → Nat} {zx : Nat → Nat} {r : Int32} {ol ok ov : Gp} (C : ctx g p s m args meth c RX1 cX1_readInto 3 (some .int) A) {Tx : Gp} : ∀ (n : Nat) (Tl : Gp) (Tk : Gp) (Tv : Gp) (x2 : Int32) (H : Heap) (locs : List Loc) (ls : Array Slot), lX1_readInto_14 Tx n Tl Tk Tv x2 = some (r, ol, ok, ov) → wl g A s.heap (gcL g zl zk Tl ++ (gcK g zk zx Tk ++ (gcX g zx Tx ++ (gcT g zv Tv)))) H locs → lv_has ls 3 [(0, .ref (zl 0)), (1, .ref (zv 0)), (2, .int x2)] → W p l e (rmK 6 128) s m args below meth c H locs 0 0 (MQ below (Qi g A (gcL g zl zk ol ++ (gcK g zk zx ok ++ (gcX g zx Tx ++ (gcT g zv ov)))) r) args s 0 0 A) (F0 m 14 ls []) := by
  intro n
  induction n with
  | zero => intro _ _ _ _ _ _ _ hf; exact no_f hf
  | succ n ih => intro _ _ _ _ _ _ _ hf hw hl; exact kX1_readInto_14 (zk := zk) (zl := zl) (zv := zv) (zx := zx) (r := r) (ol := ol) (ok := ok) (ov := ov) C (rec14 := lX1_readInto_14 Tx n) ih hf hw hl
set_option maxRecDepth 100000 in
set_option maxHeartbeats 4000000 in
theorem c_X1_readInto {l : Launch} {g : evG} {zk : Nat → Nat} {zl : Nat → Nat} {zv : Nat → Nat} {zx : Nat → Nat} {r : Int32} {ol ok ov : Gp}  {Tl : Gp} {Tk : Gp} {Tx : Gp} {Tv : Gp} (hf : fX1_readInto Tl Tk Tx Tv = some (r, ol, ok, ov)) : CTi l g yX1_readInto (Cond.code yX1_readInto cX1_readInto 3 (some .int)) 6 128 [.ref (zl 0), .ref (zv 0)] (gcL g zl zk Tl ++ (gcK g zk zx Tk ++ (gcX g zx Tx ++ (gcT g zv Tv)))) (gcL g zl zk ol ++ (gcK g zk zx ok ++ (gcX g zx Tx ++ (gcT g zv ov)))) r := by
  refine ct_i rfl (Nat.le_of_ble_eq_true rfl) ?_
  intro p e s m args below meth c A ls C hw hl
  have C : ctx g p s m args meth c RX1 cX1_readInto 3 (some .int) A := C
  have hl : lv_has ls 3 [(0, .ref (zl 0)), (1, .ref (zv 0))] := hl
  obtain ⟨hx, hb, hml, hown, hts, -⟩ := id C
  unfold fX1_readInto at hf
  refine lv_aload_n hx hb dX1_readInto_0 rfl (lv_at hl 0 rfl) ?_
  refine lv_iconst (v := (-1 : Int32)) hx hb dX1_readInto_1 rfl ?_
  refine r_puti C hw 0 rfl cf_X1 1 (by decide) q1_126 rfl rfl (Nat.le_of_ble_eq_true rfl) (ws' := (gcL g zl zk (u2 Tl 0 1 (-1 : Int32)) ++ (gcK g zk zx Tk ++ (gcX g zx Tx ++ (gcT g zv Tv))))) (set_l (Nat.le_of_ble_eq_true rfl) gcL_p1) dX1_readInto_2 (fun H locs hw => ?_)
  refine lv_aload_n hx hb dX1_readInto_5 rfl (lv_at hl 0 rfl) ?_
  refine r_get C hw 0 rfl cf_X1 0 (by decide) q1_125 (v := .ref (zk 0)) rfl dX1_readInto_6 ?_
  obtain ⟨Tk_1, hc2, hf⟩ := bd1_e hf
  refine r_callVv C hw (c_X8_rewind (zk := zk) (zx := zx) hc2) md_X8_rewind [1, 2, 3] rfl rfl rfl q2_76 1 rfl cf_X8.1 ⟨Nat.le_of_ble_eq_true rfl, Nat.le_of_ble_eq_true rfl⟩ ⟨Nat.zero_le _, Nat.zero_le _⟩ hl.1 rfl rfl (Nat.le_of_ble_eq_true rfl) dX1_readInto_9 (fun H locs hw => ?_)
  have hw : wl g A s.heap (gcL g zl zk (u2 Tl 0 1 (-1 : Int32)) ++ (gcK g zk zx Tk_1 ++ (gcX g zx Tx ++ (gcT g zv Tv)))) H locs := hw
  refine lv_iconst (v := (1 : Int32)) hx hb dX1_readInto_12 rfl ?_
  refine lv_istore_n (lv' := [(2, .int (1 : Int32)), (0, .ref (zl 0)), (1, .ref (zv 0))]) hx hb dX1_readInto_13 rfl hl (by decide) rfl (fun ls hl => ?_)
  exact klX1_readInto_14 (zk := zk) (zl := zl) (zv := zv) (zx := zx) (r := r) (ol := ol) (ok := ok) (ov := ov) C fu _ _ _ _ _ _ _ hf hw (lv_sub hl [1, 2, 0] rfl)
