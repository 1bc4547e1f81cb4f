set_option maxRecDepth 100000 in
set_option maxHeartbeats 4000000 in
theorem kX11_isBreach_74 {l : Launch} {g : evG} {p : Program} {e : Env} {s : State} {m : MethodId} {args : Array Value} {below : List Frame} {meth : Method} {c : Code} {A : Nat → Prop} {zm : Nat → Nat} {r : Int32} (C : ctx g p s m args meth c RX11 cX11_isBreach 4 (some .boolean) A) {Tm : Gp} {y0 : Int32} {H : Heap} {locs : List Loc} {ls : Array Slot} (hf : fX11_isBreach_74 Tm y0 = some (r)) (hw : wl g A s.heap (gcM g zm Tm) H locs) (hl : lv_has ls 4 [(0, .ref (zm 0))]) : W p l e (rmK 3 71) s m args below meth c H locs 0 0 (MQ below (Qi g A (gcM g zm Tm) r) args s 0 0 A) (F0 m 74 ls [.int y0]) := by
  obtain ⟨hx, hb, hml, hown, hts, -⟩ := id C
  unfold fX11_isBreach_74 at hf
  refine lv_istore_n (lv' := [(3, .int y0), (0, .ref (zm 0))]) hx hb dX11_isBreach_74 rfl hl (by decide) rfl (fun ls hl => ?_)
  refine lv_iload_n hx hb dX11_isBreach_75 rfl (lv_at hl 0 rfl) ?_
  refine lv_aload_n hx hb dX11_isBreach_76 rfl (lv_at hl 1 rfl) ?_
  refine r_get C hw 0 rfl cf_X11 0 (by decide) q4_173 (v := .ref (zm 1)) rfl dX11_isBreach_77 ?_
  refine lv_iconst (v := (0 : Int32)) hx hb dX11_isBreach_80 rfl ?_
  refine r_iald C hw 1 (f := (Tm 1)) rfl (by decide) dX11_isBreach_81 ?_
  refine lv_iconst (v := (2 : Int32)) hx hb dX11_isBreach_82 rfl ?_
  refine lv_irm hx hb dX11_isBreach_83 (by decide) ?_
  refine lv_iconst (v := (1 : Int32)) hx hb dX11_isBreach_84 rfl ?_
  refine lv_icmp_ne (tgt := 92) hx hb dX11_isBreach_85 (by decide) (fun hc3 => ?_) (fun hc3 => ?_)
  · have hf := it_n hf hc3
    refine lv_iconst (v := (0 : Int32)) hx hb dX11_isBreach_92 rfl ?_
    refine lv_icmp_ne (tgt := 100) hx hb dX11_isBreach_93 (by decide) (fun hc1 => ?_) (fun hc1 => ?_)
    · have hf := it_n hf hc1
      refine lv_iconst (v := (0 : Int32)) hx hb dX11_isBreach_100 rfl ?_
      obtain rfl := so1 hf
      exact r_zret C hw rfl rfl dX11_isBreach_101
    · have hf := it_p hf hc1
      refine lv_iconst (v := (1 : Int32)) hx hb dX11_isBreach_96 rfl ?_
      refine lv_goto (tgt := 101) hx hb dX11_isBreach_97 (by decide) ?_
      obtain rfl := so1 hf
      exact r_zret C hw rfl rfl dX11_isBreach_101
  · have hf := it_p hf hc3
    refine lv_iconst (v := (1 : Int32)) hx hb dX11_isBreach_88 rfl ?_
    refine lv_goto (tgt := 93) hx hb dX11_isBreach_89 (by decide) ?_
    refine lv_icmp_ne (tgt := 100) hx hb dX11_isBreach_93 (by decide) (fun hc2 => ?_) (fun hc2 => ?_)
    · have hf := it_n hf hc2
      refine lv_iconst (v := (0 : Int32)) hx hb dX11_isBreach_100 rfl ?_
      obtain rfl := so1 hf
      exact r_zret C hw rfl rfl dX11_isBreach_101
    · have hf := it_p hf hc2
      refine lv_iconst (v := (1 : Int32)) hx hb dX11_isBreach_96 rfl ?_
      refine lv_goto (tgt := 101) hx hb dX11_isBreach_97 (by decide) ?_
      obtain rfl := so1 hf
      exact r_zret C hw rfl rfl dX11_isBreach_101
set_option maxRecDepth 100000 in
set_option maxHeartbeats 4000000 in
theorem c_X11_isBreach {l : Launch} {g : evG} {zm : Nat → Nat} {r : Int32}  {Tm : Gp} {x1 : Int32} {x2 : Int32} (hf : fX11_isBreach Tm x1 x2 = some (r)) : CTi l g yX11_isBreach (Cond.code yX11_isBreach cX11_isBreach 4 (some .boolean)) 3 71 [.ref (zm 0), .int x1, .int x2] (gcM g zm Tm) (gcM g zm Tm) r := by
  refine ct_i rfl (Nat.le_of_ble_eq_true rfl) ?_
  intro p e s m args below meth c A ls C hw hl
  have C : ctx g p s m args meth c RX11 cX11_isBreach 4 (some .boolean) A := C
  have hl : lv_has ls 4 [(0, .ref (zm 0)), (1, .int x1), (2, .int x2)] := hl
  obtain ⟨hx, hb, hml, hown, hts, -⟩ := id C
  unfold fX11_isBreach at hf
  refine lv_aload_n hx hb dX11_isBreach_0 rfl (lv_at hl 0 rfl) ?_
  refine r_get C hw 0 rfl cf_X11 9 (by decide) q4_182 (v := .ref (zm 6)) rfl dX11_isBreach_1 ?_
  refine lv_iload_n hx hb dX11_isBreach_4 rfl (lv_at hl 1 rfl) ?_
  obtain ⟨hi1, hf⟩ := it_g hf
  refine r_iald C hw 6 (f := (Tm 6)) rfl hi1 dX11_isBreach_5 ?_
  refine lv_iconst (v := (3 : Int32)) hx hb dX11_isBreach_6 rfl ?_
  refine lv_icmp_eq (tgt := 36) hx hb dX11_isBreach_7 (by decide) (fun hc13 => ?_) (fun hc13 => ?_)
  · have hf := it_p hf hc13
    refine lv_iconst (v := (0 : Int32)) hx hb dX11_isBreach_36 rfl ?_
    obtain rfl := so1 hf
    exact r_zret C hw rfl rfl dX11_isBreach_37
  · have hf := it_n hf hc13
    refine lv_aload_n hx hb dX11_isBreach_10 rfl (lv_at hl 0 rfl) ?_
    refine r_get C hw 0 rfl cf_X11 0 (by decide) q4_173 (v := .ref (zm 1)) rfl dX11_isBreach_11 ?_
    refine lv_bipush (v := (27 : Int32)) hx hb dX11_isBreach_14 rfl ?_
    refine lv_iload_n hx hb dX11_isBreach_16 rfl (lv_at hl 1 rfl) ?_
    refine lv_iadd hx hb dX11_isBreach_17 ?_
    obtain ⟨hi2, hf⟩ := it_g hf
    refine r_iald C hw 1 (f := (Tm 1)) rfl hi2 dX11_isBreach_18 ?_
    refine lv_iconst (v := (1 : Int32)) hx hb dX11_isBreach_19 rfl ?_
    refine lv_icmp_eq (tgt := 36) hx hb dX11_isBreach_20 (by decide) (fun hc12 => ?_) (fun hc12 => ?_)
    · have hf := it_p hf hc12
      refine lv_iconst (v := (0 : Int32)) hx hb dX11_isBreach_36 rfl ?_
      obtain rfl := so1 hf
      exact r_zret C hw rfl rfl dX11_isBreach_37
    · have hf := it_n hf hc12
      refine lv_aload_n hx hb dX11_isBreach_23 rfl (lv_at hl 0 rfl) ?_
      refine r_get C hw 0 rfl cf_X11 0 (by decide) q4_173 (v := .ref (zm 1)) rfl dX11_isBreach_24 ?_
      refine lv_bipush (v := (33 : Int32)) hx hb dX11_isBreach_27 rfl ?_
      refine lv_iload_n hx hb dX11_isBreach_29 rfl (lv_at hl 1 rfl) ?_
      refine lv_iadd hx hb dX11_isBreach_30 ?_
      obtain ⟨hi3, hf⟩ := it_g hf
      refine r_iald C hw 1 (f := (Tm 1)) rfl hi3 dX11_isBreach_31 ?_
      refine lv_iconst (v := (1 : Int32)) hx hb dX11_isBreach_32 rfl ?_
      refine lv_icmp_ne (tgt := 38) hx hb dX11_isBreach_33 (by decide) (fun hc11 => ?_) (fun hc11 => ?_)
      · have hf := it_n hf hc11
        refine lv_aload_n hx hb dX11_isBreach_38 rfl (lv_at hl 0 rfl) ?_
        refine r_get C hw 0 rfl cf_X11 8 (by decide) q4_181 (v := .ref (zm 5)) rfl dX11_isBreach_39 ?_
        refine lv_iconst (v := (4 : Int32)) hx hb dX11_isBreach_42 rfl ?_
        refine lv_aload_n hx hb dX11_isBreach_43 rfl (lv_at hl 0 rfl) ?_
        refine lv_iconst (v := (0 : Int32)) hx hb dX11_isBreach_44 rfl ?_
        refine lv_iload_n hx hb dX11_isBreach_45 rfl (lv_at hl 1 rfl) ?_
        refine lv_iload_n hx hb dX11_isBreach_46 rfl (lv_at hl 2 rfl) ?_
        obtain ⟨r4, hc5, hf⟩ := bd1_e hf
        refine r_callVi0 C hw (c_X11_does (zm := zm) hc5) md_X11_does [0, 1, 2, 3, 4, 5, 6, 7, 8, 9, 10, 11, 12, 13, 14, 15, 16, 17, 18] rfl rfl q5_139 0 rfl cf_X11.1 ⟨Nat.le_of_ble_eq_true rfl, Nat.le_of_ble_eq_true rfl⟩ ⟨Nat.zero_le _, Nat.zero_le _⟩ hl.1 rfl rfl (Nat.le_of_ble_eq_true rfl) dX11_isBreach_47 (fun H locs hw => ?_)
        refine lv_imul hx hb dX11_isBreach_50 ?_
        obtain ⟨hi6, hf⟩ := it_g hf
        refine r_iald C hw 5 (f := (Tm 5)) rfl hi6 dX11_isBreach_51 ?_
        refine lv_aload_n hx hb dX11_isBreach_52 rfl (lv_at hl 0 rfl) ?_
        refine r_get C hw 0 rfl cf_X11 8 (by decide) q4_181 (v := .ref (zm 5)) rfl dX11_isBreach_53 ?_
        refine lv_iconst (v := (4 : Int32)) hx hb dX11_isBreach_56 rfl ?_
        refine lv_aload_n hx hb dX11_isBreach_57 rfl (lv_at hl 0 rfl) ?_
        refine lv_iconst (v := (1 : Int32)) hx hb dX11_isBreach_58 rfl ?_
        refine lv_iload_n hx hb dX11_isBreach_59 rfl (lv_at hl 1 rfl) ?_
        refine lv_iload_n hx hb dX11_isBreach_60 rfl (lv_at hl 2 rfl) ?_
        obtain ⟨r7, hc8, hf⟩ := bd1_e hf
        refine r_callVi0 C hw (c_X11_does (zm := zm) hc8) md_X11_does [0, 1, 2, 3, 4, 5, 6, 7, 8, 9, 10, 11, 12, 13, 14, 15, 16, 17, 18] rfl rfl q5_139 0 rfl cf_X11.1 ⟨Nat.le_of_ble_eq_true rfl, Nat.le_of_ble_eq_true rfl⟩ ⟨Nat.zero_le _, Nat.zero_le _⟩ hl.1 rfl rfl (Nat.le_of_ble_eq_true rfl) dX11_isBreach_61 (fun H locs hw => ?_)
        refine lv_imul hx hb dX11_isBreach_64 ?_
        obtain ⟨hi9, hf⟩ := it_g hf
        refine r_iald C hw 5 (f := (Tm 5)) rfl hi9 dX11_isBreach_65 ?_
        refine lv_icmp_ne (tgt := 73) hx hb dX11_isBreach_66 (by decide) (fun hc10 => ?_) (fun hc10 => ?_)
        · have hf := it_n hf hc10
          refine lv_iconst (v := (0 : Int32)) hx hb dX11_isBreach_73 rfl ?_
          exact kX11_isBreach_74 (zm := zm) (r := r) C hf hw (lv_sub hl [0] rfl)
        · have hf := it_p hf hc10
          refine lv_iconst (v := (1 : Int32)) hx hb dX11_isBreach_69 rfl ?_
          refine lv_goto (tgt := 74) hx hb dX11_isBreach_70 (by decide) ?_
          exact kX11_isBreach_74 (zm := zm) (r := r) C hf hw (lv_sub hl [0] rfl)
      · have hf := it_p hf hc11
        refine lv_iconst (v := (0 : Int32)) hx hb dX11_isBreach_36 rfl ?_
        obtain rfl := so1 hf
        exact r_zret C hw rfl rfl dX11_isBreach_37
set_option maxRecDepth 100000 in
set_option maxHeartbeats 4000000 in
theorem c_X11_strays {l : Launch} {g : evG} {zm : Nat → Nat} {r : Int32}  {Tm : Gp} {x1 : Int32} {x2 : Int32} {x3 : Int32} (hf : fX11_strays Tm x1 x2 x3 = some (r)) : CTi l g yX11_strays (Cond.code yX11_strays cX11_strays 5 (some .boolean)) 2 46 [.ref (zm 0), .int x1, .int x2, .int x3] (gcM g zm Tm) (gcM g zm Tm) r := by
  refine ct_i rfl (Nat.le_of_ble_eq_true rfl) ?_
  intro p e s m args below meth c A ls C hw hl
  have C : ctx g p s m args meth c RX11 cX11_strays 5 (some .boolean) A := C
  have hl : lv_has ls 5 [(0, .ref (zm 0)), (1, .int x1), (2, .int x2), (3, .int x3)] := hl
  obtain ⟨hx, hb, hml, hown, hts, -⟩ := id C
  unfold fX11_strays at hf
  refine lv_aload_n hx hb dX11_strays_0 rfl (lv_at hl 0 rfl) ?_
  refine r_get C hw 0 rfl cf_X11 0 (by decide) q4_173 (v := .ref (zm 1)) rfl dX11_strays_1 ?_
  refine lv_bipush (v := (39 : Int32)) hx hb dX11_strays_4 rfl ?_
  refine lv_bipush (v := (24 : Int32)) hx hb dX11_strays_6 rfl ?_
  refine lv_iload_n hx hb dX11_strays_8 rfl (lv_at hl 1 rfl) ?_
  refine lv_imul hx hb dX11_strays_9 ?_
  refine lv_iadd hx hb dX11_strays_10 ?_
  refine lv_iconst (v := (4 : Int32)) hx hb dX11_strays_11 rfl ?_
  refine lv_iload_n hx hb dX11_strays_12 rfl (lv_at hl 2 rfl) ?_
  refine lv_imul hx hb dX11_strays_13 ?_
  refine lv_iadd hx hb dX11_strays_14 ?_
  refine lv_iload_n hx hb dX11_strays_15 rfl (lv_at hl 3 rfl) ?_
  refine lv_iadd hx hb dX11_strays_16 ?_
  obtain ⟨hi1, hf⟩ := it_g hf
  refine r_iald C hw 1 (f := (Tm 1)) rfl hi1 dX11_strays_17 ?_
  refine lv_istore (lv' := [(4, .int (Tm 1 ((((39 : Int32) + ((24 : Int32) * x1)) + ((4 : Int32) * x2)) + x3).toNatClampNeg)), (0, .ref (zm 0)), (1, .int x1), (2, .int x2), (3, .int x3)]) hx hb dX11_strays_18 hl (by decide) rfl (fun ls hl => ?_)
  refine lv_iload hx hb dX11_strays_20 (lv_at hl 0 rfl) ?_
  refine lv_iconst (v := (-1 : Int32)) hx hb dX11_strays_22 rfl ?_
  refine lv_icmp_eq (tgt := 42) hx hb dX11_strays_23 (by decide) (fun hc5 => ?_) (fun hc5 => ?_)
  · have hf := it_p hf hc5
    refine lv_iconst (v := (0 : Int32)) hx hb dX11_strays_42 rfl ?_
    obtain rfl := so1 hf
    exact r_zret C hw rfl rfl dX11_strays_43
  · have hf := it_n hf hc5
    refine lv_iload hx hb dX11_strays_26 (lv_at hl 0 rfl) ?_
    refine lv_aload_n hx hb dX11_strays_28 rfl (lv_at hl 1 rfl) ?_
    refine lv_iload_n hx hb dX11_strays_29 rfl (lv_at hl 2 rfl) ?_
    refine lv_iload_n hx hb dX11_strays_30 rfl (lv_at hl 3 rfl) ?_
    refine lv_iload_n hx hb dX11_strays_31 rfl (lv_at hl 4 rfl) ?_
    obtain ⟨r2, hc3, hf⟩ := bd1_e hf
    refine r_callVi0 C hw (c_X11_meansOf (zm := zm) hc3) md_X11_meansOf [0, 1, 2, 3, 4, 5, 6, 7, 8, 9, 10, 11, 12, 13, 14, 15, 16, 17, 18] rfl rfl q5_143 0 rfl cf_X11.1 ⟨Nat.le_of_ble_eq_true rfl, Nat.le_of_ble_eq_true rfl⟩ ⟨Nat.zero_le _, Nat.zero_le _⟩ hl.1 rfl rfl (Nat.le_of_ble_eq_true rfl) dX11_strays_32 (fun H locs hw => ?_)
    refine lv_icmp_eq (tgt := 42) hx hb dX11_strays_35 (by decide) (fun hc4 => ?_) (fun hc4 => ?_)
    · have hf := it_p hf hc4
      refine lv_iconst (v := (0 : Int32)) hx hb dX11_strays_42 rfl ?_
      obtain rfl := so1 hf
      exact r_zret C hw rfl rfl dX11_strays_43
    · have hf := it_n hf hc4
      refine lv_iconst (v := (1 : Int32)) hx hb dX11_strays_38 rfl ?_
      refine lv_goto (tgt := 43) hx hb dX11_strays_39 (by decide) ?_
      obtain rfl := so1 hf
      exact r_zret C hw rfl rfl dX11_strays_43
set_option maxRecDepth 100000 in
set_option maxHeartbeats 4000000 in
theorem c_X11_charge {l : Launch} {g : evG} {zm : Nat → Nat} {om : Gp}  {Tm : Gp} {x1 : Int32} {x2 : Int32} (hf : fX11_charge Tm x1 x2 = some (om)) : CTv l g yX11_charge (Cond.code yX11_charge cX11_charge 3 none) 0 0 [.ref (zm 0), .int x1, .int x2] (gcM g zm Tm) (gcM g zm om) := by
  refine ct_v rfl (Nat.le_of_ble_eq_true rfl) ?_
  intro p e s m args below meth c A ls C hw hl
  have C : ctx g p s m args meth c RX11 cX11_charge 3 none A := C
  have hl : lv_has ls 3 [(0, .ref (zm 0)), (1, .int x1), (2, .int x2)] := hl
  obtain ⟨hx, hb, hml, hown, hts, -⟩ := id C
  unfold fX11_charge at hf
  refine lv_aload_n hx hb dX11_charge_0 rfl (lv_at hl 0 rfl) ?_
  refine r_get C hw 0 rfl cf_X11 0 (by decide) q4_173 (v := .ref (zm 1)) rfl dX11_charge_1 ?_
  refine lv_iconst (v := (3 : Int32)) hx hb dX11_charge_4 rfl ?_
  refine lv_bipush (v := (6 : Int32)) hx hb dX11_charge_5 rfl ?_
  refine lv_iload_n hx hb dX11_charge_7 rfl (lv_at hl 1 rfl) ?_
  refine lv_imul hx hb dX11_charge_8 ?_
  refine lv_iadd hx hb dX11_charge_9 ?_
  refine lv_iload_n hx hb dX11_charge_10 rfl (lv_at hl 2 rfl) ?_
  refine lv_iadd hx hb dX11_charge_11 ?_
  refine lv_dup2_11 hx hb dX11_charge_12 rfl rfl ?_
  obtain ⟨hi1, hf⟩ := it_g hf
  refine r_iald C hw 1 (f := (Tm 1)) rfl hi1 dX11_charge_13 ?_
  refine lv_iconst (v := (1 : Int32)) hx hb dX11_charge_14 rfl ?_
  refine lv_iadd hx hb dX11_charge_15 ?_
  obtain ⟨hi2, hf⟩ := it_g hf
  refine r_iast C hw 1 (f := (Tm 1)) rfl hi2 (ws' := (gcM g zm (u2 Tm 1 (((3 : Int32) + ((6 : Int32) * x1)) + x2).toNatClampNeg ((Tm 1 (((3 : Int32) + ((6 : Int32) * x1)) + x2).toNatClampNeg) + (1 : Int32))))) gcM_a1 dX11_charge_16 (fun H locs hw => ?_)
  refine lv_aload_n hx hb dX11_charge_17 rfl (lv_at hl 0 rfl) ?_
  refine r_get C hw 0 rfl cf_X11 0 (by decide) q4_173 (v := .ref (zm 1)) rfl dX11_charge_18 ?_
  refine lv_bipush (v := (15 : Int32)) hx hb dX11_charge_21 rfl ?_
  refine lv_bipush (v := (6 : Int32)) hx hb dX11_charge_23 rfl ?_
  refine lv_iload_n hx hb dX11_charge_25 rfl (lv_at hl 1 rfl) ?_
  refine lv_imul hx hb dX11_charge_26 ?_
  refine lv_iadd hx hb dX11_charge_27 ?_
  refine lv_iload_n hx hb dX11_charge_28 rfl (lv_at hl 2 rfl) ?_
  refine lv_iadd hx hb dX11_charge_29 ?_
  refine lv_dup2_11 hx hb dX11_charge_30 rfl rfl ?_
  obtain ⟨hi3, hf⟩ := it_g hf
  refine r_iald C hw 1 (f := ((u2 Tm 1 (((3 : Int32) + ((6 : Int32) * x1)) + x2).toNatClampNeg ((Tm 1 (((3 : Int32) + ((6 : Int32) * x1)) + x2).toNatClampNeg) + (1 : Int32))) 1)) rfl hi3 dX11_charge_31 ?_
  refine lv_aload_n hx hb dX11_charge_32 rfl (lv_at hl 0 rfl) ?_
  refine r_get C hw 0 rfl cf_X11 12 (by decide) q4_185 (v := .int (Tm 0 12)) rfl dX11_charge_33 ?_
  refine lv_iadd hx hb dX11_charge_36 ?_
  obtain ⟨hi4, hf⟩ := it_g hf
  refine r_iast C hw 1 (f := ((u2 Tm 1 (((3 : Int32) + ((6 : Int32) * x1)) + x2).toNatClampNeg ((Tm 1 (((3 : Int32) + ((6 : Int32) * x1)) + x2).toNatClampNeg) + (1 : Int32))) 1)) rfl hi4 (ws' := (gcM g zm (u2 (u2 Tm 1 (((3 : Int32) + ((6 : Int32) * x1)) + x2).toNatClampNeg ((Tm 1 (((3 : Int32) + ((6 : Int32) * x1)) + x2).toNatClampNeg) + (1 : Int32))) 1 (((15 : Int32) + ((6 : Int32) * x1)) + x2).toNatClampNeg (((u2 Tm 1 (((3 : Int32) + ((6 : Int32) * x1)) + x2).toNatClampNeg ((Tm 1 (((3 : Int32) + ((6 : Int32) * x1)) + x2).toNatClampNeg) + (1 : Int32))) 1 (((15 : Int32) + ((6 : Int32) * x1)) + x2).toNatClampNeg) + (Tm 0 12))))) gcM_a1 dX11_charge_37 (fun H locs hw => ?_)
  obtain rfl := so1 hf
  exact r_vret C hw dX11_charge_38
set_option maxRecDepth 100000 in
set_option maxHeartbeats 4000000 in
theorem kX11_day_190 {l : Launch} {g : evG} {p : Program} {e : Env} {s : State} {m : MethodId} {args : Array Value} {below : List Frame} {meth : Method} {c : Code} {A : Nat → Prop} {zm : Nat → Nat} {om : Gp} (C : ctx g p s m args meth c RX11 cX11_day 5 none A) {rec190 : Gp → Int32 → Option (Gp)} (hr190 : ∀ (Tm : Gp) (x1 : Int32) (H : Heap) (locs : List Loc) (ls : Array Slot), rec190 Tm x1 = some (om) → wl g A s.heap (gcM g zm Tm) H locs → lv_has ls 5 [(0, .ref (zm 0)), (1, .int x1)] → W p l e (rmK 4 94) s m args below meth c H locs 0 0 (MQ below (Qv g A (gcM g zm om)) args s 0 0 A) (F0 m 190 ls [])) {Tm : Gp} {x1 : Int32} {H : Heap} {locs : List Loc} {ls : Array Slot} (hf : fX11_day_190 rec190 Tm x1 = some (om)) (hw : wl g A s.heap (gcM g zm Tm) H locs) (hl : lv_has ls 5 [(0, .ref (zm 0)), (1, .int x1)]) : W p l e (rmK 4 94) s m args below meth c H locs 0 0 (MQ below (Qv g A (gcM g zm om)) args s 0 0 A) (F0 m 190 ls []) := by
  obtain ⟨hx, hb, hml, hown, hts, -⟩ := id C
  unfold fX11_day_190 at hf
  refine lv_iload_n hx hb dX11_day_190 rfl (lv_at hl 1 rfl) ?_
  refine lv_bipush (v := (87 : Int32)) hx hb dX11_day_191 rfl ?_
  refine lv_icmp_ge (tgt := 209) hx hb dX11_day_193 (by decide) (fun hc2 => ?_) (fun hc2 => ?_)
  · have hf := it_p hf hc2
    obtain rfl := so1 hf
    exact r_vret C hw dX11_day_209
  · have hf := it_n hf hc2
    refine lv_aload_n hx hb dX11_day_196 rfl (lv_at hl 0 rfl) ?_
    refine r_get C hw 0 rfl cf_X11 0 (by decide) q4_173 (v := .ref (zm 1)) rfl dX11_day_197 ?_
    refine lv_iload_n hx hb dX11_day_200 rfl (lv_at hl 1 rfl) ?_
    refine lv_iconst (v := (-1 : Int32)) hx hb dX11_day_201 rfl ?_
    obtain ⟨hi1, hf⟩ := it_g hf
    refine r_iast C hw 1 (f := (Tm 1)) rfl hi1 (ws' := (gcM g zm (u2 Tm 1 x1.toNatClampNeg (-1 : Int32)))) gcM_a1 dX11_day_202 (fun H locs hw => ?_)
    refine lv_iinc (v := (x1 + (1 : Int32))) (lv' := [(1, .int (x1 + (1 : Int32))), (0, .ref (zm 0))]) hx hb dX11_day_203 hl (k := 1) rfl rfl (by decide) rfl (fun ls hl => ?_)
    refine lv_goto (tgt := 190) hx hb dX11_day_206 (by decide) ?_
    exact hr190 _ _ _ _ _ hf hw (lv_sub hl [1, 0] rfl)
set_option maxRecDepth 100000 in
set_option maxHeartbeats 4000000 in
theorem klX11_day_190 {l : Launch} {g : evG} {p : Program} {e : Env} {s : State} {m : MethodId} {args : Array Value} {below : List Frame} {meth : Method} {c : Code} {A : Nat → Prop} {zm : Nat → Nat} {om : Gp} (C : ctx g p s m args meth c RX11 cX11_day 5 none A) : ∀ (n : Nat) (Tm : Gp) (x1 : Int32) (H : Heap) (locs : List Loc) (ls : Array Slot), lX11_day_190 n Tm x1 = some (om) → wl g A s.heap (gcM g zm Tm) H locs → lv_has ls 5 [(0, .ref (zm 0)), (1, .int x1)] → W p l e (rmK 4 94) s m args below meth c H locs 0 0 (MQ below (Qv g A (gcM g zm om)) args s 0 0 A) (F0 m 190 ls []) := by
  intro n
  induction n with
  | zero => intro _ _ _ _ _ hf; exact no_f hf
  | succ n ih => intro _ _ _ _ _ hf hw hl; exact kX11_day_190 (zm := zm) (om := om) C (rec190 := lX11_day_190 n) ih hf hw hl
set_option maxRecDepth 100000 in
set_option maxHeartbeats 4000000 in
theorem kX11_day_78 {l : Launch} {g : evG} {p : Program} {e : Env} {s : State} {m : MethodId} {args : Array Value} {below : List Frame} {meth : Method} {c : Code} {A : Nat → Prop} {zm : Nat → Nat} {om : Gp} (C : ctx g p s m args meth c RX11 cX11_day 5 none A) {rec2 : Gp → Int32 → Option (Gp)} {rec12 : Gp → Int32 → Int32 → Option (Gp)} {rec78 : Gp → Int32 → Int32 → Int32 → Option (Gp)} (hr2 : ∀ (Tm : Gp) (x1 : Int32) (H : Heap) (locs : List Loc) (ls : Array Slot), rec2 Tm x1 = some (om) → wl g A s.heap (gcM g zm Tm) H locs → lv_has ls 5 [(0, .ref (zm 0)), (1, .int x1)] → W p l e (rmK 4 94) s m args below meth c H locs 0 0 (MQ below (Qv g A (gcM g zm om)) args s 0 0 A) (F0 m 2 ls [])) (hr12 : ∀ (Tm : Gp) (x1 : Int32) (x2 : Int32) (H : Heap) (locs : List Loc) (ls : Array Slot), rec12 Tm x1 x2 = some (om) → wl g A s.heap (gcM g zm Tm) H locs → lv_has ls 5 [(0, .ref (zm 0)), (1, .int x1), (2, .int x2)] → W p l e (rmK 4 94) s m args below meth c H locs 0 0 (MQ below (Qv g A (gcM g zm om)) args s 0 0 A) (F0 m 12 ls [])) (hr78 : ∀ (Tm : Gp) (x1 : Int32) (x2 : Int32) (x3 : Int32) (H : Heap) (locs : List Loc) (ls : Array Slot), rec78 Tm x1 x2 x3 = some (om) → wl g A s.heap (gcM g zm Tm) H locs → lv_has ls 5 [(0, .ref (zm 0)), (1, .int x1), (2, .int x2), (3, .int x3)] → W p l e (rmK 4 94) s m args below meth c H locs 0 0 (MQ below (Qv g A (gcM g zm om)) args s 0 0 A) (F0 m 78 ls [])) {Tm : Gp} {x1 : Int32} {x2 : Int32} {x3 : Int32} {H : Heap} {locs : List Loc} {ls : Array Slot} (hf : fX11_day_78 rec2 rec12 rec78 Tm x1 x2 x3 = some (om)) (hw : wl g A s.heap (gcM g zm Tm) H locs) (hl : lv_has ls 5 [(0, .ref (zm 0)), (1, .int x1), (2, .int x2), (3, .int x3)]) : W p l e (rmK 4 94) s m args below meth c H locs 0 0 (MQ below (Qv g A (gcM g zm om)) args s 0 0 A) (F0 m 78 ls []) := by
  obtain ⟨hx, hb, hml, hown, hts, -⟩ := id C
  unfold fX11_day_78 at hf
  refine lv_iload_n hx hb dX11_day_78 rfl (lv_at hl 3 rfl) ?_
  refine lv_iconst (v := (2 : Int32)) hx hb dX11_day_79 rfl ?_
  refine lv_icmp_ge (tgt := 139) hx hb dX11_day_80 (by decide) (fun hc9 => ?_) (fun hc9 => ?_)
  · have hf := it_p hf hc9
    refine lv_iinc (v := (x2 + (1 : Int32))) (lv' := [(2, .int (x2 + (1 : Int32))), (0, .ref (zm 0)), (1, .int x1), (3, .int x3)]) hx hb dX11_day_139 hl (k := 2) rfl rfl (by decide) rfl (fun ls hl => ?_)
    refine lv_goto (tgt := 12) hx hb dX11_day_142 (by decide) ?_
    exact hr12 _ _ _ _ _ _ hf hw (lv_sub hl [1, 2, 0] rfl)
  · have hf := it_n hf hc9
    refine lv_aload_n hx hb dX11_day_83 rfl (lv_at hl 0 rfl) ?_
    refine r_get C hw 0 rfl cf_X11 8 (by decide) q4_181 (v := .ref (zm 5)) rfl dX11_day_84 ?_
    refine lv_iconst (v := (4 : Int32)) hx hb dX11_day_87 rfl ?_
    refine lv_aload_n hx hb dX11_day_88 rfl (lv_at hl 0 rfl) ?_
    refine lv_iload_n hx hb dX11_day_89 rfl (lv_at hl 3 rfl) ?_
    refine lv_iload_n hx hb dX11_day_90 rfl (lv_at hl 1 rfl) ?_
    refine lv_iload_n hx hb dX11_day_91 rfl (lv_at hl 2 rfl) ?_
    obtain ⟨r1, hc2, hf⟩ := bd1_e hf
    refine r_callVi0 C hw (c_X11_does (zm := zm) hc2) md_X11_does [0, 1, 2, 3, 4, 5, 6, 7, 8, 9, 10, 11, 12, 13, 14, 15, 16, 17, 18] rfl rfl q5_139 0 rfl cf_X11.1 ⟨Nat.le_of_ble_eq_true rfl, Nat.le_of_ble_eq_true rfl⟩ ⟨Nat.zero_le _, Nat.zero_le _⟩ hl.1 rfl rfl (Nat.le_of_ble_eq_true rfl) dX11_day_92 (fun H locs hw => ?_)
    refine lv_imul hx hb dX11_day_95 ?_
    refine lv_iconst (v := (1 : Int32)) hx hb dX11_day_96 rfl ?_
    refine lv_iadd hx hb dX11_day_97 ?_
    refine lv_iload_n hx hb dX11_day_98 rfl (lv_at hl 3 rfl) ?_
    refine lv_iadd hx hb dX11_day_99 ?_
    obtain ⟨hi3, hf⟩ := it_g hf
    refine r_iald C hw 5 (f := (Tm 5)) rfl hi3 dX11_day_100 ?_
    refine lv_istore (lv' := [(4, .int (Tm 5 ((((4 : Int32) * r1) + (1 : Int32)) + x3).toNatClampNeg)), (0, .ref (zm 0)), (1, .int x1), (2, .int x2), (3, .int x3)]) hx hb dX11_day_101 hl (by decide) rfl (fun ls hl => ?_)
    refine lv_aload_n hx hb dX11_day_103 rfl (lv_at hl 1 rfl) ?_
    refine r_get C hw 0 rfl cf_X11 0 (by decide) q4_173 (v := .ref (zm 1)) rfl dX11_day_104 ?_
    refine lv_iconst (v := (1 : Int32)) hx hb dX11_day_107 rfl ?_
    refine lv_iload_n hx hb dX11_day_108 rfl (lv_at hl 4 rfl) ?_
    refine lv_iadd hx hb dX11_day_109 ?_
    refine lv_dup2_11 hx hb dX11_day_110 rfl rfl ?_
    obtain ⟨hi4, hf⟩ := it_g hf
    refine r_iald C hw 1 (f := (Tm 1)) rfl hi4 dX11_day_111 ?_
    refine lv_aload_n hx hb dX11_day_112 rfl (lv_at hl 1 rfl) ?_
    refine r_get C hw 0 rfl cf_X11 9 (by decide) q4_182 (v := .ref (zm 6)) rfl dX11_day_113 ?_
    refine lv_iload_n hx hb dX11_day_116 rfl (lv_at hl 2 rfl) ?_
    obtain ⟨hi5, hf⟩ := it_g hf
    refine r_iald C hw 6 (f := (Tm 6)) rfl hi5 dX11_day_117 ?_
    refine lv_iconst (v := (2 : Int32)) hx hb dX11_day_118 rfl ?_
    refine lv_icmp_ne (tgt := 129) hx hb dX11_day_119 (by decide) (fun hc8 => ?_) (fun hc8 => ?_)
    · have hf := it_n hf hc8
      refine lv_iload hx hb dX11_day_129 (lv_at hl 0 rfl) ?_
      refine lv_iadd hx hb dX11_day_131 ?_
      obtain ⟨hi6, hf⟩ := it_g hf
      refine r_iast C hw 1 (f := (Tm 1)) rfl hi6 (ws' := (gcM g zm (u2 Tm 1 ((1 : Int32) + x3).toNatClampNeg ((Tm 1 ((1 : Int32) + x3).toNatClampNeg) + (Tm 5 ((((4 : Int32) * r1) + (1 : Int32)) + x3).toNatClampNeg))))) gcM_a1 dX11_day_132 (fun H locs hw => ?_)
      refine lv_iinc (v := (x3 + (1 : Int32))) (lv' := [(3, .int (x3 + (1 : Int32))), (4, .int (Tm 5 ((((4 : Int32) * r1) + (1 : Int32)) + x3).toNatClampNeg)), (0, .ref (zm 0)), (1, .int x1), (2, .int x2)]) hx hb dX11_day_133 hl (k := 4) rfl rfl (by decide) rfl (fun ls hl => ?_)
      refine lv_goto (tgt := 78) hx hb dX11_day_136 (by decide) ?_
      exact hr78 _ _ _ _ _ _ _ hf hw (lv_sub hl [2, 3, 4, 0] rfl)
    · have hf := it_p hf hc8
      refine lv_iload hx hb dX11_day_122 (lv_at hl 0 rfl) ?_
      refine lv_iconst (v := (2 : Int32)) hx hb dX11_day_124 rfl ?_
      refine lv_idiv hx hb dX11_day_125 (by decide) ?_
      refine lv_goto (tgt := 131) hx hb dX11_day_126 (by decide) ?_
      refine lv_iadd hx hb dX11_day_131 ?_
      obtain ⟨hi7, hf⟩ := it_g hf
      refine r_iast C hw 1 (f := (Tm 1)) rfl hi7 (ws' := (gcM g zm (u2 Tm 1 ((1 : Int32) + x3).toNatClampNeg ((Tm 1 ((1 : Int32) + x3).toNatClampNeg) + ((Tm 5 ((((4 : Int32) * r1) + (1 : Int32)) + x3).toNatClampNeg) / (2 : Int32)))))) gcM_a1 dX11_day_132 (fun H locs hw => ?_)
      refine lv_iinc (v := (x3 + (1 : Int32))) (lv' := [(3, .int (x3 + (1 : Int32))), (4, .int (Tm 5 ((((4 : Int32) * r1) + (1 : Int32)) + x3).toNatClampNeg)), (0, .ref (zm 0)), (1, .int x1), (2, .int x2)]) hx hb dX11_day_133 hl (k := 4) rfl rfl (by decide) rfl (fun ls hl => ?_)
      refine lv_goto (tgt := 78) hx hb dX11_day_136 (by decide) ?_
      exact hr78 _ _ _ _ _ _ _ hf hw (lv_sub hl [2, 3, 4, 0] rfl)
set_option maxRecDepth 100000 in
set_option maxHeartbeats 4000000 in
theorem klX11_day_78 {l : Launch} {g : evG} {p : Program} {e : Env} {s : State} {m : MethodId} {args : Array Value} {below : List Frame} {meth : Method} {c : Code} {A : Nat → Prop} {zm : Nat → Nat} {om : Gp} (C : ctx g p s m args meth c RX11 cX11_day 5 none A) {rec2 : Gp → Int32 → Option (Gp)} {rec12 : Gp → Int32 → Int32 → Option (Gp)} (hr2 : ∀ (Tm : Gp) (x1 : Int32) (H : Heap) (locs : List Loc) (ls : Array Slot), rec2 Tm x1 = some (om) → wl g A s.heap (gcM g zm Tm) H locs → lv_has ls 5 [(0, .ref (zm 0)), (1, .int x1)] → W p l e (rmK 4 94) s m args below meth c H locs 0 0 (MQ below (Qv g A (gcM g zm om)) args s 0 0 A) (F0 m 2 ls [])) (hr12 : ∀ (Tm : Gp) (x1 : Int32) (x2 : Int32) (H : Heap) (locs : List Loc) (ls : Array Slot), rec12 Tm x1 x2 = some (om) → wl g A s.heap (gcM g zm Tm) H locs → lv_has ls 5 [(0, .ref (zm 0)), (1, .int x1), (2, .int x2)] → W p l e (rmK 4 94) s m args below meth c H locs 0 0 (MQ below (Qv g A (gcM g zm om)) args s 0 0 A) (F0 m 12 ls [])) : ∀ (n : Nat) (Tm : Gp) (x1 : Int32) (x2 : Int32) (x3 : Int32) (H : Heap) (locs : List Loc) (ls : Array Slot), lX11_day_78 rec2 rec12 n Tm x1 x2 x3 = some (om) → wl g A s.heap (gcM g zm Tm) H locs → lv_has ls 5 [(0, .ref (zm 0)), (1, .int x1), (2, .int x2), (3, .int x3)] → W p l e (rmK 4 94) s m args below meth c H locs 0 0 (MQ below (Qv g A (gcM g zm om)) args s 0 0 A) (F0 m 78 ls []) := by
  intro n
  induction n with
  | zero => intro _ _ _ _ _ _ _ hf; exact no_f hf
  | succ n ih => intro _ _ _ _ _ _ _ hf hw hl; exact kX11_day_78 (zm := zm) (om := om) C hr2 hr12 (rec78 := lX11_day_78 rec2 rec12 n) ih hf hw hl
set_option maxRecDepth 100000 in
set_option maxHeartbeats 4000000 in
theorem kX11_day_70 {l : Launch} {g : evG} {p : Program} {e : Env} {s : State} {m : MethodId} {args : Array Value} {below : List Frame} {meth : Method} {c : Code} {A : Nat → Prop} {zm : Nat → Nat} {om : Gp} (C : ctx g p s m args meth c RX11 cX11_day 5 none A) {rec2 : Gp → Int32 → Option (Gp)} {rec12 : Gp → Int32 → Int32 → Option (Gp)} (hr2 : ∀ (Tm : Gp) (x1 : Int32) (H : Heap) (locs : List Loc) (ls : Array Slot), rec2 Tm x1 = some (om) → wl g A s.heap (gcM g zm Tm) H locs → lv_has ls 5 [(0, .ref (zm 0)), (1, .int x1)] → W p l e (rmK 4 94) s m args below meth c H locs 0 0 (MQ below (Qv g A (gcM g zm om)) args s 0 0 A) (F0 m 2 ls [])) (hr12 : ∀ (Tm : Gp) (x1 : Int32) (x2 : Int32) (H : Heap) (locs : List Loc) (ls : Array Slot), rec12 Tm x1 x2 = some (om) → wl g A s.heap (gcM g zm Tm) H locs → lv_has ls 5 [(0, .ref (zm 0)), (1, .int x1), (2, .int x2)] → W p l e (rmK 4 94) s m args below meth c H locs 0 0 (MQ below (Qv g A (gcM g zm om)) args s 0 0 A) (F0 m 12 ls [])) {Tm : Gp} {x1 : Int32} {x2 : Int32} {H : Heap} {locs : List Loc} {ls : Array Slot} (hf : fX11_day_70 rec2 rec12 Tm x1 x2 = some (om)) (hw : wl g A s.heap (gcM g zm Tm) H locs) (hl : lv_has ls 5 [(0, .ref (zm 0)), (1, .int x1), (2, .int x2)]) : W p l e (rmK 4 94) s m args below meth c H locs 0 0 (MQ below (Qv g A (gcM g zm om)) args s 0 0 A) (F0 m 70 ls []) := by
  obtain ⟨hx, hb, hml, hown, hts, -⟩ := id C
  unfold fX11_day_70 at hf
  refine lv_aload_n hx hb dX11_day_70 rfl (lv_at hl 0 rfl) ?_
  refine lv_iconst (v := (1 : Int32)) hx hb dX11_day_71 rfl ?_
  refine lv_iload_n hx hb dX11_day_72 rfl (lv_at hl 1 rfl) ?_
  obtain ⟨Tm_1, hc2, hf⟩ := bd1_e hf
  refine r_callVvF C hw (c_X11_charge (zm := zm) hc2) md_X11_charge [0, 1, 2, 3, 4, 5, 6, 7, 8, 9, 10, 11, 12, 13, 14, 15, 16, 17, 18] rfl rfl rfl rfl q5_155 0 rfl cf_X11.1 ⟨Nat.le_of_ble_eq_true rfl, Nat.le_of_ble_eq_true rfl⟩ ⟨Nat.zero_le _, Nat.zero_le _⟩ hl.1 rfl rfl (Nat.le_of_ble_eq_true rfl) dX11_day_73 (fun H locs hw => ?_)
  refine lv_iconst (v := (0 : Int32)) hx hb dX11_day_76 rfl ?_
  refine lv_istore_n (lv' := [(3, .int (0 : Int32)), (0, .ref (zm 0)), (1, .int x1), (2, .int x2)]) hx hb dX11_day_77 rfl hl (by decide) rfl (fun ls hl => ?_)
  exact klX11_day_78 (zm := zm) (om := om) C hr2 hr12 fu _ _ _ _ _ _ _ hf hw (lv_sub hl [1, 2, 3, 0] rfl)
set_option maxRecDepth 100000 in
set_option maxHeartbeats 4000000 in
theorem kX11_day_61 {l : Launch} {g : evG} {p : Program} {e : Env} {s : State} {m : MethodId} {args : Array Value} {below : List Frame} {meth : Method} {c : Code} {A : Nat → Prop} {zm : Nat → Nat} {om : Gp} (C : ctx g p s m args meth c RX11 cX11_day 5 none A) {rec2 : Gp → Int32 → Option (Gp)} {rec12 : Gp → Int32 → Int32 → Option (Gp)} (hr2 : ∀ (Tm : Gp) (x1 : Int32) (H : Heap) (locs : List Loc) (ls : Array Slot), rec2 Tm x1 = some (om) → wl g A s.heap (gcM g zm Tm) H locs → lv_has ls 5 [(0, .ref (zm 0)), (1, .int x1)] → W p l e (rmK 4 94) s m args below meth c H locs 0 0 (MQ below (Qv g A (gcM g zm om)) args s 0 0 A) (F0 m 2 ls [])) (hr12 : ∀ (Tm : Gp) (x1 : Int32) (x2 : Int32) (H : Heap) (locs : List Loc) (ls : Array Slot), rec12 Tm x1 x2 = some (om) → wl g A s.heap (gcM g zm Tm) H locs → lv_has ls 5 [(0, .ref (zm 0)), (1, .int x1), (2, .int x2)] → W p l e (rmK 4 94) s m args below meth c H locs 0 0 (MQ below (Qv g A (gcM g zm om)) args s 0 0 A) (F0 m 12 ls [])) {Tm : Gp} {x1 : Int32} {x2 : Int32} {x3 : Int32} {x4 : Int32} {H : Heap} {locs : List Loc} {ls : Array Slot} (hf : fX11_day_61 rec2 rec12 Tm x1 x2 x3 x4 = some (om)) (hw : wl g A s.heap (gcM g zm Tm) H locs) (hl : lv_has ls 5 [(0, .ref (zm 0)), (1, .int x1), (2, .int x2), (3, .int x3), (4, .int x4)]) : W p l e (rmK 4 94) s m args below meth c H locs 0 0 (MQ below (Qv g A (gcM g zm om)) args s 0 0 A) (F0 m 61 ls []) := by
  obtain ⟨hx, hb, hml, hown, hts, -⟩ := id C
  unfold fX11_day_61 at hf
  refine lv_iload hx hb dX11_day_61 (lv_at hl 4 rfl) ?_
  refine lv_if_ne (tgt := 70) hx hb dX11_day_63 (by decide) (fun hc2 => ?_) (fun hc2 => ?_)
  · have hf := it_n hf hc2
    exact kX11_day_70 (zm := zm) (om := om) C hr2 hr12 hf hw (lv_sub hl [0, 1, 2] rfl)
  · have hf := it_p hf hc2
    refine lv_iload_n hx hb dX11_day_66 rfl (lv_at hl 3 rfl) ?_
    refine lv_if_ne (tgt := 76) hx hb dX11_day_67 (by decide) (fun hc1 => ?_) (fun hc1 => ?_)
    · have hf := it_n hf hc1
      refine lv_iconst (v := (0 : Int32)) hx hb dX11_day_76 rfl ?_
      refine lv_istore_n (lv' := [(3, .int (0 : Int32)), (0, .ref (zm 0)), (1, .int x1), (2, .int x2), (4, .int x4)]) hx hb dX11_day_77 rfl hl (by decide) rfl (fun ls hl => ?_)
      exact klX11_day_78 (zm := zm) (om := om) C hr2 hr12 fu _ _ _ _ _ _ _ hf hw (lv_sub hl [1, 2, 3, 0] rfl)
    · have hf := it_p hf hc1
      exact kX11_day_70 (zm := zm) (om := om) C hr2 hr12 hf hw (lv_sub hl [0, 1, 2] rfl)
set_option maxRecDepth 100000 in
set_option maxHeartbeats 4000000 in
theorem kX11_day_55 {l : Launch} {g : evG} {p : Program} {e : Env} {s : State} {m : MethodId} {args : Array Value} {below : List Frame} {meth : Method} {c : Code} {A : Nat → Prop} {zm : Nat → Nat} {om : Gp} (C : ctx g p s m args meth c RX11 cX11_day 5 none A) {rec2 : Gp → Int32 → Option (Gp)} {rec12 : Gp → Int32 → Int32 → Option (Gp)} (hr2 : ∀ (Tm : Gp) (x1 : Int32) (H : Heap) (locs : List Loc) (ls : Array Slot), rec2 Tm x1 = some (om) → wl g A s.heap (gcM g zm Tm) H locs → lv_has ls 5 [(0, .ref (zm 0)), (1, .int x1)] → W p l e (rmK 4 94) s m args below meth c H locs 0 0 (MQ below (Qv g A (gcM g zm om)) args s 0 0 A) (F0 m 2 ls [])) (hr12 : ∀ (Tm : Gp) (x1 : Int32) (x2 : Int32) (H : Heap) (locs : List Loc) (ls : Array Slot), rec12 Tm x1 x2 = some (om) → wl g A s.heap (gcM g zm Tm) H locs → lv_has ls 5 [(0, .ref (zm 0)), (1, .int x1), (2, .int x2)] → W p l e (rmK 4 94) s m args below meth c H locs 0 0 (MQ below (Qv g A (gcM g zm om)) args s 0 0 A) (F0 m 12 ls [])) {Tm : Gp} {x1 : Int32} {x2 : Int32} {x3 : Int32} {x4 : Int32} {H : Heap} {locs : List Loc} {ls : Array Slot} (hf : fX11_day_55 rec2 rec12 Tm x1 x2 x3 x4 = some (om)) (hw : wl g A s.heap (gcM g zm Tm) H locs) (hl : lv_has ls 5 [(0, .ref (zm 0)), (1, .int x1), (2, .int x2), (3, .int x3), (4, .int x4)]) : W p l e (rmK 4 94) s m args below meth c H locs 0 0 (MQ below (Qv g A (gcM g zm om)) args s 0 0 A) (F0 m 55 ls []) := by
  obtain ⟨hx, hb, hml, hown, hts, -⟩ := id C
  unfold fX11_day_55 at hf
  refine lv_aload_n hx hb dX11_day_55 rfl (lv_at hl 0 rfl) ?_
  refine lv_iconst (v := (0 : Int32)) hx hb dX11_day_56 rfl ?_
  refine lv_iload_n hx hb dX11_day_57 rfl (lv_at hl 1 rfl) ?_
  obtain ⟨Tm_1, hc2, hf⟩ := bd1_e hf
  refine r_callVvF C hw (c_X11_charge (zm := zm) hc2) md_X11_charge [0, 1, 2, 3, 4, 5, 6, 7, 8, 9, 10, 11, 12, 13, 14, 15, 16, 17, 18] rfl rfl rfl rfl q5_155 0 rfl cf_X11.1 ⟨Nat.le_of_ble_eq_true rfl, Nat.le_of_ble_eq_true rfl⟩ ⟨Nat.zero_le _, Nat.zero_le _⟩ hl.1 rfl rfl (Nat.le_of_ble_eq_true rfl) dX11_day_58 (fun H locs hw => ?_)
  exact kX11_day_61 (zm := zm) (om := om) C hr2 hr12 hf hw (lv_sub hl [0, 1, 2, 3, 4] rfl)
set_option maxRecDepth 100000 in
set_option maxHeartbeats 4000000 in
theorem kX11_day_12 {l : Launch} {g : evG} {p : Program} {e : Env} {s : State} {m : MethodId} {args : Array Value} {below : List Frame} {meth : Method} {c : Code} {A : Nat → Prop} {zm : Nat → Nat} {om : Gp} (C : ctx g p s m args meth c RX11 cX11_day 5 none A) {rec2 : Gp → Int32 → Option (Gp)} {rec12 : Gp → Int32 → Int32 → Option (Gp)} (hr2 : ∀ (Tm : Gp) (x1 : Int32) (H : Heap) (locs : List Loc) (ls : Array Slot), rec2 Tm x1 = some (om) → wl g A s.heap (gcM g zm Tm) H locs → lv_has ls 5 [(0, .ref (zm 0)), (1, .int x1)] → W p l e (rmK 4 94) s m args below meth c H locs 0 0 (MQ below (Qv g A (gcM g zm om)) args s 0 0 A) (F0 m 2 ls [])) (hr12 : ∀ (Tm : Gp) (x1 : Int32) (x2 : Int32) (H : Heap) (locs : List Loc) (ls : Array Slot), rec12 Tm x1 x2 = some (om) → wl g A s.heap (gcM g zm Tm) H locs → lv_has ls 5 [(0, .ref (zm 0)), (1, .int x1), (2, .int x2)] → W p l e (rmK 4 94) s m args below meth c H locs 0 0 (MQ below (Qv g A (gcM g zm om)) args s 0 0 A) (F0 m 12 ls [])) {Tm : Gp} {x1 : Int32} {x2 : Int32} {H : Heap} {locs : List Loc} {ls : Array Slot} (hf : fX11_day_12 rec2 rec12 Tm x1 x2 = some (om)) (hw : wl g A s.heap (gcM g zm Tm) H locs) (hl : lv_has ls 5 [(0, .ref (zm 0)), (1, .int x1), (2, .int x2)]) : W p l e (rmK 4 94) s m args below meth c H locs 0 0 (MQ below (Qv g A (gcM g zm om)) args s 0 0 A) (F0 m 12 ls []) := by
  obtain ⟨hx, hb, hml, hown, hts, -⟩ := id C
  unfold fX11_day_12 at hf
  refine lv_iload_n hx hb dX11_day_12 rfl (lv_at hl 2 rfl) ?_
  refine lv_aload_n hx hb dX11_day_13 rfl (lv_at hl 0 rfl) ?_
  refine r_get C hw 0 rfl cf_X11 7 (by decide) q4_180 (v := .int (Tm 0 7)) rfl dX11_day_14 ?_
  refine lv_icmp_ge (tgt := 145) hx hb dX11_day_17 (by decide) (fun hc10 => ?_) (fun hc10 => ?_)
  · have hf := it_p hf hc10
    refine lv_aload_n hx hb dX11_day_145 rfl (lv_at hl 0 rfl) ?_
    refine r_get C hw 0 rfl cf_X11 0 (by decide) q4_173 (v := .ref (zm 1)) rfl dX11_day_146 ?_
    refine lv_iconst (v := (1 : Int32)) hx hb dX11_day_149 rfl ?_
    refine lv_dup2_11 hx hb dX11_day_150 rfl rfl ?_
    refine r_iald C hw 1 (f := (Tm 1)) rfl (by decide) dX11_day_151 ?_
    refine lv_aload_n hx hb dX11_day_152 rfl (lv_at hl 0 rfl) ?_
    refine r_get C hw 0 rfl cf_X11 11 (by decide) q4_184 (v := .int (Tm 0 11)) rfl dX11_day_153 ?_
    refine lv_isub hx hb dX11_day_156 ?_
    refine r_iast C hw 1 (f := (Tm 1)) rfl (by decide) (ws' := (gcM g zm (u2 Tm 1 (1 : Int32).toNatClampNeg ((Tm 1 (1 : Int32).toNatClampNeg) - (Tm 0 11))))) gcM_a1 dX11_day_157 (fun H locs hw => ?_)
    refine lv_aload_n hx hb dX11_day_158 rfl (lv_at hl 0 rfl) ?_
    refine r_get C hw 0 rfl cf_X11 0 (by decide) q4_173 (v := .ref (zm 1)) rfl dX11_day_159 ?_
    refine lv_iconst (v := (2 : Int32)) hx hb dX11_day_162 rfl ?_
    refine lv_dup2_11 hx hb dX11_day_163 rfl rfl ?_
    refine r_iald C hw 1 (f := ((u2 Tm 1 (1 : Int32).toNatClampNeg ((Tm 1 (1 : Int32).toNatClampNeg) - (Tm 0 11))) 1)) rfl (by decide) dX11_day_164 ?_
    refine lv_aload_n hx hb dX11_day_165 rfl (lv_at hl 0 rfl) ?_
    refine r_get C hw 0 rfl cf_X11 11 (by decide) q4_184 (v := .int (Tm 0 11)) rfl dX11_day_166 ?_
    refine lv_isub hx hb dX11_day_169 ?_
    refine r_iast C hw 1 (f := ((u2 Tm 1 (1 : Int32).toNatClampNeg ((Tm 1 (1 : Int32).toNatClampNeg) - (Tm 0 11))) 1)) rfl (by decide) (ws' := (gcM g zm (u2 (u2 Tm 1 (1 : Int32).toNatClampNeg ((Tm 1 (1 : Int32).toNatClampNeg) - (Tm 0 11))) 1 (2 : Int32).toNatClampNeg (((u2 Tm 1 (1 : Int32).toNatClampNeg ((Tm 1 (1 : Int32).toNatClampNeg) - (Tm 0 11))) 1 (2 : Int32).toNatClampNeg) - (Tm 0 11))))) gcM_a1 dX11_day_170 (fun H locs hw => ?_)
    refine lv_iinc (v := (x1 + (1 : Int32))) (lv' := [(1, .int (x1 + (1 : Int32))), (0, .ref (zm 0)), (2, .int x2)]) hx hb dX11_day_171 hl (k := 1) rfl rfl (by decide) rfl (fun ls hl => ?_)
    refine lv_goto (tgt := 2) hx hb dX11_day_174 (by decide) ?_
    exact hr2 _ _ _ _ _ hf hw (lv_sub hl [1, 0] rfl)
  · have hf := it_n hf hc10
    refine lv_aload_n hx hb dX11_day_20 rfl (lv_at hl 0 rfl) ?_
    refine lv_iload_n hx hb dX11_day_21 rfl (lv_at hl 1 rfl) ?_
    refine lv_iload_n hx hb dX11_day_22 rfl (lv_at hl 2 rfl) ?_
    obtain ⟨r1, hc2, hf⟩ := bd1_e hf
    refine r_callVi0 C hw (c_X11_isBreach (zm := zm) hc2) md_X11_isBreach [0, 1, 2, 3, 4, 5, 6, 7, 8, 9, 10, 11, 12, 13, 14, 15, 16, 17, 18] rfl rfl q5_135 0 rfl cf_X11.1 ⟨Nat.le_of_ble_eq_true rfl, Nat.le_of_ble_eq_true rfl⟩ ⟨Nat.zero_le _, Nat.zero_le _⟩ hl.1 rfl rfl (Nat.le_of_ble_eq_true rfl) dX11_day_23 (fun H locs hw => ?_)
    refine lv_if_eq (tgt := 76) hx hb dX11_day_26 (by decide) (fun hc9 => ?_) (fun hc9 => ?_)
    · have hf := it_p hf hc9
      refine lv_iconst (v := (0 : Int32)) hx hb dX11_day_76 rfl ?_
      refine lv_istore_n (lv' := [(3, .int (0 : Int32)), (0, .ref (zm 0)), (1, .int x1), (2, .int x2)]) hx hb dX11_day_77 rfl hl (by decide) rfl (fun ls hl => ?_)
      exact klX11_day_78 (zm := zm) (om := om) C hr2 hr12 fu _ _ _ _ _ _ _ hf hw (lv_sub hl [1, 2, 3, 0] rfl)
    · have hf := it_n hf hc9
      refine lv_aload_n hx hb dX11_day_29 rfl (lv_at hl 0 rfl) ?_
      refine lv_iconst (v := (0 : Int32)) hx hb dX11_day_30 rfl ?_
      refine lv_iload_n hx hb dX11_day_31 rfl (lv_at hl 1 rfl) ?_
      refine lv_iload_n hx hb dX11_day_32 rfl (lv_at hl 2 rfl) ?_
      obtain ⟨r3, hc4, hf⟩ := bd1_e hf
      refine r_callVi0 C hw (c_X11_strays (zm := zm) hc4) md_X11_strays [0, 1, 2, 3, 4, 5, 6, 7, 8, 9, 10, 11, 12, 13, 14, 15, 16, 17, 18] rfl rfl q5_151 0 rfl cf_X11.1 ⟨Nat.le_of_ble_eq_true rfl, Nat.le_of_ble_eq_true rfl⟩ ⟨Nat.zero_le _, Nat.zero_le _⟩ hl.1 rfl rfl (Nat.le_of_ble_eq_true rfl) dX11_day_33 (fun H locs hw => ?_)
      refine lv_istore_n (lv' := [(3, .int r3), (0, .ref (zm 0)), (1, .int x1), (2, .int x2)]) hx hb dX11_day_36 rfl hl (by decide) rfl (fun ls hl => ?_)
      refine lv_aload_n hx hb dX11_day_37 rfl (lv_at hl 1 rfl) ?_
      refine lv_iconst (v := (1 : Int32)) hx hb dX11_day_38 rfl ?_
      refine lv_iload_n hx hb dX11_day_39 rfl (lv_at hl 2 rfl) ?_
      refine lv_iload_n hx hb dX11_day_40 rfl (lv_at hl 3 rfl) ?_
      obtain ⟨r5, hc6, hf⟩ := bd1_e hf
      refine r_callVi0 C hw (c_X11_strays (zm := zm) hc6) md_X11_strays [0, 1, 2, 3, 4, 5, 6, 7, 8, 9, 10, 11, 12, 13, 14, 15, 16, 17, 18] rfl rfl q5_151 0 rfl cf_X11.1 ⟨Nat.le_of_ble_eq_true rfl, Nat.le_of_ble_eq_true rfl⟩ ⟨Nat.zero_le _, Nat.zero_le _⟩ hl.1 rfl rfl (Nat.le_of_ble_eq_true rfl) dX11_day_41 (fun H locs hw => ?_)
      refine lv_istore (lv' := [(4, .int r5), (3, .int r3), (0, .ref (zm 0)), (1, .int x1), (2, .int x2)]) hx hb dX11_day_44 hl (by decide) rfl (fun ls hl => ?_)
      refine lv_iload_n hx hb dX11_day_46 rfl (lv_at hl 1 rfl) ?_
      refine lv_if_ne (tgt := 55) hx hb dX11_day_47 (by decide) (fun hc8 => ?_) (fun hc8 => ?_)
      · have hf := it_n hf hc8
        exact kX11_day_55 (zm := zm) (om := om) C hr2 hr12 hf hw (lv_sub hl [2, 3, 4, 1, 0] rfl)
      · have hf := it_p hf hc8
        refine lv_iload hx hb dX11_day_50 (lv_at hl 0 rfl) ?_
        refine lv_if_ne (tgt := 61) hx hb dX11_day_52 (by decide) (fun hc7 => ?_) (fun hc7 => ?_)
        · have hf := it_n hf hc7
          exact kX11_day_61 (zm := zm) (om := om) C hr2 hr12 hf hw (lv_sub hl [2, 3, 4, 1, 0] rfl)
        · have hf := it_p hf hc7
          exact kX11_day_55 (zm := zm) (om := om) C hr2 hr12 hf hw (lv_sub hl [2, 3, 4, 1, 0] rfl)
set_option maxRecDepth 100000 in
set_option maxHeartbeats 4000000 in
theorem klX11_day_12 {l : Launch} {g : evG} {p : Program} {e : Env} {s : State} {m : MethodId} {args : Array Value} {below : List Frame} {meth : Method} {c : Code} {A : Nat → Prop} {zm : Nat → Nat} {om : Gp} (C : ctx g p s m args meth c RX11 cX11_day 5 none A) {rec2 : Gp → Int32 → Option (Gp)} (hr2 : ∀ (Tm : Gp) (x1 : Int32) (H : Heap) (locs : List Loc) (ls : Array Slot), rec2 Tm x1 = some (om) → wl g A s.heap (gcM g zm Tm) H locs → lv_has ls 5 [(0, .ref (zm 0)), (1, .int x1)] → W p l e (rmK 4 94) s m args below meth c H locs 0 0 (MQ below (Qv g A (gcM g zm om)) args s 0 0 A) (F0 m 2 ls [])) : ∀ (n : Nat) (Tm : Gp) (x1 : Int32) (x2 : Int32) (H : Heap) (locs : List Loc) (ls : Array Slot), lX11_day_12 rec2 n Tm x1 x2 = some (om) → wl g A s.heap (gcM g zm Tm) H locs → lv_has ls 5 [(0, .ref (zm 0)), (1, .int x1), (2, .int x2)] → W p l e (rmK 4 94) s m args below meth c H locs 0 0 (MQ below (Qv g A (gcM g zm om)) args s 0 0 A) (F0 m 12 ls []) := by
  intro n
  induction n with
  | zero => intro _ _ _ _ _ _ hf; exact no_f hf
  | succ n ih => intro _ _ _ _ _ _ hf hw hl; exact kX11_day_12 (zm := zm) (om := om) C hr2 (rec12 := lX11_day_12 rec2 n) ih hf hw hl
set_option maxRecDepth 100000 in
set_option maxHeartbeats 4000000 in
theorem kX11_day_2 {l : Launch} {g : evG} {p : Program} {e : Env} {s : State} {m : MethodId} {args : Array Value} {below : List Frame} {meth : Method} {c : Code} {A : Nat → Prop} {zm : Nat → Nat} {om : Gp} (C : ctx g p s m args meth c RX11 cX11_day 5 none A) {rec2 : Gp → Int32 → Option (Gp)} (hr2 : ∀ (Tm : Gp) (x1 : Int32) (H : Heap) (locs : List Loc) (ls : Array Slot), rec2 Tm x1 = some (om) → wl g A s.heap (gcM g zm Tm) H locs → lv_has ls 5 [(0, .ref (zm 0)), (1, .int x1)] → W p l e (rmK 4 94) s m args below meth c H locs 0 0 (MQ below (Qv g A (gcM g zm om)) args s 0 0 A) (F0 m 2 ls [])) {Tm : Gp} {x1 : Int32} {H : Heap} {locs : List Loc} {ls : Array Slot} (hf : fX11_day_2 rec2 Tm x1 = some (om)) (hw : wl g A s.heap (gcM g zm Tm) H locs) (hl : lv_has ls 5 [(0, .ref (zm 0)), (1, .int x1)]) : W p l e (rmK 4 94) s m args below meth c H locs 0 0 (MQ below (Qv g A (gcM g zm om)) args s 0 0 A) (F0 m 2 ls []) := by
  obtain ⟨hx, hb, hml, hown, hts, -⟩ := id C
  unfold fX11_day_2 at hf
  refine lv_iload_n hx hb dX11_day_2 rfl (lv_at hl 1 rfl) ?_
  refine lv_aload_n hx hb dX11_day_3 rfl (lv_at hl 0 rfl) ?_
  refine r_get C hw 0 rfl cf_X11 6 (by decide) q4_179 (v := .int (Tm 0 6)) rfl dX11_day_4 ?_
  refine lv_icmp_ge (tgt := 177) hx hb dX11_day_7 (by decide) (fun hc1 => ?_) (fun hc1 => ?_)
  · have hf := it_p hf hc1
    refine lv_aload_n hx hb dX11_day_177 rfl (lv_at hl 0 rfl) ?_
    refine r_get C hw 0 rfl cf_X11 0 (by decide) q4_173 (v := .ref (zm 1)) rfl dX11_day_178 ?_
    refine lv_iconst (v := (0 : Int32)) hx hb dX11_day_181 rfl ?_
    refine lv_dup2_11 hx hb dX11_day_182 rfl rfl ?_
    refine r_iald C hw 1 (f := (Tm 1)) rfl (by decide) dX11_day_183 ?_
    refine lv_iconst (v := (1 : Int32)) hx hb dX11_day_184 rfl ?_
    refine lv_iadd hx hb dX11_day_185 ?_
    refine r_iast C hw 1 (f := (Tm 1)) rfl (by decide) (ws' := (gcM g zm (u2 Tm 1 (0 : Int32).toNatClampNeg ((Tm 1 (0 : Int32).toNatClampNeg) + (1 : Int32))))) gcM_a1 dX11_day_186 (fun H locs hw => ?_)
    refine lv_bipush (v := (39 : Int32)) hx hb dX11_day_187 rfl ?_
    refine lv_istore_n (lv' := [(1, .int (39 : Int32)), (0, .ref (zm 0))]) hx hb dX11_day_189 rfl hl (by decide) rfl (fun ls hl => ?_)
    exact klX11_day_190 (zm := zm) (om := om) C fu _ _ _ _ _ hf hw (lv_sub hl [1, 0] rfl)
  · have hf := it_n hf hc1
    refine lv_iconst (v := (0 : Int32)) hx hb dX11_day_10 rfl ?_
    refine lv_istore_n (lv' := [(2, .int (0 : Int32)), (0, .ref (zm 0)), (1, .int x1)]) hx hb dX11_day_11 rfl hl (by decide) rfl (fun ls hl => ?_)
    exact klX11_day_12 (zm := zm) (om := om) C hr2 fu _ _ _ _ _ _ hf hw (lv_sub hl [1, 2, 0] rfl)
set_option maxRecDepth 100000 in
set_option maxHeartbeats 4000000 in
theorem klX11_day_2 {l : Launch} {g : evG} {p : Program} {e : Env} {s : State} {m : MethodId} {args : Array Value} {below : List Frame} {meth : Method} {c : Code} {A : Nat → Prop} {zm : Nat → Nat} {om : Gp} (C : ctx g p s m args meth c RX11 cX11_day 5 none A) : ∀ (n : Nat) (Tm : Gp) (x1 : Int32) (H : Heap) (locs : List Loc) (ls : Array Slot), lX11_day_2 n Tm x1 = some (om) → wl g A s.heap (gcM g zm Tm) H locs → lv_has ls 5 [(0, .ref (zm 0)), (1, .int x1)] → W p l e (rmK 4 94) s m args below meth c H locs 0 0 (MQ below (Qv g A (gcM g zm om)) args s 0 0 A) (F0 m 2 ls []) := by
  intro n
  induction n with
  | zero => intro _ _ _ _ _ hf; exact no_f hf
  | succ n ih => intro _ _ _ _ _ hf hw hl; exact kX11_day_2 (zm := zm) (om := om) C (rec2 := lX11_day_2 n) ih hf hw hl
set_option maxRecDepth 100000 in
set_option maxHeartbeats 4000000 in
theorem c_X11_day {l : Launch} {g : evG} {zm : Nat → Nat} {om : Gp}  {Tm : Gp} (hf : fX11_day Tm = some (om)) : CTv l g yX11_day (Cond.code yX11_day cX11_day 5 none) 4 94 [.ref (zm 0)] (gcM g zm Tm) (gcM g zm om) := by
  refine ct_v rfl (Nat.le_of_ble_eq_true rfl) ?_
  intro p e s m args below meth c A ls C hw hl
  have C : ctx g p s m args meth c RX11 cX11_day 5 none A := C
  have hl : lv_has ls 5 [(0, .ref (zm 0))] := hl
  obtain ⟨hx, hb, hml, hown, hts, -⟩ := id C
  unfold fX11_day at hf
  refine lv_iconst (v := (0 : Int32)) hx hb dX11_day_0 rfl ?_
  refine lv_istore_n (lv' := [(1, .int (0 : Int32)), (0, .ref (zm 0))]) hx hb dX11_day_1 rfl hl (by decide) rfl (fun ls hl => ?_)
  exact klX11_day_2 (zm := zm) (om := om) C fu _ _ _ _ _ hf hw (lv_sub hl [1, 0] rfl)
set_option maxRecDepth 100000 in
set_option maxHeartbeats 4000000 in
theorem kX11_days_17 {l : Launch} {g : evG} {p : Program} {e : Env} {s : State} {m : MethodId} {args : Array Value} {below : List Frame} {meth : Method} {c : Code} {A : Nat → Prop} {zm : Nat → Nat} {r : Int32} {om : Gp} (C : ctx g p s m args meth c RX11 cX11_days 3 (some .int) A) {rec17 : Gp → Int32 → Int32 → Option (Int32 × Gp)} (hr17 : ∀ (Tm : Gp) (x1 : Int32) (x2 : Int32) (H : Heap) (locs : List Loc) (ls : Array Slot), rec17 Tm x1 x2 = some (r, om) → wl g A s.heap (gcM g zm Tm) H locs → lv_has ls 3 [(0, .ref (zm 0)), (1, .int x1), (2, .int x2)] → W p l e (rmK 5 118) s m args below meth c H locs 0 0 (MQ below (Qi g A (gcM g zm om) r) args s 0 0 A) (F0 m 17 ls [])) {Tm : Gp} {x1 : Int32} {x2 : Int32} {H : Heap} {locs : List Loc} {ls : Array Slot} (hf : fX11_days_17 rec17 Tm x1 x2 = some (r, om)) (hw : wl g A s.heap (gcM g zm Tm) H locs) (hl : lv_has ls 3 [(0, .ref (zm 0)), (1, .int x1), (2, .int x2)]) : W p l e (rmK 5 118) s m args below meth c H locs 0 0 (MQ below (Qi g A (gcM g zm om) r) args s 0 0 A) (F0 m 17 ls []) := by
  obtain ⟨hx, hb, hml, hown, hts, -⟩ := id C
  unfold fX11_days_17 at hf
  refine lv_iload_n hx hb dX11_days_17 rfl (lv_at hl 2 rfl) ?_
  refine lv_iload_n hx hb dX11_days_18 rfl (lv_at hl 1 rfl) ?_
  refine lv_icmp_ge (tgt := 32) hx hb dX11_days_19 (by decide) (fun hc3 => ?_) (fun hc3 => ?_)
  · have hf := it_p hf hc3
    refine lv_aload_n hx hb dX11_days_32 rfl (lv_at hl 0 rfl) ?_
    refine r_get C hw 0 rfl cf_X11 0 (by decide) q4_173 (v := .ref (zm 1)) rfl dX11_days_33 ?_
    refine lv_iconst (v := (0 : Int32)) hx hb dX11_days_36 rfl ?_
    refine r_iald C hw 1 (f := (Tm 1)) rfl (by decide) dX11_days_37 ?_
    obtain ⟨rfl, rfl⟩ := so2 hf
    exact r_iret C hw rfl dX11_days_38
  · have hf := it_n hf hc3
    refine lv_aload_n hx hb dX11_days_22 rfl (lv_at hl 0 rfl) ?_
    obtain ⟨Tm_1, hc2, hf⟩ := bd1_e hf
    refine r_callVvF C hw (c_X11_day (zm := zm) hc2) md_X11_day [0, 1, 2, 3, 4, 5, 6, 7, 8, 9, 10, 11, 12, 13, 14, 15, 16, 17, 18] rfl rfl rfl rfl q5_131 0 rfl cf_X11.1 ⟨Nat.le_of_ble_eq_true rfl, Nat.le_of_ble_eq_true rfl⟩ ⟨Nat.zero_le _, Nat.zero_le _⟩ hl.1 rfl rfl (Nat.le_of_ble_eq_true rfl) dX11_days_23 (fun H locs hw => ?_)
    refine lv_iinc (v := (x2 + (1 : Int32))) (lv' := [(2, .int (x2 + (1 : Int32))), (0, .ref (zm 0)), (1, .int x1)]) hx hb dX11_days_26 hl (k := 2) rfl rfl (by decide) rfl (fun ls hl => ?_)
    refine lv_goto (tgt := 17) hx hb dX11_days_29 (by decide) ?_
    exact hr17 _ _ _ _ _ _ hf hw (lv_sub hl [1, 2, 0] rfl)
set_option maxRecDepth 100000 in
set_option maxHeartbeats 4000000 in
theorem klX11_days_17 {l : Launch} {g : evG} {p : Program} {e : Env} {s : State} {m : MethodId} {args : Array Value} {below : List Frame} {meth : Method} {c : Code} {A : Nat → Prop} {zm : Nat → Nat} {r : Int32} {om : Gp} (C : ctx g p s m args meth c RX11 cX11_days 3 (some .int) A) : ∀ (n : Nat) (Tm : Gp) (x1 : Int32) (x2 : Int32) (H : Heap) (locs : List Loc) (ls : Array Slot), lX11_days_17 n Tm x1 x2 = some (r, om) → wl g A s.heap (gcM g zm Tm) H locs → lv_has ls 3 [(0, .ref (zm 0)), (1, .int x1), (2, .int x2)] → W p l e (rmK 5 118) s m args below meth c H locs 0 0 (MQ below (Qi g A (gcM g zm om) r) args s 0 0 A) (F0 m 17 ls []) := by
  intro n
  induction n with
  | zero => intro _ _ _ _ _ _ hf; exact no_f hf
  | succ n ih => intro _ _ _ _ _ _ hf hw hl; exact kX11_days_17 (zm := zm) (r := r) (om := om) C (rec17 := lX11_days_17 n) ih hf hw hl
set_option maxRecDepth 100000 in
set_option maxHeartbeats 4000000 in
theorem c_X11_days {l : Launch} {g : evG} {zm : Nat → Nat} {r : Int32} {om : Gp}  {Tm : Gp} {x1 : Int32} (hf : fX11_days Tm x1 = some (r, om)) : CTi l g yX11_days (Cond.code yX11_days cX11_days 3 (some .int)) 5 118 [.ref (zm 0), .int x1] (gcM g zm Tm) (gcM g zm om) r := by
  refine ct_i rfl (Nat.le_of_ble_eq_true rfl) ?_
  intro p e s m args below meth c A ls C hw hl
  have C : ctx g p s m args meth c RX11 cX11_days 3 (some .int) A := C
  have hl : lv_has ls 3 [(0, .ref (zm 0)), (1, .int x1)] := hl
  obtain ⟨hx, hb, hml, hown, hts, -⟩ := id C
  unfold fX11_days at hf
  refine lv_iload_n hx hb dX11_days_0 rfl (lv_at hl 1 rfl) ?_
  refine lv_i2l hx hb dX11_days_1 rfl ?_
  refine lv_lconst (v := (1 : Int64)) hx hb dX11_days_2 rfl ?_
  refine lv_ldc2 (v := (99 : Int64)) hx hb hown (hts _ q5_130) dX11_days_3 ?_
  obtain ⟨r1, hc2, hf⟩ := bd1_e hf
  refine r_callSi0 C hw (c_X11_in hc2) md_X11_in [] rfl rfl q5_32 ⟨Nat.le_of_ble_eq_true rfl, Nat.le_of_ble_eq_true rfl⟩ ⟨Nat.zero_le _, Nat.zero_le _⟩ hl.1 rfl rfl (Nat.le_of_ble_eq_true rfl) dX11_days_6 (fun H locs hw => ?_)
  refine lv_if_ne (tgt := 15) hx hb dX11_days_9 (by decide) (fun hc3 => ?_) (fun hc3 => ?_)
  · have hf := it_n hf hc3
    refine lv_iconst (v := (0 : Int32)) hx hb dX11_days_15 rfl ?_
    refine lv_istore_n (lv' := [(2, .int (0 : Int32)), (0, .ref (zm 0)), (1, .int x1)]) hx hb dX11_days_16 rfl hl (by decide) rfl (fun ls hl => ?_)
    exact klX11_days_17 (zm := zm) (r := r) (om := om) C fu _ _ _ _ _ _ hf hw (lv_sub hl [1, 2, 0] rfl)
  · have hf := it_p hf hc3
    refine lv_bipush (v := (-3 : Int32)) hx hb dX11_days_12 rfl ?_
    obtain ⟨rfl, rfl⟩ := so2 hf
    exact r_iret C hw rfl dX11_days_14
set_option maxRecDepth 100000 in
set_option maxHeartbeats 4000000 in
theorem c_X11_person {l : Launch} {g : evG} {zm : Nat → Nat} {r : Int32}  {Tm : Gp} {x1 : Int32} {x2 : Int32} {x3 : Int32} (hf : fX11_person Tm x1 x2 x3 = some (r)) : CTi l g yX11_person (Cond.code yX11_person cX11_person 4 (some .int)) 3 71 [.ref (zm 0), .int x1, .int x2, .int x3] (gcM g zm Tm) (gcM g zm Tm) r := by
  refine ct_i rfl (Nat.le_of_ble_eq_true rfl) ?_
  intro p e s m args below meth c A ls C hw hl
  have C : ctx g p s m args meth c RX11 cX11_person 4 (some .int) A := C
  have hl : lv_has ls 4 [(0, .ref (zm 0)), (1, .int x1), (2, .int x2), (3, .int x3)] := hl
  obtain ⟨hx, hb, hml, hown, hts, -⟩ := id C
  unfold fX11_person at hf
  refine lv_iload_n hx hb dX11_person_0 rfl (lv_at hl 1 rfl) ?_
  obtain ⟨r1, hc2, hf⟩ := bd1_e hf
  refine r_callSi0 C hw (c_X11_isValley hc2) md_X11_isValley [] rfl rfl q5_107 ⟨Nat.le_of_ble_eq_true rfl, Nat.le_of_ble_eq_true rfl⟩ ⟨Nat.zero_le _, Nat.zero_le _⟩ hl.1 rfl rfl (Nat.le_of_ble_eq_true rfl) dX11_person_1 (fun H locs hw => ?_)
  refine lv_if_eq (tgt := 15) hx hb dX11_person_4 (by decide) (fun hc15 => ?_) (fun hc15 => ?_)
  · have hf := it_p hf hc15
    refine lv_bipush (v := (-2 : Int32)) hx hb dX11_person_15 rfl ?_
    obtain rfl := so1 hf
    exact r_iret C hw rfl dX11_person_17
  · have hf := it_n hf hc15
    refine lv_aload_n hx hb dX11_person_7 rfl (lv_at hl 0 rfl) ?_
    refine lv_iload_n hx hb dX11_person_8 rfl (lv_at hl 2 rfl) ?_
    obtain ⟨r3, hc4, hf⟩ := bd1_e hf
    refine r_callVi0 C hw (c_X11_isPair (zm := zm) hc4) md_X11_isPair [0, 1, 2, 3, 4, 5, 6, 7, 8, 9, 10, 11, 12, 13, 14, 15, 16, 17, 18] rfl rfl q5_110 0 rfl cf_X11.1 ⟨Nat.le_of_ble_eq_true rfl, Nat.le_of_ble_eq_true rfl⟩ ⟨Nat.zero_le _, Nat.zero_le _⟩ hl.1 rfl rfl (Nat.le_of_ble_eq_true rfl) dX11_person_9 (fun H locs hw => ?_)
    refine lv_if_ne (tgt := 18) hx hb dX11_person_12 (by decide) (fun hc14 => ?_) (fun hc14 => ?_)
    · have hf := it_n hf hc14
      refine lv_iload_n hx hb dX11_person_18 rfl (lv_at hl 3 rfl) ?_
      refine lv_if_ne (tgt := 38) hx hb dX11_person_19 (by decide) (fun hc13 => ?_) (fun hc13 => ?_)
      · have hf := it_n hf hc13
        refine lv_iload_n hx hb dX11_person_38 rfl (lv_at hl 3 rfl) ?_
        refine lv_iconst (v := (1 : Int32)) hx hb dX11_person_39 rfl ?_
        refine lv_icmp_ne (tgt := 60) hx hb dX11_person_40 (by decide) (fun hc11 => ?_) (fun hc11 => ?_)
        · have hf := it_n hf hc11
          refine lv_iload_n hx hb dX11_person_60 rfl (lv_at hl 3 rfl) ?_
          refine lv_i2l hx hb dX11_person_61 rfl ?_
          refine lv_ldc2 (v := (10 : Int64)) hx hb hown (hts _ q5_163) dX11_person_62 ?_
          refine lv_bipush (v := (9 : Int32)) hx hb dX11_person_65 rfl ?_
          refine lv_aload_n hx hb dX11_person_67 rfl (lv_at hl 0 rfl) ?_
          refine r_get C hw 0 rfl cf_X11 7 (by decide) q4_180 (v := .int (Tm 0 7)) rfl dX11_person_68 ?_
          refine lv_iadd hx hb dX11_person_71 ?_
          refine lv_i2l hx hb dX11_person_72 rfl ?_
          obtain ⟨r5, hc6, hf⟩ := bd1_e hf
          refine r_callSi0 C hw (c_X11_in hc6) md_X11_in [] rfl rfl q5_32 ⟨Nat.le_of_ble_eq_true rfl, Nat.le_of_ble_eq_true rfl⟩ ⟨Nat.zero_le _, Nat.zero_le _⟩ hl.1 rfl rfl (Nat.le_of_ble_eq_true rfl) dX11_person_73 (fun H locs hw => ?_)
          refine lv_if_eq (tgt := 92) hx hb dX11_person_76 (by decide) (fun hc9 => ?_) (fun hc9 => ?_)
          · have hf := it_p hf hc9
            refine lv_bipush (v := (-3 : Int32)) hx hb dX11_person_92 rfl ?_
            obtain rfl := so1 hf
            exact r_iret C hw rfl dX11_person_94
          · have hf := it_n hf hc9
            refine lv_aload_n hx hb dX11_person_79 rfl (lv_at hl 0 rfl) ?_
            refine lv_iload_n hx hb dX11_person_80 rfl (lv_at hl 1 rfl) ?_
            refine lv_iload_n hx hb dX11_person_81 rfl (lv_at hl 2 rfl) ?_
            refine lv_iload_n hx hb dX11_person_82 rfl (lv_at hl 3 rfl) ?_
            refine lv_bipush (v := (10 : Int32)) hx hb dX11_person_83 rfl ?_
            refine lv_isub hx hb dX11_person_85 ?_
            obtain ⟨r7, hc8, hf⟩ := bd1_e hf
            refine r_callVi0 C hw (c_X11_does (zm := zm) hc8) md_X11_does [0, 1, 2, 3, 4, 5, 6, 7, 8, 9, 10, 11, 12, 13, 14, 15, 16, 17, 18] rfl rfl q5_139 0 rfl cf_X11.1 ⟨Nat.le_of_ble_eq_true rfl, Nat.le_of_ble_eq_true rfl⟩ ⟨Nat.zero_le _, Nat.zero_le _⟩ hl.1 rfl rfl (Nat.le_of_ble_eq_true rfl) dX11_person_86 (fun H locs hw => ?_)
            refine lv_goto (tgt := 94) hx hb dX11_person_89 (by decide) ?_
            obtain rfl := so1 hf
            exact r_iret C hw rfl dX11_person_94
        · have hf := it_p hf hc11
          refine lv_aload_n hx hb dX11_person_43 rfl (lv_at hl 0 rfl) ?_
          refine r_get C hw 0 rfl cf_X11 0 (by decide) q4_173 (v := .ref (zm 1)) rfl dX11_person_44 ?_
          refine lv_bipush (v := (15 : Int32)) hx hb dX11_person_47 rfl ?_
          refine lv_bipush (v := (6 : Int32)) hx hb dX11_person_49 rfl ?_
          refine lv_iload_n hx hb dX11_person_51 rfl (lv_at hl 1 rfl) ?_
          refine lv_imul hx hb dX11_person_52 ?_
          refine lv_iadd hx hb dX11_person_53 ?_
          refine lv_iload_n hx hb dX11_person_54 rfl (lv_at hl 2 rfl) ?_
          refine lv_iadd hx hb dX11_person_55 ?_
          obtain ⟨hi10, hf⟩ := it_g hf
          refine r_iald C hw 1 (f := (Tm 1)) rfl hi10 dX11_person_56 ?_
          refine lv_goto (tgt := 94) hx hb dX11_person_57 (by decide) ?_
          obtain rfl := so1 hf
          exact r_iret C hw rfl dX11_person_94
      · have hf := it_p hf hc13
        refine lv_aload_n hx hb dX11_person_22 rfl (lv_at hl 0 rfl) ?_
        refine r_get C hw 0 rfl cf_X11 0 (by decide) q4_173 (v := .ref (zm 1)) rfl dX11_person_23 ?_
        refine lv_iconst (v := (3 : Int32)) hx hb dX11_person_26 rfl ?_
        refine lv_bipush (v := (6 : Int32)) hx hb dX11_person_27 rfl ?_
        refine lv_iload_n hx hb dX11_person_29 rfl (lv_at hl 1 rfl) ?_
        refine lv_imul hx hb dX11_person_30 ?_
        refine lv_iadd hx hb dX11_person_31 ?_
        refine lv_iload_n hx hb dX11_person_32 rfl (lv_at hl 2 rfl) ?_
        refine lv_iadd hx hb dX11_person_33 ?_
        obtain ⟨hi12, hf⟩ := it_g hf
        refine r_iald C hw 1 (f := (Tm 1)) rfl hi12 dX11_person_34 ?_
        refine lv_goto (tgt := 94) hx hb dX11_person_35 (by decide) ?_
        obtain rfl := so1 hf
        exact r_iret C hw rfl dX11_person_94
    · have hf := it_p hf hc14
      refine lv_bipush (v := (-2 : Int32)) hx hb dX11_person_15 rfl ?_
      obtain rfl := so1 hf
      exact r_iret C hw rfl dX11_person_17
set_option maxRecDepth 100000 in
set_option maxHeartbeats 4000000 in
theorem c_X11_bread {l : Launch} {g : evG} {zm : Nat → Nat} {r : Int32}  {Tm : Gp} {x1 : Int32} (hf : fX11_bread Tm x1 = some (r)) : CTi l g yX11_bread (Cond.code yX11_bread cX11_bread 2 (some .int)) 2 45 [.ref (zm 0), .int x1] (gcM g zm Tm) (gcM g zm Tm) r := by
  refine ct_i rfl (Nat.le_of_ble_eq_true rfl) ?_
  intro p e s m args below meth c A ls C hw hl
  have C : ctx g p s m args meth c RX11 cX11_bread 2 (some .int) A := C
  have hl : lv_has ls 2 [(0, .ref (zm 0)), (1, .int x1)] := hl
  obtain ⟨hx, hb, hml, hown, hts, -⟩ := id C
  unfold fX11_bread at hf
  refine lv_iload_n hx hb dX11_bread_0 rfl (lv_at hl 1 rfl) ?_
  obtain ⟨r1, hc2, hf⟩ := bd1_e hf
  refine r_callSi0 C hw (c_X11_isValley hc2) md_X11_isValley [] rfl rfl q5_107 ⟨Nat.le_of_ble_eq_true rfl, Nat.le_of_ble_eq_true rfl⟩ ⟨Nat.zero_le _, Nat.zero_le _⟩ hl.1 rfl rfl (Nat.le_of_ble_eq_true rfl) dX11_bread_1 (fun H locs hw => ?_)
  refine lv_if_eq (tgt := 21) hx hb dX11_bread_4 (by decide) (fun hc4 => ?_) (fun hc4 => ?_)
  · have hf := it_p hf hc4
    refine lv_bipush (v := (-2 : Int32)) hx hb dX11_bread_21 rfl ?_
    obtain rfl := so1 hf
    exact r_iret C hw rfl dX11_bread_23
  · have hf := it_n hf hc4
    refine lv_aload_n hx hb dX11_bread_7 rfl (lv_at hl 0 rfl) ?_
    refine r_get C hw 0 rfl cf_X11 0 (by decide) q4_173 (v := .ref (zm 1)) rfl dX11_bread_8 ?_
    refine lv_iconst (v := (1 : Int32)) hx hb dX11_bread_11 rfl ?_
    refine lv_iload_n hx hb dX11_bread_12 rfl (lv_at hl 1 rfl) ?_
    refine lv_iadd hx hb dX11_bread_13 ?_
    obtain ⟨hi3, hf⟩ := it_g hf
    refine r_iald C hw 1 (f := (Tm 1)) rfl hi3 dX11_bread_14 ?_
    refine lv_ldc (v := (100000 : Int32)) hx hb hown (hts _ q5_168) dX11_bread_15 ?_
    refine lv_iadd hx hb dX11_bread_17 ?_
    refine lv_goto (tgt := 23) hx hb dX11_bread_18 (by decide) ?_
    obtain rfl := so1 hf
    exact r_iret C hw rfl dX11_bread_23
set_option maxRecDepth 100000 in
set_option maxHeartbeats 4000000 in
theorem kX11_breaches_15 {l : Launch} {g : evG} {p : Program} {e : Env} {s : State} {m : MethodId} {args : Array Value} {below : List Frame} {meth : Method} {c : Code} {A : Nat → Prop} {zm : Nat → Nat} {r : Int32} (C : ctx g p s m args meth c RX11 cX11_breaches 4 (some .int) A) {Tm : Gp} {rec15 : Int32 → Int32 → Int32 → Option (Int32)} (hr15 : ∀ (x1 : Int32) (x2 : Int32) (x3 : Int32) (H : Heap) (locs : List Loc) (ls : Array Slot), rec15 x1 x2 x3 = some (r) → wl g A s.heap (gcM g zm Tm) H locs → lv_has ls 4 [(0, .ref (zm 0)), (1, .int x1), (2, .int x2), (3, .int x3)] → W p l e (rmK 4 94) s m args below meth c H locs 0 0 (MQ below (Qi g A (gcM g zm Tm) r) args s 0 0 A) (F0 m 15 ls [])) {x1 : Int32} {x2 : Int32} {x3 : Int32} {H : Heap} {locs : List Loc} {ls : Array Slot} (hf : fX11_breaches_15 Tm rec15 x1 x2 x3 = some (r)) (hw : wl g A s.heap (gcM g zm Tm) H locs) (hl : lv_has ls 4 [(0, .ref (zm 0)), (1, .int x1), (2, .int x2), (3, .int x3)]) : W p l e (rmK 4 94) s m args below meth c H locs 0 0 (MQ below (Qi g A (gcM g zm Tm) r) args s 0 0 A) (F0 m 15 ls []) := by
  obtain ⟨hx, hb, hml, hown, hts, -⟩ := id C
  unfold fX11_breaches_15 at hf
  refine lv_iload_n hx hb dX11_breaches_15 rfl (lv_at hl 3 rfl) ?_
  refine lv_aload_n hx hb dX11_breaches_16 rfl (lv_at hl 0 rfl) ?_
  refine r_get C hw 0 rfl cf_X11 7 (by decide) q4_180 (v := .int (Tm 0 7)) rfl dX11_breaches_17 ?_
  refine lv_icmp_ge (tgt := 48) hx hb dX11_breaches_20 (by decide) (fun hc4 => ?_) (fun hc4 => ?_)
  · have hf := it_p hf hc4
    refine lv_iload_n hx hb dX11_breaches_48 rfl (lv_at hl 2 rfl) ?_
    obtain rfl := so1 hf
    exact r_iret C hw rfl dX11_breaches_49
  · have hf := it_n hf hc4
    refine lv_iload_n hx hb dX11_breaches_23 rfl (lv_at hl 2 rfl) ?_
    refine lv_aload_n hx hb dX11_breaches_24 rfl (lv_at hl 0 rfl) ?_
    refine lv_iload_n hx hb dX11_breaches_25 rfl (lv_at hl 1 rfl) ?_
    refine lv_iload_n hx hb dX11_breaches_26 rfl (lv_at hl 3 rfl) ?_
    obtain ⟨r1, hc2, hf⟩ := bd1_e hf
    refine r_callVi0 C hw (c_X11_isBreach (zm := zm) hc2) md_X11_isBreach [0, 1, 2, 3, 4, 5, 6, 7, 8, 9, 10, 11, 12, 13, 14, 15, 16, 17, 18] rfl rfl q5_135 0 rfl cf_X11.1 ⟨Nat.le_of_ble_eq_true rfl, Nat.le_of_ble_eq_true rfl⟩ ⟨Nat.zero_le _, Nat.zero_le _⟩ hl.1 rfl rfl (Nat.le_of_ble_eq_true rfl) dX11_breaches_27 (fun H locs hw => ?_)
    refine lv_if_eq (tgt := 39) hx hb dX11_breaches_30 (by decide) (fun hc3 => ?_) (fun hc3 => ?_)
    · have hf := it_p hf hc3
      refine lv_iconst (v := (0 : Int32)) hx hb dX11_breaches_39 rfl ?_
      refine lv_ior hx hb dX11_breaches_40 ?_
      refine lv_istore_n (lv' := [(2, .int (x2 ||| (0 : Int32))), (0, .ref (zm 0)), (1, .int x1), (3, .int x3)]) hx hb dX11_breaches_41 rfl hl (by decide) rfl (fun ls hl => ?_)
      refine lv_iinc (v := (x3 + (1 : Int32))) (lv' := [(3, .int (x3 + (1 : Int32))), (2, .int (x2 ||| (0 : Int32))), (0, .ref (zm 0)), (1, .int x1)]) hx hb dX11_breaches_42 hl (k := 3) rfl rfl (by decide) rfl (fun ls hl => ?_)
      refine lv_goto (tgt := 15) hx hb dX11_breaches_45 (by decide) ?_
      exact hr15 _ _ _ _ _ _ hf hw (lv_sub hl [2, 3, 1, 0] rfl)
    · have hf := it_n hf hc3
      refine lv_iconst (v := (1 : Int32)) hx hb dX11_breaches_33 rfl ?_
      refine lv_iload_n hx hb dX11_breaches_34 rfl (lv_at hl 3 rfl) ?_
      refine lv_ishl hx hb dX11_breaches_35 ?_
      refine lv_goto (tgt := 40) hx hb dX11_breaches_36 (by decide) ?_
      refine lv_ior hx hb dX11_breaches_40 ?_
      refine lv_istore_n (lv' := [(2, .int (x2 ||| ((1 : Int32) <<< (x3 &&& 31)))), (0, .ref (zm 0)), (1, .int x1), (3, .int x3)]) hx hb dX11_breaches_41 rfl hl (by decide) rfl (fun ls hl => ?_)
      refine lv_iinc (v := (x3 + (1 : Int32))) (lv' := [(3, .int (x3 + (1 : Int32))), (2, .int (x2 ||| ((1 : Int32) <<< (x3 &&& 31)))), (0, .ref (zm 0)), (1, .int x1)]) hx hb dX11_breaches_42 hl (k := 3) rfl rfl (by decide) rfl (fun ls hl => ?_)
      refine lv_goto (tgt := 15) hx hb dX11_breaches_45 (by decide) ?_
      exact hr15 _ _ _ _ _ _ hf hw (lv_sub hl [2, 3, 1, 0] rfl)
set_option maxRecDepth 100000 in
set_option maxHeartbeats 4000000 in
theorem klX11_breaches_15 {l : Launch} {g : evG} {p : Program} {e : Env} {s : State} {m : MethodId} {args : Array Value} {below : List Frame} {meth : Method} {c : Code} {A : Nat → Prop} {zm : Nat → Nat} {r : Int32} (C : ctx g p s m args meth c RX11 cX11_breaches 4 (some .int) A) {Tm : Gp} : ∀ (n : Nat) (x1 : Int32) (x2 : Int32) (x3 : Int32) (H : Heap) (locs : List Loc) (ls : Array Slot), lX11_breaches_15 Tm n x1 x2 x3 = some (r) → wl g A s.heap (gcM g zm Tm) H locs → lv_has ls 4 [(0, .ref (zm 0)), (1, .int x1), (2, .int x2), (3, .int x3)] → W p l e (rmK 4 94) s m args below meth c H locs 0 0 (MQ below (Qi g A (gcM g zm Tm) r) args s 0 0 A) (F0 m 15 ls []) := by
  intro n
  induction n with
  | zero => intro _ _ _ _ _ _ hf; exact no_f hf
  | succ n ih => intro _ _ _ _ _ _ hf hw hl; exact kX11_breaches_15 (zm := zm) (r := r) C (rec15 := lX11_breaches_15 Tm n) ih hf hw hl
set_option maxRecDepth 100000 in
set_option maxHeartbeats 4000000 in
theorem c_X11_breaches {l : Launch} {g : evG} {zm : Nat → Nat} {r : Int32}  {Tm : Gp} {x1 : Int32} (hf : fX11_breaches Tm x1 = some (r)) : CTi l g yX11_breaches (Cond.code yX11_breaches cX11_breaches 4 (some .int)) 4 94 [.ref (zm 0), .int x1] (gcM g zm Tm) (gcM g zm Tm) r := by
  refine ct_i rfl (Nat.le_of_ble_eq_true rfl) ?_
  intro p e s m args below meth c A ls C hw hl
  have C : ctx g p s m args meth c RX11 cX11_breaches 4 (some .int) A := C
  have hl : lv_has ls 4 [(0, .ref (zm 0)), (1, .int x1)] := hl
  obtain ⟨hx, hb, hml, hown, hts, -⟩ := id C
  unfold fX11_breaches at hf
  refine lv_aload_n hx hb dX11_breaches_0 rfl (lv_at hl 0 rfl) ?_
  refine lv_iload_n hx hb dX11_breaches_1 rfl (lv_at hl 1 rfl) ?_
  obtain ⟨r1, hc2, hf⟩ := bd1_e hf
  refine r_callVi0 C hw (c_X11_isPair (zm := zm) hc2) md_X11_isPair [0, 1, 2, 3, 4, 5, 6, 7, 8, 9, 10, 11, 12, 13, 14, 15, 16, 17, 18] rfl rfl q5_110 0 rfl cf_X11.1 ⟨Nat.le_of_ble_eq_true rfl, Nat.le_of_ble_eq_true rfl⟩ ⟨Nat.zero_le _, Nat.zero_le _⟩ hl.1 rfl rfl (Nat.le_of_ble_eq_true rfl) dX11_breaches_2 (fun H locs hw => ?_)
  refine lv_if_ne (tgt := 11) hx hb dX11_breaches_5 (by decide) (fun hc3 => ?_) (fun hc3 => ?_)
  · have hf := it_n hf hc3
    refine lv_iconst (v := (0 : Int32)) hx hb dX11_breaches_11 rfl ?_
    refine lv_istore_n (lv' := [(2, .int (0 : Int32)), (0, .ref (zm 0)), (1, .int x1)]) hx hb dX11_breaches_12 rfl hl (by decide) rfl (fun ls hl => ?_)
    refine lv_iconst (v := (0 : Int32)) hx hb dX11_breaches_13 rfl ?_
    refine lv_istore_n (lv' := [(3, .int (0 : Int32)), (2, .int (0 : Int32)), (0, .ref (zm 0)), (1, .int x1)]) hx hb dX11_breaches_14 rfl hl (by decide) rfl (fun ls hl => ?_)
    exact klX11_breaches_15 (zm := zm) (r := r) C fu _ _ _ _ _ _ hf hw (lv_sub hl [2, 3, 1, 0] rfl)
  · have hf := it_p hf hc3
    refine lv_bipush (v := (-2 : Int32)) hx hb dX11_breaches_8 rfl ?_
    obtain rfl := so1 hf
    exact r_iret C hw rfl dX11_breaches_10
