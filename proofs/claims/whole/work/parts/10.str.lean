section STR
variable {l : Launch} {g : evG} {p : Program} {e : Env} {R : Room} {s : State} {m : MethodId} {args : Array Value} {below : List Frame} {meth : Method} {c : Code} {own : String} {cc : ByteArray} {nL : Nat} {ret : Option FieldType} {A : Nat → Prop}
variable {ws : va_W} {H : Heap} {locs : List Loc} {cells slots : Nat} {Q : State → Prop} {pc : Nat} {ls : Array Slot} {rest st : List Value}
theorem r_nret {ty : FieldType} (C : ctx g p s m args meth c own cc nL (some ty) A) {wo : va_W} (w : wl g A s.heap wo H locs) {v r : Int32} (hv : v = r) (hn : narrow ty (.int v) = .int v) (hdg : decode cc pc = .ok (.ireturn, 1)) : W p l e R s m args below meth c H locs 0 0 (MQ below (Qi g A wo r) args s 0 0 A) (F0 m pc ls [.int v]) := by
  obtain ⟨hx, hb, hml, hown, hts, hlk, hr, hK, hA, hN, hE⟩ := C
  subst hv
  exact W.zret hx hb hr hn (fun t ht hW => ⟨⟨v, (), rfl, rfl, by show va_P g.1 vwCl wo t.heap; rw [ht]; exact w.1⟩, w.2.2.F ht⟩) w.2.2.2.2 hdg
/-- a call on a cell that isn't of the world -/
theorem r_callGi0 (C : ctx g p s m args meth c own cc nL ret A) (w : wl g A s.heap ws H locs) {y : MethodName} {cw : Cond} {bytes : ByteArray} {maxL n fr lo : Nat} {rt : Option FieldType} {b : Nat} {As : List Value} {r : Int32}
    (hM : CTi l g y cw fr lo (.ref b :: As) [] [] r) (md : mdV y cw bytes maxL rt n) {index : Nat} (hl : Cond.methodLink own index y ∈ bw)
    (hrv : ∃ cell : Cell, H[b]? = some cell ∧ cell.vm.isStatics = false ∧ s.vm.findClass y.cls = some cell.cls) (hR : fr + 1 ≤ R.frames ∧ 8 + (maxL + 11) + lo ≤ R.locals) (hcs : cells ≤ R.cells ∧ slots ≤ R.slots) (hsz : ls.size = nL) (hAs : As.length = n) (hst : st = As.reverse ++ .ref b :: rest) (hrm : (rest.map fun v => v.category).sum ≤ 8) (hdg : decode cc pc = .ok (.invokevirtual index, 3))
    (kk : ∀ (H1 : Heap) (locs1 : List Loc), wl g A s.heap ws H1 locs1 → W p l e R s m args below meth c H1 locs1 cells slots Q (F0 m (pc + 3) ls (.int r :: rest))) : W p l e R s m args below meth c H locs cells slots Q (F0 m pc ls st) := by
  obtain ⟨hx, hb, hml, hown, hts, hlk, hr, hK, hA, hN, hE⟩ := id C
  obtain ⟨hcw, hd, hin, hse, hini, hcd⟩ := md
  have hC : ([] : List Nat).map (fun i => ws[i]?) = ([] : va_W).map some := rfl
  have hF := va_free w.2.1 w.2.2 hA [] hC
  refine va_calli (va_runV (As := As) (rest := rest) (n := n) (maxL := maxL) (ret := rt) (bytes := bytes) ⟨hx, hb, hml, hown, hts⟩ (hM H.size) ⟨⟨rfl, rfl, hR.1, hR.2, pay_in hts (fun v hv => ?_), by rw [hcw]; exact List.mem_cons_self, by rw [← hcw]; exact hts _ hcd, hts _ hini, ⟨hd.1, hd.2.1⟩, fun sig h => ?_, hts _ hl⟩, hts _ hin, hts _ hse⟩ ⟨ctB_blind, hrv, r_pre C w hC rfl⟩ rfl hAs hsz hst (lv_room hrm) hdg hcs) w.2.2 (fun q _ h => hF q h) hF (fun r_1 u t H1 locs1 ht hvm hw hB hz1 hk1 hS => ?_)
  · have h1 := bw_gi (c := cw) (bw_c hcd) v hv
    exact ⟨bw_c hcd v hv, h1.2⟩
  · have h2 := hd.2.2
    rw [h] at h2
    exact (Option.some.inj h2).symm
  · have hw : r_1 = r := hw
    subst hw
    rw [ht] at hB
    exact kk H1 locs1 (wl_call w hC rfl rfl hB hk1 hS)
end STR
theorem c_coder {l : Launch} {g : evG} {k : Nat} (hk : k < 6) : CTi l g yJ0_coder_7d493 (Cond.code yJ0_coder_7d493 cJ0_coder_7d493 1 (some .byte)) 0 0 [.ref (gSK g k)] [] [] 0 := by
  refine ct_i rfl (Nat.le_of_ble_eq_true rfl) ?_
  intro p e s m args below meth c A ls C hw hl
  have C : ctx g p s m args meth c RJ0 cJ0_coder_7d493 1 (some .byte) A := C
  have hl : lv_has ls 1 [(0, .ref (gSK g k))] := hl
  obtain ⟨hx, hb, hml, hown, hts, hlk, hr, hK, hA, hN, hE⟩ := id C
  refine va_gets hx hb hE.2.2.1 hw.2.2 hown (hts _ q2_108) (fun _ h => h) dJ0_coder_7d493_0 ?_
  refine lv_if_eq (tgt := 13) hx hb dJ0_coder_7d493_3 (by decide) (fun h => absurd h (by decide)) (fun _ => ?_)
  refine lv_aload_n hx hb dJ0_coder_7d493_6 rfl (lv_at hl 0 rfl) ?_
  refine vk_getf hx hb (hE.2.2.2.2.1.1 k hk).2.1 hw.2.2 hown (hts _ q6_51) (fun _ h => h) dJ0_coder_7d493_7 ?_
  refine lv_goto (tgt := 14) hx hb dJ0_coder_7d493_10 (by decide) ?_
  exact r_nret C hw rfl rfl dJ0_coder_7d493_14
theorem c_isLatin1 {l : Launch} {g : evG} {k : Nat} (hk : k < 6) : CTi l g yJ0_isLatin1_aae02 (Cond.code yJ0_isLatin1_aae02 cJ0_isLatin1_aae02 1 (some .boolean)) 0 0 [.ref (gSK g k)] [] [] 1 := by
  refine ct_i rfl (Nat.le_of_ble_eq_true rfl) ?_
  intro p e s m args below meth c A ls C hw hl
  have C : ctx g p s m args meth c RJ0 cJ0_isLatin1_aae02 1 (some .boolean) A := C
  have hl : lv_has ls 1 [(0, .ref (gSK g k))] := hl
  obtain ⟨hx, hb, hml, hown, hts, hlk, hr, hK, hA, hN, hE⟩ := id C
  refine va_gets hx hb hE.2.2.1 hw.2.2 hown (hts _ q2_108) (fun _ h => h) dJ0_isLatin1_aae02_0 ?_
  refine lv_if_eq (tgt := 17) hx hb dJ0_isLatin1_aae02_3 (by decide) (fun h => absurd h (by decide)) (fun _ => ?_)
  refine lv_aload_n hx hb dJ0_isLatin1_aae02_6 rfl (lv_at hl 0 rfl) ?_
  refine vk_getf hx hb (hE.2.2.2.2.1.1 k hk).2.1 hw.2.2 hown (hts _ q6_51) (fun _ h => h) dJ0_isLatin1_aae02_7 ?_
  refine lv_if_ne (tgt := 17) hx hb dJ0_isLatin1_aae02_10 (by decide) (fun h => absurd rfl h) (fun _ => ?_)
  refine lv_iconst (v := 1) hx hb dJ0_isLatin1_aae02_13 rfl ?_
  refine lv_goto (tgt := 18) hx hb dJ0_isLatin1_aae02_14 (by decide) ?_
  exact r_nret C hw rfl rfl dJ0_isLatin1_aae02_18
theorem ev_len_lt : ∀ k : Nat, k < 6 → ev_len.getD k 0 < 2 ^ 31 := by decide
theorem ev_byt_ok : ∀ k : Nat, k < 6 → ∀ j : Nat, j < ev_len.getD k 0 → (((ev_byt.getD k []).getD j 0 &&& 255).toUInt32 % 65536).toInt32 = (ev_byt.getD k []).getD j 0 ∧ narrow .char (.int ((ev_byt.getD k []).getD j 0)) = .int ((ev_byt.getD k []).getD j 0) := by decide +kernel
theorem c_strlen {l : Launch} {g : evG} {k : Nat} (hk : k < 6) : CTi l g yJ0_length_8abf5 (Cond.code yJ0_length_8abf5 cJ0_length_8abf5 1 (some .int)) 1 20 [.ref (gSK g k)] [] [] (ev_sl k) := by
  refine ct_i rfl (Nat.le_of_ble_eq_true rfl) ?_
  intro p e s m args below meth c A ls C hw hl
  have C : ctx g p s m args meth c RJ0 cJ0_length_8abf5 1 (some .int) A := C
  have hl : lv_has ls 1 [(0, .ref (gSK g k))] := hl
  obtain ⟨hx, hb, hml, hown, hts, hlk, hr, hK, hA, hN, hE⟩ := id C
  refine lv_aload_n hx hb dJ0_length_8abf5_0 rfl (lv_at hl 0 rfl) ?_
  refine vk_getf hx hb (hE.2.2.2.2.1.1 k hk).2.2.1 hw.2.2 hown (hts _ q6_50) (fun _ h => h) dJ0_length_8abf5_1 ?_
  refine va_tlen hx hb (hE.2.2.2.2.1.1 k hk).2.2.2 hw.2.2 (v := ev_sl k) rfl dJ0_length_8abf5_4 ?_
  refine lv_aload_n hx hb dJ0_length_8abf5_5 rfl (lv_at hl 0 rfl) ?_
  refine r_callGi0 C hw (c_coder hk) md_J0_coder_7d493 q2_104 (vk_recv hE.2.2.2.2.1 hk hw.2.2) ⟨Nat.le_of_ble_eq_true rfl, Nat.le_of_ble_eq_true rfl⟩ ⟨Nat.zero_le _, Nat.zero_le _⟩ hl.1 rfl rfl (Nat.le_of_ble_eq_true rfl) dJ0_length_8abf5_6 (fun H locs hw => ?_)
  refine lv_ishr hx hb dJ0_length_8abf5_9 ?_
  exact r_iret C hw (sb_shr0 _) dJ0_length_8abf5_10
theorem c_chk3 {l : Launch} {g : evG} {i n : Int32} {f : Nat} (h0 : ¬ i < 0) (h1 : i < n) : CTi l g yJ3_checkIndex_8e157 (Cond.code yJ3_checkIndex_8e157 cJ3_checkIndex_8e157 3 (some .int)) 0 0 [.int i, .int n, .ref f] [] [] i := by
  refine ct_i rfl (Nat.le_of_ble_eq_true rfl) ?_
  intro p e s m args below meth c A ls C hw hl
  have C : ctx g p s m args meth c RJ3 cJ3_checkIndex_8e157 3 (some .int) A := C
  have hl : lv_has ls 3 [(0, .int i), (1, .int n), (2, .ref f)] := hl
  obtain ⟨hx, hb, hml, hown, hts, hlk, hr, hK, hA, hN, hE⟩ := id C
  refine lv_iload_n hx hb dJ3_checkIndex_8e157_0 rfl (lv_at hl 0 rfl) ?_
  refine lv_if_lt (tgt := 9) hx hb dJ3_checkIndex_8e157_1 (by decide) (fun h => absurd h h0) (fun _ => ?_)
  refine lv_iload_n hx hb dJ3_checkIndex_8e157_4 rfl (lv_at hl 0 rfl) ?_
  refine lv_iload_n hx hb dJ3_checkIndex_8e157_5 rfl (lv_at hl 1 rfl) ?_
  refine lv_icmp_lt (tgt := 16) hx hb dJ3_checkIndex_8e157_6 (by decide) (fun _ => ?_) (fun h => absurd h1 h)
  refine lv_iload_n hx hb dJ3_checkIndex_8e157_16 rfl (lv_at hl 0 rfl) ?_
  exact r_iret C hw rfl dJ3_checkIndex_8e157_17
theorem c_chk3n {l : Launch} {g : evG} {i n : Int32} (h0 : ¬ i < 0) (h1 : i < n) : CTi l g yJ3_checkIndex_8e157 (Cond.code yJ3_checkIndex_8e157 cJ3_checkIndex_8e157 3 (some .int)) 0 0 [.int i, .int n, .null] [] [] i := by
  refine ct_i rfl (Nat.le_of_ble_eq_true rfl) ?_
  intro p e s m args below meth c A ls C hw hl
  have C : ctx g p s m args meth c RJ3 cJ3_checkIndex_8e157 3 (some .int) A := C
  have hl : lv_has ls 3 [(0, .int i), (1, .int n), (2, .null)] := hl
  obtain ⟨hx, hb, hml, hown, hts, hlk, hr, hK, hA, hN, hE⟩ := id C
  refine lv_iload_n hx hb dJ3_checkIndex_8e157_0 rfl (lv_at hl 0 rfl) ?_
  refine lv_if_lt (tgt := 9) hx hb dJ3_checkIndex_8e157_1 (by decide) (fun h => absurd h h0) (fun _ => ?_)
  refine lv_iload_n hx hb dJ3_checkIndex_8e157_4 rfl (lv_at hl 0 rfl) ?_
  refine lv_iload_n hx hb dJ3_checkIndex_8e157_5 rfl (lv_at hl 1 rfl) ?_
  refine lv_icmp_lt (tgt := 16) hx hb dJ3_checkIndex_8e157_6 (by decide) (fun _ => ?_) (fun h => absurd h1 h)
  refine lv_iload_n hx hb dJ3_checkIndex_8e157_16 rfl (lv_at hl 0 rfl) ?_
  exact r_iret C hw rfl dJ3_checkIndex_8e157_17
theorem c_chk0 {l : Launch} {g : evG} {i n : Int32} (h0 : ¬ i < 0) (h1 : i < n) : CTv l g yJ0_checkIndex_df160 (Cond.code yJ0_checkIndex_df160 cJ0_checkIndex_df160 2 none) 1 22 [.int i, .int n] [] [] := by
  refine ct_v rfl (Nat.le_of_ble_eq_true rfl) ?_
  intro p e s m args below meth c A ls C hw hl
  have C : ctx g p s m args meth c RJ0 cJ0_checkIndex_df160 2 none A := C
  have hl : lv_has ls 2 [(0, .int i), (1, .int n)] := hl
  obtain ⟨hx, hb, hml, hown, hts, hlk, hr, hK, hA, hN, hE⟩ := id C
  refine lv_iload_n hx hb dJ0_checkIndex_df160_0 rfl (lv_at hl 0 rfl) ?_
  refine lv_iload_n hx hb dJ0_checkIndex_df160_1 rfl (lv_at hl 1 rfl) ?_
  rcases hE.2.2.2.1 with hz | ⟨f, hz⟩
  · refine va_gets hx hb hz hw.2.2 hown (hts _ q2_124) (fun _ h => h) dJ0_checkIndex_df160_2 ?_
    refine r_callSi0 C hw (c_chk3n h0 h1) md_J3_checkIndex_8e157 [] rfl rfl q2_126 ⟨Nat.le_of_ble_eq_true rfl, Nat.le_of_ble_eq_true rfl⟩ ⟨Nat.zero_le _, Nat.zero_le _⟩ hl.1 rfl rfl (Nat.le_of_ble_eq_true rfl) dJ0_checkIndex_df160_5 (fun H locs hw => ?_)
    refine lv_pop hx hb dJ0_checkIndex_df160_8 rfl ?_
    exact r_vret C hw dJ0_checkIndex_df160_9
  refine va_gets hx hb hz hw.2.2 hown (hts _ q2_124) (fun _ h => h) dJ0_checkIndex_df160_2 ?_
  refine r_callSi0 C hw (c_chk3 h0 h1) md_J3_checkIndex_8e157 [] rfl rfl q2_126 ⟨Nat.le_of_ble_eq_true rfl, Nat.le_of_ble_eq_true rfl⟩ ⟨Nat.zero_le _, Nat.zero_le _⟩ hl.1 rfl rfl (Nat.le_of_ble_eq_true rfl) dJ0_checkIndex_df160_5 (fun H locs hw => ?_)
  refine lv_pop hx hb dJ0_checkIndex_df160_8 rfl ?_
  exact r_vret C hw dJ0_checkIndex_df160_9
theorem c_l1charAt {l : Launch} {g : evG} {k : Nat} (hk : k < 6) {i : Int32} (hi : ix i (ev_len.getD k 0)) : CTi l g yJ1_charAt_3b067 (Cond.code yJ1_charAt_3b067 cJ1_charAt_3b067 2 (some .char)) 2 43 [.ref (gSV g k), .int i] [] [] (ev_sc k i.toNatClampNeg) := by
  refine ct_i rfl (Nat.le_of_ble_eq_true rfl) ?_
  intro p e s m args below meth c A ls C hw hl
  have C : ctx g p s m args meth c RJ1 cJ1_charAt_3b067 2 (some .char) A := C
  have hl : lv_has ls 2 [(0, .ref (gSV g k)), (1, .int i)] := hl
  obtain ⟨hx, hb, hml, hown, hts, hlk, hr, hK, hA, hN, hE⟩ := id C
  have hlt := ev_len_lt k hk
  obtain ⟨j, hj, e1⟩ := vp_in_of hi hlt
  have h0 : ¬ i < 0 := fun h => hi (Or.inl h)
  have h1 : i < ev_sl k := by rw [e1]; exact nI_lt hj hlt
  have hb2 := ev_byt_ok k hk j hj
  have ej : i.toNatClampNeg = j := by rw [e1]; exact nI_clamp (by omega)
  refine lv_iload_n hx hb dJ1_charAt_3b067_0 rfl (lv_at hl 1 rfl) ?_
  refine lv_aload_n hx hb dJ1_charAt_3b067_1 rfl (lv_at hl 0 rfl) ?_
  refine va_tlen hx hb (hE.2.2.2.2.1.1 k hk).2.2.2 hw.2.2 (v := ev_sl k) rfl dJ1_charAt_3b067_2 ?_
  refine r_callSv C hw (c_chk0 h0 h1) md_J0_checkIndex_df160 [] rfl rfl rfl q2_121 ⟨Nat.le_of_ble_eq_true rfl, Nat.le_of_ble_eq_true rfl⟩ ⟨Nat.zero_le _, Nat.zero_le _⟩ hl.1 rfl rfl (Nat.le_of_ble_eq_true rfl) dJ1_charAt_3b067_3 (fun H locs hw => ?_)
  have hw : wl g A s.heap [] H locs := hw
  refine lv_aload_n hx hb dJ1_charAt_3b067_6 rfl (lv_at hl 0 rfl) ?_
  refine lv_iload_n hx hb dJ1_charAt_3b067_7 rfl (lv_at hl 1 rfl) ?_
  refine va_tb hx hb (hE.2.2.2.2.1.1 k hk).2.2.2 hw.2.2 hi (v := .int (ev_sc k i.toNatClampNeg)) rfl dJ1_charAt_3b067_8 ?_
  refine lv_sipush (v := 255) hx hb dJ1_charAt_3b067_9 rfl ?_
  refine lv_iand hx hb dJ1_charAt_3b067_12 ?_
  refine lv_i2c (v := ev_sc k i.toNatClampNeg) hx hb dJ1_charAt_3b067_13 (by rw [ej]; exact hb2.1) ?_
  exact r_nret C hw rfl (by rw [ej]; exact hb2.2) dJ1_charAt_3b067_14
theorem c_strAt {l : Launch} {g : evG} {k : Nat} (hk : k < 6) {i : Int32} (hi : ix i (ev_len.getD k 0)) : CTi l g yJ0_charAt_5068e (Cond.code yJ0_charAt_5068e cJ0_charAt_5068e 2 (some .char)) 3 64 [.ref (gSK g k), .int i] [] [] (ev_sc k i.toNatClampNeg) := by
  refine ct_i rfl (Nat.le_of_ble_eq_true rfl) ?_
  intro p e s m args below meth c A ls C hw hl
  have C : ctx g p s m args meth c RJ0 cJ0_charAt_5068e 2 (some .char) A := C
  have hl : lv_has ls 2 [(0, .ref (gSK g k)), (1, .int i)] := hl
  obtain ⟨hx, hb, hml, hown, hts, hlk, hr, hK, hA, hN, hE⟩ := id C
  obtain ⟨j, hj, e1⟩ := vp_in_of hi (ev_len_lt k hk)
  have hb2 := ev_byt_ok k hk j hj
  have ej : i.toNatClampNeg = j := by rw [e1]; exact nI_clamp (by have := ev_len_lt k hk; omega)
  refine lv_aload_n hx hb dJ0_charAt_5068e_0 rfl (lv_at hl 0 rfl) ?_
  refine r_callGi0 C hw (c_isLatin1 hk) md_J0_isLatin1_aae02 q2_114 (vk_recv hE.2.2.2.2.1 hk hw.2.2) ⟨Nat.le_of_ble_eq_true rfl, Nat.le_of_ble_eq_true rfl⟩ ⟨Nat.zero_le _, Nat.zero_le _⟩ hl.1 rfl rfl (Nat.le_of_ble_eq_true rfl) dJ0_charAt_5068e_1 (fun H locs hw => ?_)
  refine lv_if_eq (tgt := 16) hx hb dJ0_charAt_5068e_4 (by decide) (fun h => absurd h (by decide)) (fun _ => ?_)
  refine lv_aload_n hx hb dJ0_charAt_5068e_7 rfl (lv_at hl 0 rfl) ?_
  refine vk_getf hx hb (hE.2.2.2.2.1.1 k hk).2.2.1 hw.2.2 hown (hts _ q6_50) (fun _ h => h) dJ0_charAt_5068e_8 ?_
  refine lv_iload_n hx hb dJ0_charAt_5068e_11 rfl (lv_at hl 1 rfl) ?_
  refine r_callSi0 C hw (c_l1charAt hk hi) md_J1_charAt_3b067 [] rfl rfl q2_118 ⟨Nat.le_of_ble_eq_true rfl, Nat.le_of_ble_eq_true rfl⟩ ⟨Nat.zero_le _, Nat.zero_le _⟩ hl.1 rfl rfl (Nat.le_of_ble_eq_true rfl) dJ0_charAt_5068e_12 (fun H locs hw => ?_)
  exact r_nret C hw rfl (by rw [ej]; exact hb2.2) dJ0_charAt_5068e_15
section STR2
variable {l : Launch} {g : evG} {p : Program} {e : Env} {R : Room} {s : State} {m : MethodId} {args : Array Value} {below : List Frame} {meth : Method} {c : Code} {own : String} {cc : ByteArray} {nL : Nat} {ret : Option FieldType} {A : Nat → Prop}
variable {ws : va_W} {H : Heap} {locs : List Loc} {cells slots : Nat} {Q : State → Prop} {pc : Nat} {ls : Array Slot} {rest : List Value}
theorem r_strlen (C : ctx g p s m args meth c own cc nL ret A) (w : wl g A s.heap ws H locs) {k : Nat} (hk : k < 6) {index : Nat} (hl : Cond.methodLink own index yJ0_length_8abf5 ∈ bw) (hR : 1 + 1 ≤ R.frames ∧ 8 + (1 + 11) + 20 ≤ R.locals) (hcs : cells ≤ R.cells ∧ slots ≤ R.slots) (hsz : ls.size = nL) (hrm : (rest.map fun v => v.category).sum ≤ 8) (hdg : decode cc pc = .ok (.invokevirtual index, 3))
    (kk : ∀ (H1 : Heap) (locs1 : List Loc), wl g A s.heap ws H1 locs1 → W p l e R s m args below meth c H1 locs1 cells slots Q (F0 m (pc + 3) ls (.int (ev_sl k) :: rest))) : W p l e R s m args below meth c H locs cells slots Q (F0 m pc ls (.ref (gSK g k) :: rest)) :=
  r_callGi0 C w (c_strlen hk) md_J0_length_8abf5 hl (vk_recv C.2.2.2.2.2.2.2.2.2.2.2.2.2.2.1 hk w.2.2) hR hcs hsz rfl rfl hrm hdg kk
theorem r_charAt (C : ctx g p s m args meth c own cc nL ret A) (w : wl g A s.heap ws H locs) {k : Nat} (hk : k < 6) {i : Int32} (hi : ix i (ev_len.getD k 0)) {index : Nat} (hl : Cond.methodLink own index yJ0_charAt_5068e ∈ bw) (hR : 3 + 1 ≤ R.frames ∧ 8 + (2 + 11) + 64 ≤ R.locals) (hcs : cells ≤ R.cells ∧ slots ≤ R.slots) (hsz : ls.size = nL) (hrm : (rest.map fun v => v.category).sum ≤ 8) (hdg : decode cc pc = .ok (.invokevirtual index, 3))
    (kk : ∀ (H1 : Heap) (locs1 : List Loc), wl g A s.heap ws H1 locs1 → W p l e R s m args below meth c H1 locs1 cells slots Q (F0 m (pc + 3) ls (.int (ev_sc k i.toNatClampNeg) :: rest))) : W p l e R s m args below meth c H locs cells slots Q (F0 m pc ls (.int i :: .ref (gSK g k) :: rest)) :=
  r_callGi0 C w (c_strAt hk hi) md_J0_charAt_5068e hl (vk_recv C.2.2.2.2.2.2.2.2.2.2.2.2.2.2.1 hk w.2.2) hR hcs hsz rfl rfl hrm hdg kk
end STR2
