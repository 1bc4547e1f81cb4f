theorem q1_20 : Cond.classLink RL 7 RX10 ∈ bw := bw_mem (tk_1 _ (List.mem_of_getElem? (i := 20) rfl)) rfl
theorem q1_21 : Cond.instantiable RX10 12 ∈ bw := bw_mem (tk_1 _ (List.mem_of_getElem? (i := 21) rfl)) rfl
theorem q1_22 : Cond.methodLink RL 9 yX10_init ∈ bw := bw_mem (tk_1 _ (List.mem_of_getElem? (i := 22) rfl)) rfl
theorem q1_23 : Cond.instanceMethod yX10_init ∈ bw := bw_mem (tk_1 _ (List.mem_of_getElem? (i := 23) rfl)) rfl
theorem q1_24 : Cond.code yX10_init cX10_init 1 none ∈ bw := bw_mem (tk_1 _ (List.mem_of_getElem? (i := 24) rfl)) rfl
theorem q4_163 : Cond.classLink RL 10 RX11 ∈ bw := bw_mem (tk_4 _ (List.mem_of_getElem? (i := 163) rfl)) rfl
theorem q4_164 : Cond.instantiable RX11 31 ∈ bw := bw_mem (tk_4 _ (List.mem_of_getElem? (i := 164) rfl)) rfl
theorem q4_165 : Cond.methodLink RL 12 yX11_init ∈ bw := bw_mem (tk_4 _ (List.mem_of_getElem? (i := 165) rfl)) rfl
theorem q4_166 : Cond.instanceMethod yX11_init ∈ bw := bw_mem (tk_4 _ (List.mem_of_getElem? (i := 166) rfl)) rfl
theorem q4_167 : Cond.code yX11_init cX11_init 2 none ∈ bw := bw_mem (tk_4 _ (List.mem_of_getElem? (i := 167) rfl)) rfl
theorem md_X10_init : mdI yX10_init (Cond.code yX10_init cX10_init 1 none) cX10_init 1 0 := ⟨rfl, by decide +kernel, q1_23, q1_1, q1_24⟩
theorem md_X11_init : mdI yX11_init (Cond.code yX11_init cX11_init 2 none) cX11_init 2 0 := ⟨rfl, by decide +kernel, q4_166, q1_13, q4_167⟩
set_option maxRecDepth 100000 in
theorem nw_tab : ∀ w ∈ ev_nw, w ∈ lw_tbl ∧ w.onTables = true := List.forall_mem_cons.mpr ⟨⟨tk_1 _ (List.mem_of_getElem? (i := 42) rfl), rfl⟩, List.forall_mem_cons.mpr ⟨⟨tk_1 _ (List.mem_of_getElem? (i := 43) rfl), rfl⟩, List.forall_mem_cons.mpr ⟨⟨tk_1 _ (List.mem_of_getElem? (i := 44) rfl), rfl⟩, List.forall_mem_cons.mpr ⟨⟨tk_1 _ (List.mem_of_getElem? (i := 45) rfl), rfl⟩, List.forall_mem_cons.mpr ⟨⟨tk_1 _ (List.mem_of_getElem? (i := 47) rfl), rfl⟩, List.forall_mem_cons.mpr ⟨⟨tk_1 _ (List.mem_of_getElem? (i := 48) rfl), rfl⟩, List.forall_mem_cons.mpr ⟨⟨tk_1 _ (List.mem_of_getElem? (i := 49) rfl), rfl⟩, List.forall_mem_cons.mpr ⟨⟨tk_1 _ (List.mem_of_getElem? (i := 50) rfl), rfl⟩, List.forall_mem_cons.mpr ⟨⟨tk_1 _ (List.mem_of_getElem? (i := 52) rfl), rfl⟩, List.forall_mem_cons.mpr ⟨⟨tk_1 _ (List.mem_of_getElem? (i := 53) rfl), rfl⟩, List.forall_mem_cons.mpr ⟨⟨tk_1 _ (List.mem_of_getElem? (i := 54) rfl), rfl⟩, List.forall_mem_cons.mpr ⟨⟨tk_1 _ (List.mem_of_getElem? (i := 56) rfl), rfl⟩, List.forall_mem_cons.mpr ⟨⟨tk_1 _ (List.mem_of_getElem? (i := 57) rfl), rfl⟩, List.forall_mem_cons.mpr ⟨⟨tk_1 _ (List.mem_of_getElem? (i := 58) rfl), rfl⟩, List.forall_mem_cons.mpr ⟨⟨tk_1 _ (List.mem_of_getElem? (i := 86) rfl), rfl⟩, List.forall_mem_cons.mpr ⟨⟨tk_1 _ (List.mem_of_getElem? (i := 91) rfl), rfl⟩, List.forall_mem_cons.mpr ⟨⟨tk_1 _ (List.mem_of_getElem? (i := 92) rfl), rfl⟩, List.forall_mem_cons.mpr ⟨⟨tk_1 _ (List.mem_of_getElem? (i := 112) rfl), rfl⟩, List.forall_mem_cons.mpr ⟨⟨tk_1 _ (List.mem_of_getElem? (i := 128) rfl), rfl⟩, List.forall_mem_cons.mpr ⟨⟨tk_1 _ (List.mem_of_getElem? (i := 148) rfl), rfl⟩, List.forall_mem_cons.mpr ⟨⟨tk_1 _ (List.mem_of_getElem? (i := 151) rfl), rfl⟩, List.forall_mem_cons.mpr ⟨⟨tk_1 _ (List.mem_of_getElem? (i := 180) rfl), rfl⟩, List.forall_mem_cons.mpr ⟨⟨tk_1 _ (List.mem_of_getElem? (i := 182) rfl), rfl⟩, List.forall_mem_cons.mpr ⟨⟨tk_1 _ (List.mem_of_getElem? (i := 199) rfl), rfl⟩, List.forall_mem_cons.mpr ⟨⟨tk_1 _ (List.mem_of_getElem? (i := 209) rfl), rfl⟩, List.forall_mem_cons.mpr ⟨⟨tk_1 _ (List.mem_of_getElem? (i := 222) rfl), rfl⟩, List.forall_mem_cons.mpr ⟨⟨tk_1 _ (List.mem_of_getElem? (i := 235) rfl), rfl⟩, List.forall_mem_cons.mpr ⟨⟨tk_2 _ (List.mem_of_getElem? (i := 0) rfl), rfl⟩, List.forall_mem_cons.mpr ⟨⟨tk_2 _ (List.mem_of_getElem? (i := 58) rfl), rfl⟩, List.forall_mem_cons.mpr ⟨⟨tk_2 _ (List.mem_of_getElem? (i := 162) rfl), rfl⟩, List.forall_mem_cons.mpr ⟨⟨tk_2 _ (List.mem_of_getElem? (i := 190) rfl), rfl⟩, List.forall_mem_cons.mpr ⟨⟨tk_2 _ (List.mem_of_getElem? (i := 204) rfl), rfl⟩, List.forall_mem_cons.mpr ⟨⟨tk_3 _ (List.mem_of_getElem? (i := 39) rfl), rfl⟩, List.forall_mem_cons.mpr ⟨⟨tk_3 _ (List.mem_of_getElem? (i := 49) rfl), rfl⟩, List.forall_mem_cons.mpr ⟨⟨tk_3 _ (List.mem_of_getElem? (i := 50) rfl), rfl⟩, List.forall_mem_cons.mpr ⟨⟨tk_3 _ (List.mem_of_getElem? (i := 59) rfl), rfl⟩, List.forall_mem_cons.mpr ⟨⟨tk_3 _ (List.mem_of_getElem? (i := 167) rfl), rfl⟩, List.forall_mem_cons.mpr ⟨⟨tk_4 _ (List.mem_of_getElem? (i := 23) rfl), rfl⟩, List.forall_mem_cons.mpr ⟨⟨tk_4 _ (List.mem_of_getElem? (i := 70) rfl), rfl⟩, List.forall_mem_cons.mpr ⟨⟨tk_4 _ (List.mem_of_getElem? (i := 129) rfl), rfl⟩, fun _ h => absurd h List.not_mem_nil⟩⟩⟩⟩⟩⟩⟩⟩⟩⟩⟩⟩⟩⟩⟩⟩⟩⟩⟩⟩⟩⟩⟩⟩⟩⟩⟩⟩⟩⟩⟩⟩⟩⟩⟩⟩⟩⟩⟩⟩
set_option maxRecDepth 100000 in
set_option maxHeartbeats 4000000 in
theorem ev_start {p : Program} {s : State} {m : MethodId} {meth : Method} {c : Code} {b L : Nat} {xs : Nat → Int32} (C0 : lw_At p s m meth c b L xs) : ∃ g : evG, ctx g p s m #[Value.ref b] meth c RL code 4 ret (fun q : Nat => s.heap.size ≤ q) := by
  obtain ⟨hx, hb, hr, hml, hown, hts, hX, hbl, hlocks, hgv⟩ := C0
  have hts2 : ∀ w ∈ bw, w.before #[Value.ref b] s = true := fun w h => hts w (bw_in w h)
  obtain ⟨c0, i0, hK0⟩ := u_known (C := RX0) (T := TX0) (N := 6) (n := 6) hts2 cf_X0.2.1 (hts (.instantiable RX0 6) (tk_1 _ (List.mem_of_getElem? (i := 137) rfl)))
  obtain ⟨c1, i1, hK1⟩ := u_known (C := RX1) (T := TX1) (N := 3) (n := 3) hts2 cf_X1.2.1 (hts (.instantiable RX1 3) (tk_1 _ (List.mem_of_getElem? (i := 100) rfl)))
  obtain ⟨c2, i2, hK2⟩ := u_known (C := RX2) (T := TX2) (N := 2) (n := 2) hts2 cf_X2.2.1 (hts (.instantiable RX2 2) (tk_1 _ (List.mem_of_getElem? (i := 221) rfl)))
  obtain ⟨c3, i3, hK3⟩ := u_known (C := RX3) (T := TX3) (N := 1) (n := 1) hts2 cf_X3.2.1 (hts (.instantiable RX3 1) (tk_1 _ (List.mem_of_getElem? (i := 198) rfl)))
  obtain ⟨c4, i4, hK4⟩ := u_known (C := RX4) (T := TX4) (N := 2) (n := 2) hts2 cf_X4.2.1 (hts (.instantiable RX4 2) (tk_1 _ (List.mem_of_getElem? (i := 208) rfl)))
  obtain ⟨c5, i5, hK5⟩ := u_known (C := RX5) (T := TX5) (N := 6) (n := 6) hts2 cf_X5.2.1 (hts (.instantiable RX5 6) (tk_1 _ (List.mem_of_getElem? (i := 170) rfl)))
  obtain ⟨c6, i6, hK6⟩ := u_known (C := RX6) (T := TX6) (N := 3) (n := 3) hts2 cf_X6.2.1 (hts (.instantiable RX6 3) (tk_1 _ (List.mem_of_getElem? (i := 234) rfl)))
  obtain ⟨c7, i7, hK7⟩ := u_known (C := RX7) (T := TX7) (N := 2) (n := 2) hts2 cf_X7.2.1 (hts (.instantiable RX7 2) (tk_1 _ (List.mem_of_getElem? (i := 85) rfl)))
  obtain ⟨c8, i8, hK8⟩ := u_known (C := RX8) (T := TX8) (N := 4) (n := 4) hts2 cf_X8.2.1 (hts (.instantiable RX8 4) (tk_1 _ (List.mem_of_getElem? (i := 106) rfl)))
  obtain ⟨c9, i9, hK9⟩ := u_known (C := RX9) (T := TX9) (N := 9) (n := 9) hts2 cf_X9.2.1 (hts (.instantiable RX9 9) (tk_1 _ (List.mem_of_getElem? (i := 29) rfl)))
  obtain ⟨c10, i10, hK10⟩ := u_known (C := RX10) (T := TX10) (N := 12) (n := 12) hts2 cf_X10.2.1 (hts (.instantiable RX10 12) (tk_1 _ (List.mem_of_getElem? (i := 21) rfl)))
  obtain ⟨c11, i11, hK11⟩ := u_known (C := RX11) (T := TX11) (N := 31) (n := 31) hts2 cf_X11.2.1 (hts (.instantiable RX11 31) (tk_4 _ (List.mem_of_getElem? (i := 164) rfl)))
  obtain ⟨aI, kI, compI, hI1, hI2, hI3⟩ := Cond.arrayClass_spec (hts (.arrayClass .int) (tk_1 _ (List.mem_of_getElem? (i := 83) rfl)))
  obtain ⟨aZ, kZ, compZ, hZ1, hZ2, hZ3⟩ := Cond.arrayClass_spec (hts (.arrayClass .boolean) (tk_1 _ (List.mem_of_getElem? (i := 196) rfl)))
  have hAO : va_AO "EvenDays$Days" s := va_AO.of (hts (.arrayOver (.object "EvenDays$Days")) (tk_1 _ (List.mem_of_getElem? (i := 168) rfl)))
  obtain ⟨compO, aO, kO, hO1, hO2, hO3, hO4, hO5⟩ := Cond.arrayOver_spec (va_AO.use (A := #[Value.ref b]) hAO)
  have hs := flat_of_before _ hgv
  have hA : ∀ a : Nat, a < s.heap.size → ¬ (fun q : Nat => s.heap.size ≤ q) a := fun a h => Nat.not_le.mpr h
  obtain ⟨tK, hT1, hT2⟩ := va_Tof (tm := .static "EvenDays" "KIND_ABOVE" "[I") (ty := .int) (N := 7) (f := fun j => .int (ev_ka j)) (A := fun q : Nat => s.heap.size ≤ q) (by decide) (hs (.arrayOf (.static "EvenDays" "KIND_ABOVE" "[I") .int) (by decide +kernel)) (va_eqt (z := 7) (hs _ (by decide +kernel))) (fun j hj => by
    match j, hj with
    | 0, _ => exact va_eqt (z := -1) (hs (.eq (.elem (.static "EvenDays" "KIND_ABOVE" "[I") (.int 0)) (.int (-1))) (by decide +kernel))
    | 1, _ => exact va_eqt (z := 0) (hs (.eq (.elem (.static "EvenDays" "KIND_ABOVE" "[I") (.int 1)) (.int (0))) (by decide +kernel))
    | 2, _ => exact va_eqt (z := 0) (hs (.eq (.elem (.static "EvenDays" "KIND_ABOVE" "[I") (.int 2)) (.int (0))) (by decide +kernel))
    | 3, _ => exact va_eqt (z := 1) (hs (.eq (.elem (.static "EvenDays" "KIND_ABOVE" "[I") (.int 3)) (.int (1))) (by decide +kernel))
    | 4, _ => exact va_eqt (z := 3) (hs (.eq (.elem (.static "EvenDays" "KIND_ABOVE" "[I") (.int 4)) (.int (3))) (by decide +kernel))
    | 5, _ => exact va_eqt (z := 1) (hs (.eq (.elem (.static "EvenDays" "KIND_ABOVE" "[I") (.int 5)) (.int (1))) (by decide +kernel))
    | 6, _ => exact va_eqt (z := 2) (hs (.eq (.elem (.static "EvenDays" "KIND_ABOVE" "[I") (.int 6)) (.int (2))) (by decide +kernel))
    | j + 7, hj => omega) hA
  obtain ⟨aK, aV, hV1, hV2⟩ := vk_Sof (N := 6) (tm := fun i => .string "EvenDays$Lines" (ev_si i)) (len := ev_len) (byt := ev_byt) (A := fun q : Nat => s.heap.size ≤ q) ev_len_lt
    (fun i hi => by
    match i, hi with
    | 0, _ => exact hs (.exactly (.string "EvenDays$Lines" 48) "java/lang/String") (by decide +kernel)
    | 1, _ => exact hs (.exactly (.string "EvenDays$Lines" 57) "java/lang/String") (by decide +kernel)
    | 2, _ => exact hs (.exactly (.string "EvenDays$Lines" 62) "java/lang/String") (by decide +kernel)
    | 3, _ => exact hs (.exactly (.string "EvenDays$Lines" 67) "java/lang/String") (by decide +kernel)
    | 4, _ => exact hs (.exactly (.string "EvenDays$Lines" 72) "java/lang/String") (by decide +kernel)
    | 5, _ => exact hs (.exactly (.string "EvenDays$Lines" 77) "java/lang/String") (by decide +kernel)
    | i + 6, hi => omega)
    (fun i hi => by
    match i, hi with
    | 0, _ => exact hs (.eq (.field (.string "EvenDays$Lines" 48) "java/lang/String" "coder" "B") (.int 0)) (by decide +kernel)
    | 1, _ => exact hs (.eq (.field (.string "EvenDays$Lines" 57) "java/lang/String" "coder" "B") (.int 0)) (by decide +kernel)
    | 2, _ => exact hs (.eq (.field (.string "EvenDays$Lines" 62) "java/lang/String" "coder" "B") (.int 0)) (by decide +kernel)
    | 3, _ => exact hs (.eq (.field (.string "EvenDays$Lines" 67) "java/lang/String" "coder" "B") (.int 0)) (by decide +kernel)
    | 4, _ => exact hs (.eq (.field (.string "EvenDays$Lines" 72) "java/lang/String" "coder" "B") (.int 0)) (by decide +kernel)
    | 5, _ => exact hs (.eq (.field (.string "EvenDays$Lines" 77) "java/lang/String" "coder" "B") (.int 0)) (by decide +kernel)
    | i + 6, hi => omega)
    (fun i hi => by
    match i, hi with
    | 0, _ => exact hs (.arrayOf (.field (.string "EvenDays$Lines" 48) "java/lang/String" "value" "[B") .byte) (by decide +kernel)
    | 1, _ => exact hs (.arrayOf (.field (.string "EvenDays$Lines" 57) "java/lang/String" "value" "[B") .byte) (by decide +kernel)
    | 2, _ => exact hs (.arrayOf (.field (.string "EvenDays$Lines" 62) "java/lang/String" "value" "[B") .byte) (by decide +kernel)
    | 3, _ => exact hs (.arrayOf (.field (.string "EvenDays$Lines" 67) "java/lang/String" "value" "[B") .byte) (by decide +kernel)
    | 4, _ => exact hs (.arrayOf (.field (.string "EvenDays$Lines" 72) "java/lang/String" "value" "[B") .byte) (by decide +kernel)
    | 5, _ => exact hs (.arrayOf (.field (.string "EvenDays$Lines" 77) "java/lang/String" "value" "[B") .byte) (by decide +kernel)
    | i + 6, hi => omega)
    (fun i hi => by
    match i, hi with
    | 0, _ => exact hs (.eq (.length (.field (.string "EvenDays$Lines" 48) "java/lang/String" "value" "[B")) (.int 6)) (by decide +kernel)
    | 1, _ => exact hs (.eq (.length (.field (.string "EvenDays$Lines" 57) "java/lang/String" "value" "[B")) (.int 4)) (by decide +kernel)
    | 2, _ => exact hs (.eq (.length (.field (.string "EvenDays$Lines" 62) "java/lang/String" "value" "[B")) (.int 4)) (by decide +kernel)
    | 3, _ => exact hs (.eq (.length (.field (.string "EvenDays$Lines" 67) "java/lang/String" "value" "[B")) (.int 5)) (by decide +kernel)
    | 4, _ => exact hs (.eq (.length (.field (.string "EvenDays$Lines" 72) "java/lang/String" "value" "[B")) (.int 4)) (by decide +kernel)
    | 5, _ => exact hs (.eq (.length (.field (.string "EvenDays$Lines" 77) "java/lang/String" "value" "[B")) (.int 4)) (by decide +kernel)
    | i + 6, hi => omega)
    (fun i hi => by
    match i, hi with
    | 0, _ => exact (fun j hj => by
      match j, hj with
      | 0, _ => exact hs (.eq (.elem (.field (.string "EvenDays$Lines" 48) "java/lang/String" "value" "[B") (.int 0)) (.int 116)) (by decide +kernel)
      | 1, _ => exact hs (.eq (.elem (.field (.string "EvenDays$Lines" 48) "java/lang/String" "value" "[B") (.int 1)) (.int 114)) (by decide +kernel)
      | 2, _ => exact hs (.eq (.elem (.field (.string "EvenDays$Lines" 48) "java/lang/String" "value" "[B") (.int 2)) (.int 101)) (by decide +kernel)
      | 3, _ => exact hs (.eq (.elem (.field (.string "EvenDays$Lines" 48) "java/lang/String" "value" "[B") (.int 3)) (.int 97)) (by decide +kernel)
      | 4, _ => exact hs (.eq (.elem (.field (.string "EvenDays$Lines" 48) "java/lang/String" "value" "[B") (.int 4)) (.int 116)) (by decide +kernel)
      | 5, _ => exact hs (.eq (.elem (.field (.string "EvenDays$Lines" 48) "java/lang/String" "value" "[B") (.int 5)) (.int 121)) (by decide +kernel)
      | j + 6, hj => exact absurd hj (by simp [ev_len]))
    | 1, _ => exact (fun j hj => by
      match j, hj with
      | 0, _ => exact hs (.eq (.elem (.field (.string "EvenDays$Lines" 57) "java/lang/String" "value" "[B") (.int 0)) (.int 119)) (by decide +kernel)
      | 1, _ => exact hs (.eq (.elem (.field (.string "EvenDays$Lines" 57) "java/lang/String" "value" "[B") (.int 1)) (.int 111)) (by decide +kernel)
      | 2, _ => exact hs (.eq (.elem (.field (.string "EvenDays$Lines" 57) "java/lang/String" "value" "[B") (.int 2)) (.int 114)) (by decide +kernel)
      | 3, _ => exact hs (.eq (.elem (.field (.string "EvenDays$Lines" 57) "java/lang/String" "value" "[B") (.int 3)) (.int 107)) (by decide +kernel)
      | j + 4, hj => exact absurd hj (by simp [ev_len]))
    | 2, _ => exact (fun j hj => by
      match j, hj with
      | 0, _ => exact hs (.eq (.elem (.field (.string "EvenDays$Lines" 62) "java/lang/String" "value" "[B") (.int 0)) (.int 107)) (by decide +kernel)
      | 1, _ => exact hs (.eq (.elem (.field (.string "EvenDays$Lines" 62) "java/lang/String" "value" "[B") (.int 1)) (.int 105)) (by decide +kernel)
      | 2, _ => exact hs (.eq (.elem (.field (.string "EvenDays$Lines" 62) "java/lang/String" "value" "[B") (.int 2)) (.int 110)) (by decide +kernel)
      | 3, _ => exact hs (.eq (.elem (.field (.string "EvenDays$Lines" 62) "java/lang/String" "value" "[B") (.int 3)) (.int 100)) (by decide +kernel)
      | j + 4, hj => exact absurd hj (by simp [ev_len]))
    | 3, _ => exact (fun j hj => by
      match j, hj with
      | 0, _ => exact hs (.eq (.elem (.field (.string "EvenDays$Lines" 67) "java/lang/String" "value" "[B") (.int 0)) (.int 109)) (by decide +kernel)
      | 1, _ => exact hs (.eq (.elem (.field (.string "EvenDays$Lines" 67) "java/lang/String" "value" "[B") (.int 1)) (.int 101)) (by decide +kernel)
      | 2, _ => exact hs (.eq (.elem (.field (.string "EvenDays$Lines" 67) "java/lang/String" "value" "[B") (.int 2)) (.int 97)) (by decide +kernel)
      | 3, _ => exact hs (.eq (.elem (.field (.string "EvenDays$Lines" 67) "java/lang/String" "value" "[B") (.int 3)) (.int 110)) (by decide +kernel)
      | 4, _ => exact hs (.eq (.elem (.field (.string "EvenDays$Lines" 67) "java/lang/String" "value" "[B") (.int 4)) (.int 116)) (by decide +kernel)
      | j + 5, hj => exact absurd hj (by simp [ev_len]))
    | 4, _ => exact (fun j hj => by
      match j, hj with
      | 0, _ => exact hs (.eq (.elem (.field (.string "EvenDays$Lines" 72) "java/lang/String" "value" "[B") (.int 0)) (.int 101)) (by decide +kernel)
      | 1, _ => exact hs (.eq (.elem (.field (.string "EvenDays$Lines" 72) "java/lang/String" "value" "[B") (.int 1)) (.int 97)) (by decide +kernel)
      | 2, _ => exact hs (.eq (.elem (.field (.string "EvenDays$Lines" 72) "java/lang/String" "value" "[B") (.int 2)) (.int 116)) (by decide +kernel)
      | 3, _ => exact hs (.eq (.elem (.field (.string "EvenDays$Lines" 72) "java/lang/String" "value" "[B") (.int 3)) (.int 115)) (by decide +kernel)
      | j + 4, hj => exact absurd hj (by simp [ev_len]))
    | 5, _ => exact (fun j hj => by
      match j, hj with
      | 0, _ => exact hs (.eq (.elem (.field (.string "EvenDays$Lines" 77) "java/lang/String" "value" "[B") (.int 0)) (.int 102)) (by decide +kernel)
      | 1, _ => exact hs (.eq (.elem (.field (.string "EvenDays$Lines" 77) "java/lang/String" "value" "[B") (.int 1)) (.int 105)) (by decide +kernel)
      | 2, _ => exact hs (.eq (.elem (.field (.string "EvenDays$Lines" 77) "java/lang/String" "value" "[B") (.int 2)) (.int 110)) (by decide +kernel)
      | 3, _ => exact hs (.eq (.elem (.field (.string "EvenDays$Lines" 77) "java/lang/String" "value" "[B") (.int 3)) (.int 101)) (by decide +kernel)
      | j + 4, hj => exact absurd hj (by simp [ev_len]))
    | i + 6, hi => omega)
    (fun i j hi hj hij => by
    match i, hi, j, hj with
    | 0, _, 0, _ => exact absurd rfl hij
    | 0, _, 1, _ => first | exact Or.inl (hs (.not (.eq (.string "EvenDays$Lines" 48) (.string "EvenDays$Lines" 57))) (by decide +kernel)) | exact Or.inr (hs (.not (.eq (.string "EvenDays$Lines" 57) (.string "EvenDays$Lines" 48))) (by decide +kernel))
    | 0, _, 2, _ => first | exact Or.inl (hs (.not (.eq (.string "EvenDays$Lines" 48) (.string "EvenDays$Lines" 62))) (by decide +kernel)) | exact Or.inr (hs (.not (.eq (.string "EvenDays$Lines" 62) (.string "EvenDays$Lines" 48))) (by decide +kernel))
    | 0, _, 3, _ => first | exact Or.inl (hs (.not (.eq (.string "EvenDays$Lines" 48) (.string "EvenDays$Lines" 67))) (by decide +kernel)) | exact Or.inr (hs (.not (.eq (.string "EvenDays$Lines" 67) (.string "EvenDays$Lines" 48))) (by decide +kernel))
    | 0, _, 4, _ => first | exact Or.inl (hs (.not (.eq (.string "EvenDays$Lines" 48) (.string "EvenDays$Lines" 72))) (by decide +kernel)) | exact Or.inr (hs (.not (.eq (.string "EvenDays$Lines" 72) (.string "EvenDays$Lines" 48))) (by decide +kernel))
    | 0, _, 5, _ => first | exact Or.inl (hs (.not (.eq (.string "EvenDays$Lines" 48) (.string "EvenDays$Lines" 77))) (by decide +kernel)) | exact Or.inr (hs (.not (.eq (.string "EvenDays$Lines" 77) (.string "EvenDays$Lines" 48))) (by decide +kernel))
    | 1, _, 0, _ => first | exact Or.inl (hs (.not (.eq (.string "EvenDays$Lines" 57) (.string "EvenDays$Lines" 48))) (by decide +kernel)) | exact Or.inr (hs (.not (.eq (.string "EvenDays$Lines" 48) (.string "EvenDays$Lines" 57))) (by decide +kernel))
    | 1, _, 1, _ => exact absurd rfl hij
    | 1, _, 2, _ => first | exact Or.inl (hs (.not (.eq (.string "EvenDays$Lines" 57) (.string "EvenDays$Lines" 62))) (by decide +kernel)) | exact Or.inr (hs (.not (.eq (.string "EvenDays$Lines" 62) (.string "EvenDays$Lines" 57))) (by decide +kernel))
    | 1, _, 3, _ => first | exact Or.inl (hs (.not (.eq (.string "EvenDays$Lines" 57) (.string "EvenDays$Lines" 67))) (by decide +kernel)) | exact Or.inr (hs (.not (.eq (.string "EvenDays$Lines" 67) (.string "EvenDays$Lines" 57))) (by decide +kernel))
    | 1, _, 4, _ => first | exact Or.inl (hs (.not (.eq (.string "EvenDays$Lines" 57) (.string "EvenDays$Lines" 72))) (by decide +kernel)) | exact Or.inr (hs (.not (.eq (.string "EvenDays$Lines" 72) (.string "EvenDays$Lines" 57))) (by decide +kernel))
    | 1, _, 5, _ => first | exact Or.inl (hs (.not (.eq (.string "EvenDays$Lines" 57) (.string "EvenDays$Lines" 77))) (by decide +kernel)) | exact Or.inr (hs (.not (.eq (.string "EvenDays$Lines" 77) (.string "EvenDays$Lines" 57))) (by decide +kernel))
    | 2, _, 0, _ => first | exact Or.inl (hs (.not (.eq (.string "EvenDays$Lines" 62) (.string "EvenDays$Lines" 48))) (by decide +kernel)) | exact Or.inr (hs (.not (.eq (.string "EvenDays$Lines" 48) (.string "EvenDays$Lines" 62))) (by decide +kernel))
    | 2, _, 1, _ => first | exact Or.inl (hs (.not (.eq (.string "EvenDays$Lines" 62) (.string "EvenDays$Lines" 57))) (by decide +kernel)) | exact Or.inr (hs (.not (.eq (.string "EvenDays$Lines" 57) (.string "EvenDays$Lines" 62))) (by decide +kernel))
    | 2, _, 2, _ => exact absurd rfl hij
    | 2, _, 3, _ => first | exact Or.inl (hs (.not (.eq (.string "EvenDays$Lines" 62) (.string "EvenDays$Lines" 67))) (by decide +kernel)) | exact Or.inr (hs (.not (.eq (.string "EvenDays$Lines" 67) (.string "EvenDays$Lines" 62))) (by decide +kernel))
    | 2, _, 4, _ => first | exact Or.inl (hs (.not (.eq (.string "EvenDays$Lines" 62) (.string "EvenDays$Lines" 72))) (by decide +kernel)) | exact Or.inr (hs (.not (.eq (.string "EvenDays$Lines" 72) (.string "EvenDays$Lines" 62))) (by decide +kernel))
    | 2, _, 5, _ => first | exact Or.inl (hs (.not (.eq (.string "EvenDays$Lines" 62) (.string "EvenDays$Lines" 77))) (by decide +kernel)) | exact Or.inr (hs (.not (.eq (.string "EvenDays$Lines" 77) (.string "EvenDays$Lines" 62))) (by decide +kernel))
    | 3, _, 0, _ => first | exact Or.inl (hs (.not (.eq (.string "EvenDays$Lines" 67) (.string "EvenDays$Lines" 48))) (by decide +kernel)) | exact Or.inr (hs (.not (.eq (.string "EvenDays$Lines" 48) (.string "EvenDays$Lines" 67))) (by decide +kernel))
    | 3, _, 1, _ => first | exact Or.inl (hs (.not (.eq (.string "EvenDays$Lines" 67) (.string "EvenDays$Lines" 57))) (by decide +kernel)) | exact Or.inr (hs (.not (.eq (.string "EvenDays$Lines" 57) (.string "EvenDays$Lines" 67))) (by decide +kernel))
    | 3, _, 2, _ => first | exact Or.inl (hs (.not (.eq (.string "EvenDays$Lines" 67) (.string "EvenDays$Lines" 62))) (by decide +kernel)) | exact Or.inr (hs (.not (.eq (.string "EvenDays$Lines" 62) (.string "EvenDays$Lines" 67))) (by decide +kernel))
    | 3, _, 3, _ => exact absurd rfl hij
    | 3, _, 4, _ => first | exact Or.inl (hs (.not (.eq (.string "EvenDays$Lines" 67) (.string "EvenDays$Lines" 72))) (by decide +kernel)) | exact Or.inr (hs (.not (.eq (.string "EvenDays$Lines" 72) (.string "EvenDays$Lines" 67))) (by decide +kernel))
    | 3, _, 5, _ => first | exact Or.inl (hs (.not (.eq (.string "EvenDays$Lines" 67) (.string "EvenDays$Lines" 77))) (by decide +kernel)) | exact Or.inr (hs (.not (.eq (.string "EvenDays$Lines" 77) (.string "EvenDays$Lines" 67))) (by decide +kernel))
    | 4, _, 0, _ => first | exact Or.inl (hs (.not (.eq (.string "EvenDays$Lines" 72) (.string "EvenDays$Lines" 48))) (by decide +kernel)) | exact Or.inr (hs (.not (.eq (.string "EvenDays$Lines" 48) (.string "EvenDays$Lines" 72))) (by decide +kernel))
    | 4, _, 1, _ => first | exact Or.inl (hs (.not (.eq (.string "EvenDays$Lines" 72) (.string "EvenDays$Lines" 57))) (by decide +kernel)) | exact Or.inr (hs (.not (.eq (.string "EvenDays$Lines" 57) (.string "EvenDays$Lines" 72))) (by decide +kernel))
    | 4, _, 2, _ => first | exact Or.inl (hs (.not (.eq (.string "EvenDays$Lines" 72) (.string "EvenDays$Lines" 62))) (by decide +kernel)) | exact Or.inr (hs (.not (.eq (.string "EvenDays$Lines" 62) (.string "EvenDays$Lines" 72))) (by decide +kernel))
    | 4, _, 3, _ => first | exact Or.inl (hs (.not (.eq (.string "EvenDays$Lines" 72) (.string "EvenDays$Lines" 67))) (by decide +kernel)) | exact Or.inr (hs (.not (.eq (.string "EvenDays$Lines" 67) (.string "EvenDays$Lines" 72))) (by decide +kernel))
    | 4, _, 4, _ => exact absurd rfl hij
    | 4, _, 5, _ => first | exact Or.inl (hs (.not (.eq (.string "EvenDays$Lines" 72) (.string "EvenDays$Lines" 77))) (by decide +kernel)) | exact Or.inr (hs (.not (.eq (.string "EvenDays$Lines" 77) (.string "EvenDays$Lines" 72))) (by decide +kernel))
    | 5, _, 0, _ => first | exact Or.inl (hs (.not (.eq (.string "EvenDays$Lines" 77) (.string "EvenDays$Lines" 48))) (by decide +kernel)) | exact Or.inr (hs (.not (.eq (.string "EvenDays$Lines" 48) (.string "EvenDays$Lines" 77))) (by decide +kernel))
    | 5, _, 1, _ => first | exact Or.inl (hs (.not (.eq (.string "EvenDays$Lines" 77) (.string "EvenDays$Lines" 57))) (by decide +kernel)) | exact Or.inr (hs (.not (.eq (.string "EvenDays$Lines" 57) (.string "EvenDays$Lines" 77))) (by decide +kernel))
    | 5, _, 2, _ => first | exact Or.inl (hs (.not (.eq (.string "EvenDays$Lines" 77) (.string "EvenDays$Lines" 62))) (by decide +kernel)) | exact Or.inr (hs (.not (.eq (.string "EvenDays$Lines" 62) (.string "EvenDays$Lines" 77))) (by decide +kernel))
    | 5, _, 3, _ => first | exact Or.inl (hs (.not (.eq (.string "EvenDays$Lines" 77) (.string "EvenDays$Lines" 67))) (by decide +kernel)) | exact Or.inr (hs (.not (.eq (.string "EvenDays$Lines" 67) (.string "EvenDays$Lines" 77))) (by decide +kernel))
    | 5, _, 4, _ => first | exact Or.inl (hs (.not (.eq (.string "EvenDays$Lines" 77) (.string "EvenDays$Lines" 72))) (by decide +kernel)) | exact Or.inr (hs (.not (.eq (.string "EvenDays$Lines" 72) (.string "EvenDays$Lines" 77))) (by decide +kernel))
    | 5, _, 5, _ => exact absurd rfl hij
    | i + 6, hi, _, _ => omega
    | _, _, j + 6, hj => omega) hA
  refine ⟨((fun k => ([c0, c1, c2, c3, c4, c5, c6, c7, c8, c9, c10, c11] : List ClassId).getD k c0, fun k => ([i0, i1, i2, i3, i4, i5, i6, i7, i8, i9, i10, i11] : List (Nat → Nat)).getD k i0), (aI, aZ, aO), (tK, 0), (aK, aV)), hx, hb, hml, hown, hts2, hlocks, hr, ⟨?_, ?_⟩, fun _ h => h, ⟨fun w hw => va_Nw.of (nw_tab w hw).2 (hts w (nw_tab w hw).1), hAO⟩, ?_⟩
  · intro k q hq
    match k, hq with
    | 0, hq => cases hq; exact hK0
    | 1, hq => cases hq; exact hK1
    | 2, hq => cases hq; exact hK2
    | 3, hq => cases hq; exact hK3
    | 4, hq => cases hq; exact hK4
    | 5, hq => cases hq; exact hK5
    | 6, hq => cases hq; exact hK6
    | 7, hq => cases hq; exact hK7
    | 8, hq => cases hq; exact hK8
    | 9, hq => cases hq; exact hK9
    | 10, hq => cases hq; exact hK10
    | 11, hq => cases hq; exact hK11
    | k + 12, hq => simp [vwCl] at hq
  · intro k q hq
    match k, hq with
    | 0, hq => cases hq; exact ⟨fun n z => ⟨fun k h => (by cases h), kI, hI2, compI, hI3⟩, hI1⟩
    | 1, hq => cases hq; exact ⟨fun n z => ⟨fun k h => (by cases h), kZ, hZ2, compZ, hZ3⟩, hZ1⟩
    | 2, hq => cases hq; exact ⟨fun n z => ⟨fun k h => (by cases h), kO, hO3, compO, hO4⟩, kO, compO, hO3, hO4, hO1, hO5⟩
    | k + 3, hq => simp [tys] at hq
  · refine ⟨va_Zof (hts (.laysStatic "EvenDays" "KIND_ABOVE" "[I") (tk_3 _ (List.mem_of_getElem? (i := 151) rfl))) (hts (.initialized "EvenDays") (tk_1 _ (List.mem_of_getElem? (i := 1) rfl))) hT1 hA, hT2, va_Zof (hts (.laysStatic "java/lang/String" "COMPACT_STRINGS" "Z") (tk_2 _ (List.mem_of_getElem? (i := 109) rfl))) (hts (.initialized "java/lang/String") (tk_1 _ (List.mem_of_getElem? (i := 14) rfl))) (va_eqt (z := 1) (hs (.eq (.static "java/lang/String" "COMPACT_STRINGS" "Z") (.int 1)) (by decide +kernel))) hA, va_Zqof (hts (.laysStatic "jdk/internal/util/Preconditions" "SIOOBE_FORMATTER" "Ljava/util/function/BiFunction;") (tk_2 _ (List.mem_of_getElem? (i := 125) rfl))) (hts (.initialized "jdk/internal/util/Preconditions") (tk_1 _ (List.mem_of_getElem? (i := 16) rfl))) (hs (.isRef (.static "jdk/internal/util/Preconditions" "SIOOBE_FORMATTER" "Ljava/util/function/BiFunction;")) (by decide +kernel)) hA, hV1, fun i hi => ?_⟩
    have h2 := hV2 i hi
    match i, hi, h2 with
    | 0, _, h2 => exact vk_R.of (hts (.stringRef "EvenDays$Lines" 48 "treaty") (tk_2 _ (List.mem_of_getElem? (i := 95) rfl))) h2
    | 1, _, h2 => exact vk_R.of (hts (.stringRef "EvenDays$Lines" 57 "work") (tk_2 _ (List.mem_of_getElem? (i := 164) rfl))) h2
    | 2, _, h2 => exact vk_R.of (hts (.stringRef "EvenDays$Lines" 62 "kind") (tk_2 _ (List.mem_of_getElem? (i := 177) rfl))) h2
    | 3, _, h2 => exact vk_R.of (hts (.stringRef "EvenDays$Lines" 67 "meant") (tk_2 _ (List.mem_of_getElem? (i := 191) rfl))) h2
    | 4, _, h2 => exact vk_R.of (hts (.stringRef "EvenDays$Lines" 72 "eats") (tk_2 _ (List.mem_of_getElem? (i := 214) rfl))) h2
    | 5, _, h2 => exact vk_R.of (hts (.stringRef "EvenDays$Lines" 77 "fine") (tk_2 _ (List.mem_of_getElem? (i := 219) rfl))) h2
    | i + 6, hi, _ => omega
theorem wl_swap {g : evG} {A : Nat → Prop} {H0 H : Heap} {a b : va_W} {locs : List Loc} (w : wl g A H0 (a ++ b) H locs) : wl g A H0 (b ++ a) H locs :=
  wl_perm w (List.range' a.length b.length ++ List.range' 0 a.length) (nd_of _ (List.nodup_append.mpr ⟨List.nodup_range', List.nodup_range', fun x hx y hy e => by
    have h1 := (List.mem_range'_1.mp hx).1
    have h2 := (List.mem_range'_1.mp hy).2
    omega⟩)) (by rw [List.map_append, List.map_append, seg_r, seg_l])
set_option maxRecDepth 100000 in
set_option maxHeartbeats 4000000 in
theorem whole_open {p : Program} {e : Env} {s : State} {m : MethodId} {below : List Frame} {meth : Method} {c : Code} (l : Launch) {b L : Nat} {xs : Nat → Int32} (C0 : lw_At p s m meth c b L xs) (hpure : ∃ oT oD oM : Gp, fX9_init = some oT ∧ fX0_init = some oD ∧ fX11_init = some oM ∧ lL_law_18 xs L fu oM (fun _ _ => 0) (fun _ _ => 0) (fun _ _ => 0) oD (fun _ _ => 0) (fun _ _ => 0) oT oT oD oD (fun _ _ => 0) (fun _ _ => 0) (fun _ _ => 0) (fun _ _ => 0) 0 = some 1) : W p l e room_1 s m #[Value.ref b] below meth c s.heap [] 0 0 (lw_Z below #[Value.ref b] s) (entryFrame m ([Value.ref b] : List Value).toArray 4) := by
  obtain ⟨g, C⟩ := ev_start C0
  obtain ⟨hx0, hb0, hr0, hml0, hown0, hts0, hX, hbl, hlocks0, hgv0⟩ := C0
  obtain ⟨oT, oD, oM, hT, hD, hM, hloop⟩ := hpure
  obtain ⟨hx, hb, hml, hown, hts, -⟩ := id C
  have hl := lv_entry ([.ref b]) (n := 4) (Nat.le_of_ble_eq_true rfl)
  rw [lg_entry_eq]
  generalize (lg_sl ([.ref b]) ++ List.replicate (4 - (lg_sl ([.ref b])).length) Slot.unset).toArray = ls at hl ⊢
  have hl : lv_has ls 4 [(0, .ref b)] := hl
  have hw : wl g (fun q : Nat => s.heap.size ≤ q) s.heap [] s.heap [] := ⟨fun k q h => by simp at h, ⟨fun i j p q h => by simp at h, fun k q h => by simp at h⟩, va_S.rf⟩
  refine r_newOb C hw cf_X10 (fs := [.null, .null, .null, .null, .null, .null, .null, .null, .null, .null, .null, .null]) q1_20 q1_21 q1_1 (by decide) (Nat.le_of_ble_eq_true rfl) (Nat.le_of_ble_eq_true rfl) dL_law_0 (fun q1 H hw => ?_)
  refine lv_dup hx hb dL_law_3 rfl ?_
  refine r_callC C hw (c_X10_init (h0 := q1) hT hD) md_X10_init rfl q1_22 ⟨Nat.le_of_ble_eq_true rfl, Nat.le_of_ble_eq_true rfl⟩ ⟨Nat.le_of_ble_eq_true rfl, Nat.le_of_ble_eq_true rfl⟩ hl.1 rfl rfl (Nat.le_of_ble_eq_true rfl) dL_law_4 (fun ad H locs hu hw9 => ?_)
  have hu : ad 0 0 = q1 := hu
  subst hu
  refine lv_astore_n (lv' := [(1, .ref (ad 0 0)), (0, .ref b)]) hx hb dL_law_7 rfl hl (by decide) rfl (fun ls hl => ?_)
  refine r_newOb C hw9 cf_X11 (fs := [.null, .null, .null, .int 0, .null, .int 0, .int 0, .int 0, .null, .null, .null, .int 0, .int 0, .int 0, .int 0, .int 0, .int 0, .int 0, .null, .null, .null, .int 0, .null, .null, .null, .null, .null, .null, .null, .int 0, .null]) q4_163 q4_164 q1_13 (by decide) (Nat.le_of_ble_eq_true rfl) (Nat.le_of_ble_eq_true rfl) dL_law_8 (fun q2 H hw8 => ?_)
  refine lv_dup hx hb dL_law_11 rfl ?_
  refine r_callC C hw8 (c_X11_init (h0 := q2) hM) md_X11_init rfl q4_165 ⟨Nat.le_of_ble_eq_true rfl, Nat.le_of_ble_eq_true rfl⟩ ⟨Nat.le_of_ble_eq_true rfl, Nat.le_of_ble_eq_true rfl⟩ hl.1 rfl rfl (Nat.le_of_ble_eq_true rfl) dL_law_12 (fun zm H locs hu hw7 => ?_)
  have hu : zm 0 = q2 := hu
  subst hu
  refine lv_astore_n (lv' := [(2, .ref (zm 0)), (1, .ref (ad 0 0)), (0, .ref b)]) hx hb dL_law_15 rfl hl (by decide) rfl (fun ls hl => ?_)
  refine lv_iconst (v := (0 : Int32)) hx hb dL_law_16 rfl ?_
  refine lv_istore_n (lv' := [(3, .int (0 : Int32)), (2, .ref (zm 0)), (1, .ref (ad 0 0)), (0, .ref b)]) hx hb dL_law_17 rfl hl (by decide) rfl (fun ls hl => ?_)
  have hw6 := wl_swap hw7
  refine W.widen (k := 68) (n := 17327) (Nat.le_of_ble_eq_true rfl) (Nat.le_of_ble_eq_true rfl) ?_
  exact klL_law_18 (ad := ad) (zm := zm) C hX hbl fu _ _ _ _ _ _ _ _ _ _ _ _ _ _ _ _ _ _ _ hloop hw6 (lv_sub hl [3, 2, 1, 0] rfl)
