set_option maxRecDepth 100000 in
set_option maxHeartbeats 4000000 in
theorem c_X11_readsRest {l : Launch} {g : evG} {zm : Nat → Nat} {r : Int32} {om : Gp}  {Tm : Gp} {x1 : Int32} (hf : fX11_readsRest Tm x1 = some (r, om)) : CTi l g yX11_readsRest (Cond.code yX11_readsRest cX11_readsRest 2 (some .boolean)) 4 88 [.ref (zm 0), .int x1] (gcM g zm Tm) (gcM g zm om) r := by
  refine ct_i rfl (Nat.le_of_ble_eq_true rfl) ?_
  intro p e s m args below meth c A ls C hw hl
  have C : ctx g p s m args meth c RX11 cX11_readsRest 2 (some .boolean) A := C
  have hl : lv_has ls 2 [(0, .ref (zm 0)), (1, .int x1)] := hl
  obtain ⟨hx, hb, hml, hown, hts, -⟩ := id C
  unfold fX11_readsRest at hf
  refine lv_iload_n hx hb dX11_readsRest_0 rfl (lv_at hl 1 rfl) ?_
  by_cases hs9 : x1 = (0 : Int32)
  · have hf := it_p hf hs9
    refine lv_tableIn (off := 35) (tgt := 36) hx hb dX11_readsRest_1 (by rw [hs9]; decide) (by rw [hs9]; decide) (by rw [hs9]; rfl) (by decide) ?_
    refine lv_aload_n hx hb dX11_readsRest_36 rfl (lv_at hl 0 rfl) ?_
    refine lv_iconst (v := (0 : Int32)) hx hb dX11_readsRest_37 rfl ?_
    refine lv_iconst (v := (1 : Int32)) hx hb dX11_readsRest_38 rfl ?_
    refine lv_bipush (v := (6 : Int32)) hx hb dX11_readsRest_39 rfl ?_
    obtain ⟨r1, Tm_2, hc3, hf⟩ := bd2_e hf
    refine r_callViF C hw (c_X11_reads (zm := zm) hc3) md_X11_reads [0, 1, 2, 3, 4, 5, 6, 7, 8, 9, 10, 11, 12, 13, 14, 15, 16, 17, 18] rfl rfl rfl rfl q5_73 0 rfl cf_X11.1 ⟨Nat.le_of_ble_eq_true rfl, Nat.le_of_ble_eq_true rfl⟩ ⟨Nat.zero_le _, Nat.zero_le _⟩ hl.1 rfl rfl (Nat.le_of_ble_eq_true rfl) dX11_readsRest_41 (fun H locs hw => ?_)
    refine lv_if_eq (tgt := 61) hx hb dX11_readsRest_44 (by decide) (fun hc8 => ?_) (fun hc8 => ?_)
    · have hf := it_p hf hc8
      refine lv_iconst (v := (0 : Int32)) hx hb dX11_readsRest_61 rfl ?_
      obtain ⟨rfl, rfl⟩ := so2 hf
      exact r_zret C hw rfl rfl dX11_readsRest_62
    · have hf := it_n hf hc8
      refine lv_aload_n hx hb dX11_readsRest_47 rfl (lv_at hl 0 rfl) ?_
      refine lv_iconst (v := (1 : Int32)) hx hb dX11_readsRest_48 rfl ?_
      refine lv_iconst (v := (1 : Int32)) hx hb dX11_readsRest_49 rfl ?_
      refine lv_iconst (v := (4 : Int32)) hx hb dX11_readsRest_50 rfl ?_
      obtain ⟨r4, Tm_5, hc6, hf⟩ := bd2_e hf
      refine r_callViF C hw (c_X11_reads (zm := zm) hc6) md_X11_reads [0, 1, 2, 3, 4, 5, 6, 7, 8, 9, 10, 11, 12, 13, 14, 15, 16, 17, 18] rfl rfl rfl rfl q5_73 0 rfl cf_X11.1 ⟨Nat.le_of_ble_eq_true rfl, Nat.le_of_ble_eq_true rfl⟩ ⟨Nat.zero_le _, Nat.zero_le _⟩ hl.1 rfl rfl (Nat.le_of_ble_eq_true rfl) dX11_readsRest_51 (fun H locs hw => ?_)
      refine lv_if_eq (tgt := 61) hx hb dX11_readsRest_54 (by decide) (fun hc7 => ?_) (fun hc7 => ?_)
      · have hf := it_p hf hc7
        refine lv_iconst (v := (0 : Int32)) hx hb dX11_readsRest_61 rfl ?_
        obtain ⟨rfl, rfl⟩ := so2 hf
        exact r_zret C hw rfl rfl dX11_readsRest_62
      · have hf := it_n hf hc7
        refine lv_iconst (v := (1 : Int32)) hx hb dX11_readsRest_57 rfl ?_
        refine lv_goto (tgt := 62) hx hb dX11_readsRest_58 (by decide) ?_
        obtain ⟨rfl, rfl⟩ := so2 hf
        exact r_zret C hw rfl rfl dX11_readsRest_62
  · have hf := it_n hf hs9
    by_cases hs30 : x1 = (1 : Int32)
    · have hf := it_p hf hs30
      refine lv_tableIn (off := 62) (tgt := 63) hx hb dX11_readsRest_1 (by rw [hs30]; decide) (by rw [hs30]; decide) (by rw [hs30]; rfl) (by decide) ?_
      refine lv_aload_n hx hb dX11_readsRest_63 rfl (lv_at hl 0 rfl) ?_
      refine lv_iconst (v := (0 : Int32)) hx hb dX11_readsRest_64 rfl ?_
      refine lv_iconst (v := (0 : Int32)) hx hb dX11_readsRest_65 rfl ?_
      refine lv_iconst (v := (4 : Int32)) hx hb dX11_readsRest_66 rfl ?_
      obtain ⟨r10, Tm_11, hc12, hf⟩ := bd2_e hf
      refine r_callViF C hw (c_X11_reads (zm := zm) hc12) md_X11_reads [0, 1, 2, 3, 4, 5, 6, 7, 8, 9, 10, 11, 12, 13, 14, 15, 16, 17, 18] rfl rfl rfl rfl q5_73 0 rfl cf_X11.1 ⟨Nat.le_of_ble_eq_true rfl, Nat.le_of_ble_eq_true rfl⟩ ⟨Nat.zero_le _, Nat.zero_le _⟩ hl.1 rfl rfl (Nat.le_of_ble_eq_true rfl) dX11_readsRest_67 (fun H locs hw => ?_)
      refine lv_if_eq (tgt := 114) hx hb dX11_readsRest_70 (by decide) (fun hc29 => ?_) (fun hc29 => ?_)
      · have hf := it_p hf hc29
        refine lv_iconst (v := (0 : Int32)) hx hb dX11_readsRest_114 rfl ?_
        obtain ⟨rfl, rfl⟩ := so2 hf
        exact r_zret C hw rfl rfl dX11_readsRest_115
      · have hf := it_n hf hc29
        refine lv_aload_n hx hb dX11_readsRest_73 rfl (lv_at hl 0 rfl) ?_
        refine lv_iconst (v := (1 : Int32)) hx hb dX11_readsRest_74 rfl ?_
        refine lv_iconst (v := (0 : Int32)) hx hb dX11_readsRest_75 rfl ?_
        refine lv_iconst (v := (3 : Int32)) hx hb dX11_readsRest_76 rfl ?_
        obtain ⟨r13, Tm_14, hc15, hf⟩ := bd2_e hf
        refine r_callViF C hw (c_X11_reads (zm := zm) hc15) md_X11_reads [0, 1, 2, 3, 4, 5, 6, 7, 8, 9, 10, 11, 12, 13, 14, 15, 16, 17, 18] rfl rfl rfl rfl q5_73 0 rfl cf_X11.1 ⟨Nat.le_of_ble_eq_true rfl, Nat.le_of_ble_eq_true rfl⟩ ⟨Nat.zero_le _, Nat.zero_le _⟩ hl.1 rfl rfl (Nat.le_of_ble_eq_true rfl) dX11_readsRest_77 (fun H locs hw => ?_)
        refine lv_if_eq (tgt := 114) hx hb dX11_readsRest_80 (by decide) (fun hc28 => ?_) (fun hc28 => ?_)
        · have hf := it_p hf hc28
          refine lv_iconst (v := (0 : Int32)) hx hb dX11_readsRest_114 rfl ?_
          obtain ⟨rfl, rfl⟩ := so2 hf
          exact r_zret C hw rfl rfl dX11_readsRest_115
        · have hf := it_n hf hc28
          refine lv_aload_n hx hb dX11_readsRest_83 rfl (lv_at hl 0 rfl) ?_
          refine lv_iconst (v := (2 : Int32)) hx hb dX11_readsRest_84 rfl ?_
          obtain ⟨r16, Tm_17, hc18, hf⟩ := bd2_e hf
          refine r_callViF C hw (c_X11_readsBread (zm := zm) hc18) md_X11_readsBread [0, 1, 2, 3, 4, 5, 6, 7, 8, 9, 10, 11, 12, 13, 14, 15, 16, 17, 18] rfl rfl rfl rfl q5_77 0 rfl cf_X11.1 ⟨Nat.le_of_ble_eq_true rfl, Nat.le_of_ble_eq_true rfl⟩ ⟨Nat.zero_le _, Nat.zero_le _⟩ hl.1 rfl rfl (Nat.le_of_ble_eq_true rfl) dX11_readsRest_85 (fun H locs hw => ?_)
          refine lv_if_eq (tgt := 114) hx hb dX11_readsRest_88 (by decide) (fun hc27 => ?_) (fun hc27 => ?_)
          · have hf := it_p hf hc27
            refine lv_iconst (v := (0 : Int32)) hx hb dX11_readsRest_114 rfl ?_
            obtain ⟨rfl, rfl⟩ := so2 hf
            exact r_zret C hw rfl rfl dX11_readsRest_115
          · have hf := it_n hf hc27
            refine lv_aload_n hx hb dX11_readsRest_91 rfl (lv_at hl 0 rfl) ?_
            refine lv_iconst (v := (3 : Int32)) hx hb dX11_readsRest_92 rfl ?_
            obtain ⟨r19, Tm_20, hc21, hf⟩ := bd2_e hf
            refine r_callViF C hw (c_X11_readsBread (zm := zm) hc21) md_X11_readsBread [0, 1, 2, 3, 4, 5, 6, 7, 8, 9, 10, 11, 12, 13, 14, 15, 16, 17, 18] rfl rfl rfl rfl q5_77 0 rfl cf_X11.1 ⟨Nat.le_of_ble_eq_true rfl, Nat.le_of_ble_eq_true rfl⟩ ⟨Nat.zero_le _, Nat.zero_le _⟩ hl.1 rfl rfl (Nat.le_of_ble_eq_true rfl) dX11_readsRest_93 (fun H locs hw => ?_)
            refine lv_if_eq (tgt := 114) hx hb dX11_readsRest_96 (by decide) (fun hc26 => ?_) (fun hc26 => ?_)
            · have hf := it_p hf hc26
              refine lv_iconst (v := (0 : Int32)) hx hb dX11_readsRest_114 rfl ?_
              obtain ⟨rfl, rfl⟩ := so2 hf
              exact r_zret C hw rfl rfl dX11_readsRest_115
            · have hf := it_n hf hc26
              refine lv_aload_n hx hb dX11_readsRest_99 rfl (lv_at hl 0 rfl) ?_
              refine lv_iconst (v := (4 : Int32)) hx hb dX11_readsRest_100 rfl ?_
              refine lv_iconst (v := (0 : Int32)) hx hb dX11_readsRest_101 rfl ?_
              refine lv_bipush (v := (20 : Int32)) hx hb dX11_readsRest_102 rfl ?_
              obtain ⟨r22, Tm_23, hc24, hf⟩ := bd2_e hf
              refine r_callViF C hw (c_X11_reads (zm := zm) hc24) md_X11_reads [0, 1, 2, 3, 4, 5, 6, 7, 8, 9, 10, 11, 12, 13, 14, 15, 16, 17, 18] rfl rfl rfl rfl q5_73 0 rfl cf_X11.1 ⟨Nat.le_of_ble_eq_true rfl, Nat.le_of_ble_eq_true rfl⟩ ⟨Nat.zero_le _, Nat.zero_le _⟩ hl.1 rfl rfl (Nat.le_of_ble_eq_true rfl) dX11_readsRest_104 (fun H locs hw => ?_)
              refine lv_if_eq (tgt := 114) hx hb dX11_readsRest_107 (by decide) (fun hc25 => ?_) (fun hc25 => ?_)
              · have hf := it_p hf hc25
                refine lv_iconst (v := (0 : Int32)) hx hb dX11_readsRest_114 rfl ?_
                obtain ⟨rfl, rfl⟩ := so2 hf
                exact r_zret C hw rfl rfl dX11_readsRest_115
              · have hf := it_n hf hc25
                refine lv_iconst (v := (1 : Int32)) hx hb dX11_readsRest_110 rfl ?_
                refine lv_goto (tgt := 115) hx hb dX11_readsRest_111 (by decide) ?_
                obtain ⟨rfl, rfl⟩ := so2 hf
                exact r_zret C hw rfl rfl dX11_readsRest_115
    · have hf := it_n hf hs30
      by_cases hs39 : x1 = (2 : Int32)
      · have hf := it_p hf hs39
        refine lv_tableIn (off := 115) (tgt := 116) hx hb dX11_readsRest_1 (by rw [hs39]; decide) (by rw [hs39]; decide) (by rw [hs39]; rfl) (by decide) ?_
        refine lv_aload_n hx hb dX11_readsRest_116 rfl (lv_at hl 0 rfl) ?_
        refine lv_iconst (v := (0 : Int32)) hx hb dX11_readsRest_117 rfl ?_
        refine lv_iconst (v := (0 : Int32)) hx hb dX11_readsRest_118 rfl ?_
        refine lv_aload_n hx hb dX11_readsRest_119 rfl (lv_at hl 0 rfl) ?_
        refine r_get C hw 0 rfl cf_X11 16 (by decide) q4_189 (v := .int (Tm 0 16)) rfl dX11_readsRest_120 ?_
        refine lv_iconst (v := (1 : Int32)) hx hb dX11_readsRest_123 rfl ?_
        refine lv_isub hx hb dX11_readsRest_124 ?_
        obtain ⟨r31, Tm_32, hc33, hf⟩ := bd2_e hf
        refine r_callViF C hw (c_X11_reads (zm := zm) hc33) md_X11_reads [0, 1, 2, 3, 4, 5, 6, 7, 8, 9, 10, 11, 12, 13, 14, 15, 16, 17, 18] rfl rfl rfl rfl q5_73 0 rfl cf_X11.1 ⟨Nat.le_of_ble_eq_true rfl, Nat.le_of_ble_eq_true rfl⟩ ⟨Nat.zero_le _, Nat.zero_le _⟩ hl.1 rfl rfl (Nat.le_of_ble_eq_true rfl) dX11_readsRest_125 (fun H locs hw => ?_)
        refine lv_if_eq (tgt := 145) hx hb dX11_readsRest_128 (by decide) (fun hc38 => ?_) (fun hc38 => ?_)
        · have hf := it_p hf hc38
          refine lv_iconst (v := (0 : Int32)) hx hb dX11_readsRest_145 rfl ?_
          obtain ⟨rfl, rfl⟩ := so2 hf
          exact r_zret C hw rfl rfl dX11_readsRest_146
        · have hf := it_n hf hc38
          refine lv_aload_n hx hb dX11_readsRest_131 rfl (lv_at hl 0 rfl) ?_
          refine lv_iconst (v := (1 : Int32)) hx hb dX11_readsRest_132 rfl ?_
          refine lv_iconst (v := (0 : Int32)) hx hb dX11_readsRest_133 rfl ?_
          refine lv_iconst (v := (3 : Int32)) hx hb dX11_readsRest_134 rfl ?_
          obtain ⟨r34, Tm_35, hc36, hf⟩ := bd2_e hf
          refine r_callViF C hw (c_X11_reads (zm := zm) hc36) md_X11_reads [0, 1, 2, 3, 4, 5, 6, 7, 8, 9, 10, 11, 12, 13, 14, 15, 16, 17, 18] rfl rfl rfl rfl q5_73 0 rfl cf_X11.1 ⟨Nat.le_of_ble_eq_true rfl, Nat.le_of_ble_eq_true rfl⟩ ⟨Nat.zero_le _, Nat.zero_le _⟩ hl.1 rfl rfl (Nat.le_of_ble_eq_true rfl) dX11_readsRest_135 (fun H locs hw => ?_)
          refine lv_if_eq (tgt := 145) hx hb dX11_readsRest_138 (by decide) (fun hc37 => ?_) (fun hc37 => ?_)
          · have hf := it_p hf hc37
            refine lv_iconst (v := (0 : Int32)) hx hb dX11_readsRest_145 rfl ?_
            obtain ⟨rfl, rfl⟩ := so2 hf
            exact r_zret C hw rfl rfl dX11_readsRest_146
          · have hf := it_n hf hc37
            refine lv_iconst (v := (1 : Int32)) hx hb dX11_readsRest_141 rfl ?_
            refine lv_goto (tgt := 146) hx hb dX11_readsRest_142 (by decide) ?_
            obtain ⟨rfl, rfl⟩ := so2 hf
            exact r_zret C hw rfl rfl dX11_readsRest_146
      · have hf := it_n hf hs39
        by_cases hs60 : x1 = (3 : Int32)
        · have hf := it_p hf hs60
          refine lv_tableIn (off := 146) (tgt := 147) hx hb dX11_readsRest_1 (by rw [hs60]; decide) (by rw [hs60]; decide) (by rw [hs60]; rfl) (by decide) ?_
          refine lv_aload_n hx hb dX11_readsRest_147 rfl (lv_at hl 0 rfl) ?_
          refine lv_iconst (v := (0 : Int32)) hx hb dX11_readsRest_148 rfl ?_
          refine lv_iconst (v := (0 : Int32)) hx hb dX11_readsRest_149 rfl ?_
          refine lv_iconst (v := (1 : Int32)) hx hb dX11_readsRest_150 rfl ?_
          obtain ⟨r40, Tm_41, hc42, hf⟩ := bd2_e hf
          refine r_callViF C hw (c_X11_reads (zm := zm) hc42) md_X11_reads [0, 1, 2, 3, 4, 5, 6, 7, 8, 9, 10, 11, 12, 13, 14, 15, 16, 17, 18] rfl rfl rfl rfl q5_73 0 rfl cf_X11.1 ⟨Nat.le_of_ble_eq_true rfl, Nat.le_of_ble_eq_true rfl⟩ ⟨Nat.zero_le _, Nat.zero_le _⟩ hl.1 rfl rfl (Nat.le_of_ble_eq_true rfl) dX11_readsRest_151 (fun H locs hw => ?_)
          refine lv_if_eq (tgt := 208) hx hb dX11_readsRest_154 (by decide) (fun hc59 => ?_) (fun hc59 => ?_)
          · have hf := it_p hf hc59
            refine lv_iconst (v := (0 : Int32)) hx hb dX11_readsRest_208 rfl ?_
            obtain ⟨rfl, rfl⟩ := so2 hf
            exact r_zret C hw rfl rfl dX11_readsRest_209
          · have hf := it_n hf hc59
            refine lv_aload_n hx hb dX11_readsRest_157 rfl (lv_at hl 0 rfl) ?_
            refine lv_iconst (v := (1 : Int32)) hx hb dX11_readsRest_158 rfl ?_
            refine lv_iconst (v := (0 : Int32)) hx hb dX11_readsRest_159 rfl ?_
            refine lv_iconst (v := (1 : Int32)) hx hb dX11_readsRest_160 rfl ?_
            obtain ⟨r43, Tm_44, hc45, hf⟩ := bd2_e hf
            refine r_callViF C hw (c_X11_reads (zm := zm) hc45) md_X11_reads [0, 1, 2, 3, 4, 5, 6, 7, 8, 9, 10, 11, 12, 13, 14, 15, 16, 17, 18] rfl rfl rfl rfl q5_73 0 rfl cf_X11.1 ⟨Nat.le_of_ble_eq_true rfl, Nat.le_of_ble_eq_true rfl⟩ ⟨Nat.zero_le _, Nat.zero_le _⟩ hl.1 rfl rfl (Nat.le_of_ble_eq_true rfl) dX11_readsRest_161 (fun H locs hw => ?_)
            refine lv_if_eq (tgt := 208) hx hb dX11_readsRest_164 (by decide) (fun hc58 => ?_) (fun hc58 => ?_)
            · have hf := it_p hf hc58
              refine lv_iconst (v := (0 : Int32)) hx hb dX11_readsRest_208 rfl ?_
              obtain ⟨rfl, rfl⟩ := so2 hf
              exact r_zret C hw rfl rfl dX11_readsRest_209
            · have hf := it_n hf hc58
              refine lv_aload_n hx hb dX11_readsRest_167 rfl (lv_at hl 0 rfl) ?_
              refine lv_iconst (v := (2 : Int32)) hx hb dX11_readsRest_168 rfl ?_
              refine lv_iconst (v := (0 : Int32)) hx hb dX11_readsRest_169 rfl ?_
              refine lv_aload_n hx hb dX11_readsRest_170 rfl (lv_at hl 0 rfl) ?_
              refine r_get C hw 0 rfl cf_X11 16 (by decide) q4_189 (v := .int (Tm_44 0 16)) rfl dX11_readsRest_171 ?_
              refine lv_iconst (v := (1 : Int32)) hx hb dX11_readsRest_174 rfl ?_
              refine lv_isub hx hb dX11_readsRest_175 ?_
              obtain ⟨r46, Tm_47, hc48, hf⟩ := bd2_e hf
              refine r_callViF C hw (c_X11_reads (zm := zm) hc48) md_X11_reads [0, 1, 2, 3, 4, 5, 6, 7, 8, 9, 10, 11, 12, 13, 14, 15, 16, 17, 18] rfl rfl rfl rfl q5_73 0 rfl cf_X11.1 ⟨Nat.le_of_ble_eq_true rfl, Nat.le_of_ble_eq_true rfl⟩ ⟨Nat.zero_le _, Nat.zero_le _⟩ hl.1 rfl rfl (Nat.le_of_ble_eq_true rfl) dX11_readsRest_176 (fun H locs hw => ?_)
              refine lv_if_eq (tgt := 208) hx hb dX11_readsRest_179 (by decide) (fun hc57 => ?_) (fun hc57 => ?_)
              · have hf := it_p hf hc57
                refine lv_iconst (v := (0 : Int32)) hx hb dX11_readsRest_208 rfl ?_
                obtain ⟨rfl, rfl⟩ := so2 hf
                exact r_zret C hw rfl rfl dX11_readsRest_209
              · have hf := it_n hf hc57
                refine lv_aload_n hx hb dX11_readsRest_182 rfl (lv_at hl 0 rfl) ?_
                refine lv_iconst (v := (3 : Int32)) hx hb dX11_readsRest_183 rfl ?_
                refine lv_iconst (v := (0 : Int32)) hx hb dX11_readsRest_184 rfl ?_
                refine lv_aload_n hx hb dX11_readsRest_185 rfl (lv_at hl 0 rfl) ?_
                refine r_get C hw 0 rfl cf_X11 17 (by decide) q4_190 (v := .int (Tm_47 0 17)) rfl dX11_readsRest_186 ?_
                refine lv_iconst (v := (1 : Int32)) hx hb dX11_readsRest_189 rfl ?_
                refine lv_isub hx hb dX11_readsRest_190 ?_
                obtain ⟨r49, Tm_50, hc51, hf⟩ := bd2_e hf
                refine r_callViF C hw (c_X11_reads (zm := zm) hc51) md_X11_reads [0, 1, 2, 3, 4, 5, 6, 7, 8, 9, 10, 11, 12, 13, 14, 15, 16, 17, 18] rfl rfl rfl rfl q5_73 0 rfl cf_X11.1 ⟨Nat.le_of_ble_eq_true rfl, Nat.le_of_ble_eq_true rfl⟩ ⟨Nat.zero_le _, Nat.zero_le _⟩ hl.1 rfl rfl (Nat.le_of_ble_eq_true rfl) dX11_readsRest_191 (fun H locs hw => ?_)
                refine lv_if_eq (tgt := 208) hx hb dX11_readsRest_194 (by decide) (fun hc56 => ?_) (fun hc56 => ?_)
                · have hf := it_p hf hc56
                  refine lv_iconst (v := (0 : Int32)) hx hb dX11_readsRest_208 rfl ?_
                  obtain ⟨rfl, rfl⟩ := so2 hf
                  exact r_zret C hw rfl rfl dX11_readsRest_209
                · have hf := it_n hf hc56
                  refine lv_aload_n hx hb dX11_readsRest_197 rfl (lv_at hl 0 rfl) ?_
                  obtain ⟨r52, Tm_53, hc54, hf⟩ := bd2_e hf
                  refine r_callViF C hw (c_X11_readsWork (zm := zm) hc54) md_X11_readsWork [0, 1, 2, 3, 4, 5, 6, 7, 8, 9, 10, 11, 12, 13, 14, 15, 16, 17, 18] rfl rfl rfl rfl q5_81 0 rfl cf_X11.1 ⟨Nat.le_of_ble_eq_true rfl, Nat.le_of_ble_eq_true rfl⟩ ⟨Nat.zero_le _, Nat.zero_le _⟩ hl.1 rfl rfl (Nat.le_of_ble_eq_true rfl) dX11_readsRest_198 (fun H locs hw => ?_)
                  refine lv_if_eq (tgt := 208) hx hb dX11_readsRest_201 (by decide) (fun hc55 => ?_) (fun hc55 => ?_)
                  · have hf := it_p hf hc55
                    refine lv_iconst (v := (0 : Int32)) hx hb dX11_readsRest_208 rfl ?_
                    obtain ⟨rfl, rfl⟩ := so2 hf
                    exact r_zret C hw rfl rfl dX11_readsRest_209
                  · have hf := it_n hf hc55
                    refine lv_iconst (v := (1 : Int32)) hx hb dX11_readsRest_204 rfl ?_
                    refine lv_goto (tgt := 209) hx hb dX11_readsRest_205 (by decide) ?_
                    obtain ⟨rfl, rfl⟩ := so2 hf
                    exact r_zret C hw rfl rfl dX11_readsRest_209
        · have hf := it_n hf hs60
          by_cases hs64 : x1 = (4 : Int32)
          · have hf := it_p hf hs64
            refine lv_tableIn (off := 209) (tgt := 210) hx hb dX11_readsRest_1 (by rw [hs64]; decide) (by rw [hs64]; decide) (by rw [hs64]; rfl) (by decide) ?_
            refine lv_aload_n hx hb dX11_readsRest_210 rfl (lv_at hl 0 rfl) ?_
            refine lv_iconst (v := (0 : Int32)) hx hb dX11_readsRest_211 rfl ?_
            refine lv_iconst (v := (0 : Int32)) hx hb dX11_readsRest_212 rfl ?_
            refine lv_bipush (v := (20 : Int32)) hx hb dX11_readsRest_213 rfl ?_
            obtain ⟨r61, Tm_62, hc63, hf⟩ := bd2_e hf
            refine r_callViF C hw (c_X11_reads (zm := zm) hc63) md_X11_reads [0, 1, 2, 3, 4, 5, 6, 7, 8, 9, 10, 11, 12, 13, 14, 15, 16, 17, 18] rfl rfl rfl rfl q5_73 0 rfl cf_X11.1 ⟨Nat.le_of_ble_eq_true rfl, Nat.le_of_ble_eq_true rfl⟩ ⟨Nat.zero_le _, Nat.zero_le _⟩ hl.1 rfl rfl (Nat.le_of_ble_eq_true rfl) dX11_readsRest_215 (fun H locs hw => ?_)
            obtain ⟨hn, hf⟩ := it_g hf
            obtain ⟨rfl, rfl⟩ := so2 hf
            exact r_zret C hw rfl hn dX11_readsRest_218
          · have hf := it_n hf hs64
            refine lv_tableOut (tgt := 219) hx hb dX11_readsRest_1 (sw_o (lo := 0) (hi := 4) (by decide) (by decide) (fun k h1 h2 => ?_)) (by decide) ?_
            · rcases (show k = 0 ∨ k = 1 ∨ k = 2 ∨ k = 3 ∨ k = 4 by omega) with rfl | rfl | rfl | rfl | rfl
              · exact hs9
              · exact hs30
              · exact hs39
              · exact hs60
              · exact hs64
            · refine lv_aload_n hx hb dX11_readsRest_219 rfl (lv_at hl 0 rfl) ?_
              refine lv_iconst (v := (0 : Int32)) hx hb dX11_readsRest_220 rfl ?_
              refine lv_iconst (v := (0 : Int32)) hx hb dX11_readsRest_221 rfl ?_
              refine lv_bipush (v := (99 : Int32)) hx hb dX11_readsRest_222 rfl ?_
              obtain ⟨r65, Tm_66, hc67, hf⟩ := bd2_e hf
              refine r_callViF C hw (c_X11_reads (zm := zm) hc67) md_X11_reads [0, 1, 2, 3, 4, 5, 6, 7, 8, 9, 10, 11, 12, 13, 14, 15, 16, 17, 18] rfl rfl rfl rfl q5_73 0 rfl cf_X11.1 ⟨Nat.le_of_ble_eq_true rfl, Nat.le_of_ble_eq_true rfl⟩ ⟨Nat.zero_le _, Nat.zero_le _⟩ hl.1 rfl rfl (Nat.le_of_ble_eq_true rfl) dX11_readsRest_224 (fun H locs hw => ?_)
              obtain ⟨hn, hf⟩ := it_g hf
              obtain ⟨rfl, rfl⟩ := so2 hf
              exact r_zret C hw rfl hn dX11_readsRest_227
set_option maxRecDepth 100000 in
set_option maxHeartbeats 4000000 in
theorem kX11_readsLine_143 {l : Launch} {g : evG} {p : Program} {e : Env} {s : State} {m : MethodId} {args : Array Value} {below : List Frame} {meth : Method} {c : Code} {A : Nat → Prop} {zm : Nat → Nat} {r : Int32} {om : Gp} (C : ctx g p s m args meth c RX11 cX11_readsLine 3 (some .boolean) A) {Tm : Gp} {H : Heap} {locs : List Loc} {ls : Array Slot} (hf : fX11_readsLine_143 Tm = some (r, om)) (hw : wl g A s.heap (gcM g zm Tm) H locs) (hl : lv_has ls 3 [(0, .ref (zm 0))]) : W p l e (rmK 5 109) s m args below meth c H locs 0 0 (MQ below (Qi g A (gcM g zm om) r) args s 0 0 A) (F0 m 143 ls []) := by
  obtain ⟨hx, hb, hml, hown, hts, -⟩ := id C
  unfold fX11_readsLine_143 at hf
  refine lv_aload_n hx hb dX11_readsLine_143 rfl (lv_at hl 0 rfl) ?_
  refine lv_dup hx hb dX11_readsLine_144 rfl ?_
  refine r_get C hw 0 rfl cf_X11 5 (by decide) q4_178 (v := .int (Tm 0 5)) rfl dX11_readsLine_145 ?_
  refine lv_iconst (v := (1 : Int32)) hx hb dX11_readsLine_148 rfl ?_
  refine lv_iadd hx hb dX11_readsLine_149 ?_
  refine r_puti C hw 0 rfl cf_X11 5 (by decide) q4_178 rfl rfl (Nat.le_of_ble_eq_true rfl) (ws' := (gcM g zm (u2 Tm 0 5 ((Tm 0 5) + (1 : Int32))))) gcM_p5 dX11_readsLine_150 (fun H locs hw => ?_)
  refine lv_iconst (v := (1 : Int32)) hx hb dX11_readsLine_153 rfl ?_
  obtain ⟨rfl, rfl⟩ := so2 hf
  exact r_zret C hw rfl rfl dX11_readsLine_154
set_option maxRecDepth 100000 in
set_option maxHeartbeats 4000000 in
theorem kX11_readsLine_142 {l : Launch} {g : evG} {p : Program} {e : Env} {s : State} {m : MethodId} {args : Array Value} {below : List Frame} {meth : Method} {c : Code} {A : Nat → Prop} {zm : Nat → Nat} {r : Int32} {om : Gp} (C : ctx g p s m args meth c RX11 cX11_readsLine 3 (some .boolean) A) {Tm : Gp} {y1 : Int32} {y2 : Int32} {H : Heap} {locs : List Loc} {ls : Array Slot} (hf : fX11_readsLine_142 Tm y1 y2 = some (r, om)) (hw : wl g A s.heap (gcM g zm Tm) H locs) (hl : lv_has ls 3 [(0, .ref (zm 0))]) : W p l e (rmK 5 109) s m args below meth c H locs 0 0 (MQ below (Qi g A (gcM g zm om) r) args s 0 0 A) (F0 m 142 ls [.int y2, .int y1, .ref (zm 8)]) := by
  obtain ⟨hx, hb, hml, hown, hts, -⟩ := id C
  unfold fX11_readsLine_142 at hf
  obtain ⟨hi1, hf⟩ := it_g hf
  refine r_zast C hw 8 (f := (Tm 8)) rfl hi1 (ws' := (gcM g zm (u2 Tm 8 y1.toNatClampNeg (vp_nar .boolean y2)))) gcM_a8 dX11_readsLine_142 (fun H locs hw => ?_)
  exact kX11_readsLine_143 (zm := zm) (r := r) (om := om) C hf hw (lv_sub hl [0] rfl)
set_option maxRecDepth 100000 in
set_option maxHeartbeats 4000000 in
theorem kX11_readsLine_108 {l : Launch} {g : evG} {p : Program} {e : Env} {s : State} {m : MethodId} {args : Array Value} {below : List Frame} {meth : Method} {c : Code} {A : Nat → Prop} {zm : Nat → Nat} {r : Int32} {om : Gp} (C : ctx g p s m args meth c RX11 cX11_readsLine 3 (some .boolean) A) {Tm : Gp} {x2 : Int32} {y1 : Int32} {y2 : Int32} {H : Heap} {locs : List Loc} {ls : Array Slot} (hf : fX11_readsLine_108 Tm x2 y1 y2 = some (r, om)) (hw : wl g A s.heap (gcM g zm Tm) H locs) (hl : lv_has ls 3 [(0, .ref (zm 0)), (2, .int x2)]) : W p l e (rmK 5 109) s m args below meth c H locs 0 0 (MQ below (Qi g A (gcM g zm om) r) args s 0 0 A) (F0 m 108 ls [.int y2, .int y1, .ref (zm 8)]) := by
  obtain ⟨hx, hb, hml, hown, hts, -⟩ := id C
  unfold fX11_readsLine_108 at hf
  obtain ⟨hi1, hf⟩ := it_g hf
  refine r_zast C hw 8 (f := (Tm 8)) rfl hi1 (ws' := (gcM g zm (u2 Tm 8 y1.toNatClampNeg (vp_nar .boolean y2)))) gcM_a8 dX11_readsLine_108 (fun H locs hw => ?_)
  refine lv_aload_n hx hb dX11_readsLine_109 rfl (lv_at hl 0 rfl) ?_
  refine r_get C hw 0 rfl cf_X11 18 (by decide) q4_191 (v := .ref (zm 8)) rfl dX11_readsLine_110 ?_
  refine lv_iconst (v := (2 : Int32)) hx hb dX11_readsLine_113 rfl ?_
  refine lv_aload_n hx hb dX11_readsLine_114 rfl (lv_at hl 0 rfl) ?_
  refine r_get C hw 0 rfl cf_X11 4 (by decide) q4_177 (v := .ref (zm 4)) rfl dX11_readsLine_115 ?_
  refine lv_iload_n hx hb dX11_readsLine_118 rfl (lv_at hl 1 rfl) ?_
  refine lv_iconst (v := (1 : Int32)) hx hb dX11_readsLine_119 rfl ?_
  refine lv_iadd hx hb dX11_readsLine_120 ?_
  obtain ⟨hi2, hf⟩ := it_g hf
  refine r_iald C hw 4 (f := (Tm 4)) rfl hi2 dX11_readsLine_121 ?_
  refine lv_imul hx hb dX11_readsLine_122 ?_
  refine lv_iconst (v := (1 : Int32)) hx hb dX11_readsLine_123 rfl ?_
  refine lv_iadd hx hb dX11_readsLine_124 ?_
  refine lv_aload_n hx hb dX11_readsLine_125 rfl (lv_at hl 0 rfl) ?_
  refine r_get C hw 0 rfl cf_X11 4 (by decide) q4_177 (v := .ref (zm 4)) rfl dX11_readsLine_126 ?_
  refine lv_iload_n hx hb dX11_readsLine_129 rfl (lv_at hl 1 rfl) ?_
  refine lv_iconst (v := (4 : Int32)) hx hb dX11_readsLine_130 rfl ?_
  refine lv_iadd hx hb dX11_readsLine_131 ?_
  obtain ⟨hi3, hf⟩ := it_g hf
  refine r_iald C hw 4 (f := (Tm 4)) rfl hi3 dX11_readsLine_132 ?_
  refine lv_iconst (v := (-1 : Int32)) hx hb dX11_readsLine_133 rfl ?_
  refine lv_icmp_eq (tgt := 141) hx hb dX11_readsLine_134 (by decide) (fun hc4 => ?_) (fun hc4 => ?_)
  · have hf := it_p hf hc4
    refine lv_iconst (v := (0 : Int32)) hx hb dX11_readsLine_141 rfl ?_
    exact kX11_readsLine_142 (zm := zm) (r := r) (om := om) C hf hw (lv_sub hl [0] rfl)
  · have hf := it_n hf hc4
    refine lv_iconst (v := (1 : Int32)) hx hb dX11_readsLine_137 rfl ?_
    refine lv_goto (tgt := 142) hx hb dX11_readsLine_138 (by decide) ?_
    exact kX11_readsLine_142 (zm := zm) (r := r) (om := om) C hf hw (lv_sub hl [0] rfl)
set_option maxRecDepth 100000 in
set_option maxHeartbeats 4000000 in
theorem c_X11_readsLine {l : Launch} {g : evG} {zm : Nat → Nat} {r : Int32} {om : Gp}  {Tm : Gp} (hf : fX11_readsLine Tm = some (r, om)) : CTi l g yX11_readsLine (Cond.code yX11_readsLine cX11_readsLine 3 (some .boolean)) 5 109 [.ref (zm 0)] (gcM g zm Tm) (gcM g zm om) r := by
  refine ct_i rfl (Nat.le_of_ble_eq_true rfl) ?_
  intro p e s m args below meth c A ls C hw hl
  have C : ctx g p s m args meth c RX11 cX11_readsLine 3 (some .boolean) A := C
  have hl : lv_has ls 3 [(0, .ref (zm 0))] := hl
  obtain ⟨hx, hb, hml, hown, hts, -⟩ := id C
  unfold fX11_readsLine at hf
  refine lv_aload_n hx hb dX11_readsLine_0 rfl (lv_at hl 0 rfl) ?_
  obtain ⟨r1, hc2, hf⟩ := bd1_e hf
  refine r_callVi0 C hw (c_X11_wordOf (zm := zm) hc2) md_X11_wordOf [0, 1, 2, 3, 4, 5, 6, 7, 8, 9, 10, 11, 12, 13, 14, 15, 16, 17, 18] rfl rfl q5_55 0 rfl cf_X11.1 ⟨Nat.le_of_ble_eq_true rfl, Nat.le_of_ble_eq_true rfl⟩ ⟨Nat.zero_le _, Nat.zero_le _⟩ hl.1 rfl rfl (Nat.le_of_ble_eq_true rfl) dX11_readsLine_1 (fun H locs hw => ?_)
  refine lv_istore_n (lv' := [(1, .int r1), (0, .ref (zm 0))]) hx hb dX11_readsLine_4 rfl hl (by decide) rfl (fun ls hl => ?_)
  refine lv_iload_n hx hb dX11_readsLine_5 rfl (lv_at hl 0 rfl) ?_
  refine lv_iconst (v := (-1 : Int32)) hx hb dX11_readsLine_6 rfl ?_
  refine lv_icmp_ne (tgt := 12) hx hb dX11_readsLine_7 (by decide) (fun hc17 => ?_) (fun hc17 => ?_)
  · have hf := it_n hf hc17
    refine lv_aload_n hx hb dX11_readsLine_12 rfl (lv_at hl 1 rfl) ?_
    obtain ⟨Tm_3, hc4, hf⟩ := bd1_e hf
    refine r_callVvF C hw (c_X11_token (zm := zm) hc4) md_X11_token [0, 1, 2, 3, 4, 5, 6, 7, 8, 9, 10, 11, 12, 13, 14, 15, 16, 17, 18] rfl rfl rfl rfl q5_44 0 rfl cf_X11.1 ⟨Nat.le_of_ble_eq_true rfl, Nat.le_of_ble_eq_true rfl⟩ ⟨Nat.zero_le _, Nat.zero_le _⟩ hl.1 rfl rfl (Nat.le_of_ble_eq_true rfl) dX11_readsLine_13 (fun H locs hw => ?_)
    refine lv_bipush (v := (6 : Int32)) hx hb dX11_readsLine_16 rfl ?_
    refine lv_aload_n hx hb dX11_readsLine_18 rfl (lv_at hl 1 rfl) ?_
    refine r_get C hw 0 rfl cf_X11 5 (by decide) q4_178 (v := .int (Tm_3 0 5)) rfl dX11_readsLine_19 ?_
    refine lv_imul hx hb dX11_readsLine_22 ?_
    refine lv_istore_n (lv' := [(2, .int ((6 : Int32) * (Tm_3 0 5))), (1, .int r1), (0, .ref (zm 0))]) hx hb dX11_readsLine_23 rfl hl (by decide) rfl (fun ls hl => ?_)
    refine lv_aload_n hx hb dX11_readsLine_24 rfl (lv_at hl 2 rfl) ?_
    refine r_get C hw 0 rfl cf_X11 4 (by decide) q4_177 (v := .ref (zm 4)) rfl dX11_readsLine_25 ?_
    refine lv_iload_n hx hb dX11_readsLine_28 rfl (lv_at hl 0 rfl) ?_
    refine lv_iload_n hx hb dX11_readsLine_29 rfl (lv_at hl 1 rfl) ?_
    obtain ⟨hi5, hf⟩ := it_g hf
    refine r_iast C hw 4 (f := (Tm_3 4)) rfl hi5 (ws' := (gcM g zm (u2 Tm_3 4 ((6 : Int32) * (Tm_3 0 5)).toNatClampNeg r1))) gcM_a4 dX11_readsLine_30 (fun H locs hw => ?_)
    refine lv_aload_n hx hb dX11_readsLine_31 rfl (lv_at hl 2 rfl) ?_
    refine lv_iload_n hx hb dX11_readsLine_32 rfl (lv_at hl 1 rfl) ?_
    obtain ⟨r6, Tm_7, hc8, hf⟩ := bd2_e hf
    refine r_callViF C hw (c_X11_readsRest (zm := zm) hc8) md_X11_readsRest [0, 1, 2, 3, 4, 5, 6, 7, 8, 9, 10, 11, 12, 13, 14, 15, 16, 17, 18] rfl rfl rfl rfl q5_69 0 rfl cf_X11.1 ⟨Nat.le_of_ble_eq_true rfl, Nat.le_of_ble_eq_true rfl⟩ ⟨Nat.zero_le _, Nat.zero_le _⟩ hl.1 rfl rfl (Nat.le_of_ble_eq_true rfl) dX11_readsLine_33 (fun H locs hw => ?_)
    refine lv_if_ne (tgt := 41) hx hb dX11_readsLine_36 (by decide) (fun hc16 => ?_) (fun hc16 => ?_)
    · have hf := it_n hf hc16
      refine lv_iload_n hx hb dX11_readsLine_41 rfl (lv_at hl 1 rfl) ?_
      refine lv_if_ne (tgt := 72) hx hb dX11_readsLine_42 (by decide) (fun hc15 => ?_) (fun hc15 => ?_)
      · have hf := it_n hf hc15
        refine lv_iload_n hx hb dX11_readsLine_72 rfl (lv_at hl 1 rfl) ?_
        refine lv_iconst (v := (1 : Int32)) hx hb dX11_readsLine_73 rfl ?_
        refine lv_icmp_ne (tgt := 143) hx hb dX11_readsLine_74 (by decide) (fun hc12 => ?_) (fun hc12 => ?_)
        · have hf := it_n hf hc12
          exact kX11_readsLine_143 (zm := zm) (r := r) (om := om) C hf hw (lv_sub hl [2] rfl)
        · have hf := it_p hf hc12
          refine lv_aload_n hx hb dX11_readsLine_77 rfl (lv_at hl 2 rfl) ?_
          refine r_get C hw 0 rfl cf_X11 18 (by decide) q4_191 (v := .ref (zm 8)) rfl dX11_readsLine_78 ?_
          refine lv_iconst (v := (2 : Int32)) hx hb dX11_readsLine_81 rfl ?_
          refine lv_aload_n hx hb dX11_readsLine_82 rfl (lv_at hl 2 rfl) ?_
          refine r_get C hw 0 rfl cf_X11 4 (by decide) q4_177 (v := .ref (zm 4)) rfl dX11_readsLine_83 ?_
          refine lv_iload_n hx hb dX11_readsLine_86 rfl (lv_at hl 0 rfl) ?_
          refine lv_iconst (v := (1 : Int32)) hx hb dX11_readsLine_87 rfl ?_
          refine lv_iadd hx hb dX11_readsLine_88 ?_
          obtain ⟨hi9, hf⟩ := it_g hf
          refine r_iald C hw 4 (f := (Tm_7 4)) rfl hi9 dX11_readsLine_89 ?_
          refine lv_imul hx hb dX11_readsLine_90 ?_
          refine lv_aload_n hx hb dX11_readsLine_91 rfl (lv_at hl 2 rfl) ?_
          refine r_get C hw 0 rfl cf_X11 4 (by decide) q4_177 (v := .ref (zm 4)) rfl dX11_readsLine_92 ?_
          refine lv_iload_n hx hb dX11_readsLine_95 rfl (lv_at hl 0 rfl) ?_
          refine lv_iconst (v := (3 : Int32)) hx hb dX11_readsLine_96 rfl ?_
          refine lv_iadd hx hb dX11_readsLine_97 ?_
          obtain ⟨hi10, hf⟩ := it_g hf
          refine r_iald C hw 4 (f := (Tm_7 4)) rfl hi10 dX11_readsLine_98 ?_
          refine lv_iconst (v := (-1 : Int32)) hx hb dX11_readsLine_99 rfl ?_
          refine lv_icmp_eq (tgt := 107) hx hb dX11_readsLine_100 (by decide) (fun hc11 => ?_) (fun hc11 => ?_)
          · have hf := it_p hf hc11
            refine lv_iconst (v := (0 : Int32)) hx hb dX11_readsLine_107 rfl ?_
            exact kX11_readsLine_108 (zm := zm) (r := r) (om := om) C hf hw (lv_sub hl [2, 0] rfl)
          · have hf := it_n hf hc11
            refine lv_iconst (v := (1 : Int32)) hx hb dX11_readsLine_103 rfl ?_
            refine lv_goto (tgt := 108) hx hb dX11_readsLine_104 (by decide) ?_
            exact kX11_readsLine_108 (zm := zm) (r := r) (om := om) C hf hw (lv_sub hl [2, 0] rfl)
      · have hf := it_p hf hc15
        refine lv_aload_n hx hb dX11_readsLine_45 rfl (lv_at hl 2 rfl) ?_
        refine lv_aload_n hx hb dX11_readsLine_46 rfl (lv_at hl 2 rfl) ?_
        refine r_get C hw 0 rfl cf_X11 4 (by decide) q4_177 (v := .ref (zm 4)) rfl dX11_readsLine_47 ?_
        refine lv_iload_n hx hb dX11_readsLine_50 rfl (lv_at hl 0 rfl) ?_
        refine lv_iconst (v := (1 : Int32)) hx hb dX11_readsLine_51 rfl ?_
        refine lv_iadd hx hb dX11_readsLine_52 ?_
        obtain ⟨hi13, hf⟩ := it_g hf
        refine r_iald C hw 4 (f := (Tm_7 4)) rfl hi13 dX11_readsLine_53 ?_
        refine r_puti C hw 0 rfl cf_X11 16 (by decide) q4_189 rfl rfl (Nat.le_of_ble_eq_true rfl) (ws' := (gcM g zm (u2 Tm_7 0 16 (Tm_7 4 (((6 : Int32) * (Tm_3 0 5)) + (1 : Int32)).toNatClampNeg)))) gcM_p16 dX11_readsLine_54 (fun H locs hw => ?_)
        refine lv_aload_n hx hb dX11_readsLine_57 rfl (lv_at hl 2 rfl) ?_
        refine lv_aload_n hx hb dX11_readsLine_58 rfl (lv_at hl 2 rfl) ?_
        refine r_get C hw 0 rfl cf_X11 4 (by decide) q4_177 (v := .ref (zm 4)) rfl dX11_readsLine_59 ?_
        refine lv_iload_n hx hb dX11_readsLine_62 rfl (lv_at hl 0 rfl) ?_
        refine lv_iconst (v := (2 : Int32)) hx hb dX11_readsLine_63 rfl ?_
        refine lv_iadd hx hb dX11_readsLine_64 ?_
        obtain ⟨hi14, hf⟩ := it_g hf
        refine r_iald C hw 4 (f := (Tm_7 4)) rfl hi14 dX11_readsLine_65 ?_
        refine r_puti C hw 0 rfl cf_X11 17 (by decide) q4_190 rfl rfl (Nat.le_of_ble_eq_true rfl) (ws' := (gcM g zm (u2 (u2 Tm_7 0 16 (Tm_7 4 (((6 : Int32) * (Tm_3 0 5)) + (1 : Int32)).toNatClampNeg)) 0 17 (Tm_7 4 (((6 : Int32) * (Tm_3 0 5)) + (2 : Int32)).toNatClampNeg)))) gcM_p17 dX11_readsLine_66 (fun H locs hw => ?_)
        refine lv_goto (tgt := 143) hx hb dX11_readsLine_69 (by decide) ?_
        exact kX11_readsLine_143 (zm := zm) (r := r) (om := om) C hf hw (lv_sub hl [2] rfl)
    · have hf := it_p hf hc16
      refine lv_iconst (v := (0 : Int32)) hx hb dX11_readsLine_39 rfl ?_
      obtain ⟨rfl, rfl⟩ := so2 hf
      exact r_zret C hw rfl rfl dX11_readsLine_40
  · have hf := it_p hf hc17
    refine lv_iconst (v := (0 : Int32)) hx hb dX11_readsLine_10 rfl ?_
    obtain ⟨rfl, rfl⟩ := so2 hf
    exact r_zret C hw rfl rfl dX11_readsLine_11
set_option maxRecDepth 100000 in
set_option maxHeartbeats 4000000 in
theorem kX11_fault_163 {l : Launch} {g : evG} {p : Program} {e : Env} {s : State} {m : MethodId} {args : Array Value} {below : List Frame} {meth : Method} {c : Code} {A : Nat → Prop} {zm : Nat → Nat} {r : Int32} {om : Gp} (C : ctx g p s m args meth c RX11 cX11_fault 2 (some .int) A) {rec111 : Gp → Option (Int32 × Gp)} (hr111 : ∀ (Tm : Gp) (H : Heap) (locs : List Loc) (ls : Array Slot), rec111 Tm = some (r, om) → wl g A s.heap (gcM g zm Tm) H locs → lv_has ls 2 [(0, .ref (zm 0))] → W p l e (rmK 6 131) s m args below meth c H locs 0 0 (MQ below (Qi g A (gcM g zm om) r) args s 0 0 A) (F0 m 111 ls [])) {Tm : Gp} {y0 : Int32} {H : Heap} {locs : List Loc} {ls : Array Slot} (hf : fX11_fault_163 rec111 Tm y0 = some (r, om)) (hw : wl g A s.heap (gcM g zm Tm) H locs) (hl : lv_has ls 2 [(0, .ref (zm 0))]) : W p l e (rmK 6 131) s m args below meth c H locs 0 0 (MQ below (Qi g A (gcM g zm om) r) args s 0 0 A) (F0 m 163 ls [.int y0]) := by
  obtain ⟨hx, hb, hml, hown, hts, -⟩ := id C
  unfold fX11_fault_163 at hf
  refine lv_istore_n (lv' := [(1, .int y0), (0, .ref (zm 0))]) hx hb dX11_fault_163 rfl hl (by decide) rfl (fun ls hl => ?_)
  refine lv_iload_n hx hb dX11_fault_164 rfl (lv_at hl 0 rfl) ?_
  refine lv_if_eq (tgt := 177) hx hb dX11_fault_165 (by decide) (fun hc8 => ?_) (fun hc8 => ?_)
  · have hf := it_p hf hc8
    refine lv_iload_n hx hb dX11_fault_177 rfl (lv_at hl 0 rfl) ?_
    refine lv_if_ne (tgt := 186) hx hb dX11_fault_178 (by decide) (fun hc1 => ?_) (fun hc1 => ?_)
    · have hf := it_n hf hc1
      refine lv_goto (tgt := 111) hx hb dX11_fault_186 (by decide) ?_
      exact hr111 _ _ _ _ hf hw (lv_sub hl [1] rfl)
    · have hf := it_p hf hc1
      refine lv_aload_n hx hb dX11_fault_181 rfl (lv_at hl 1 rfl) ?_
      refine r_get C hw 0 rfl cf_X11 14 (by decide) q4_187 (v := .int (Tm 0 14)) rfl dX11_fault_182 ?_
      obtain ⟨rfl, rfl⟩ := so2 hf
      exact r_iret C hw rfl dX11_fault_185
  · have hf := it_n hf hc8
    refine lv_aload_n hx hb dX11_fault_168 rfl (lv_at hl 1 rfl) ?_
    obtain ⟨Tm_2, hc3, hf⟩ := bd1_e hf
    refine r_callVvF C hw (c_X11_token (zm := zm) hc3) md_X11_token [0, 1, 2, 3, 4, 5, 6, 7, 8, 9, 10, 11, 12, 13, 14, 15, 16, 17, 18] rfl rfl rfl rfl q5_44 0 rfl cf_X11.1 ⟨Nat.le_of_ble_eq_true rfl, Nat.le_of_ble_eq_true rfl⟩ ⟨Nat.zero_le _, Nat.zero_le _⟩ hl.1 rfl rfl (Nat.le_of_ble_eq_true rfl) dX11_fault_169 (fun H locs hw => ?_)
    refine lv_aload_n hx hb dX11_fault_172 rfl (lv_at hl 1 rfl) ?_
    obtain ⟨r4, Tm_5, hc6, hf⟩ := bd2_e hf
    refine r_callViF C hw (c_X11_readsLine (zm := zm) hc6) md_X11_readsLine [0, 1, 2, 3, 4, 5, 6, 7, 8, 9, 10, 11, 12, 13, 14, 15, 16, 17, 18] rfl rfl rfl rfl q5_51 0 rfl cf_X11.1 ⟨Nat.le_of_ble_eq_true rfl, Nat.le_of_ble_eq_true rfl⟩ ⟨Nat.zero_le _, Nat.zero_le _⟩ hl.1 rfl rfl (Nat.le_of_ble_eq_true rfl) dX11_fault_173 (fun H locs hw => ?_)
    refine lv_istore_n (lv' := [(1, .int r4), (0, .ref (zm 0))]) hx hb dX11_fault_176 rfl hl (by decide) rfl (fun ls hl => ?_)
    refine lv_iload_n hx hb dX11_fault_177 rfl (lv_at hl 0 rfl) ?_
    refine lv_if_ne (tgt := 186) hx hb dX11_fault_178 (by decide) (fun hc7 => ?_) (fun hc7 => ?_)
    · have hf := it_n hf hc7
      refine lv_goto (tgt := 111) hx hb dX11_fault_186 (by decide) ?_
      exact hr111 _ _ _ _ hf hw (lv_sub hl [1] rfl)
    · have hf := it_p hf hc7
      refine lv_aload_n hx hb dX11_fault_181 rfl (lv_at hl 1 rfl) ?_
      refine r_get C hw 0 rfl cf_X11 14 (by decide) q4_187 (v := .int (Tm_5 0 14)) rfl dX11_fault_182 ?_
      obtain ⟨rfl, rfl⟩ := so2 hf
      exact r_iret C hw rfl dX11_fault_185
set_option maxRecDepth 100000 in
set_option maxHeartbeats 4000000 in
theorem kX11_fault_162 {l : Launch} {g : evG} {p : Program} {e : Env} {s : State} {m : MethodId} {args : Array Value} {below : List Frame} {meth : Method} {c : Code} {A : Nat → Prop} {zm : Nat → Nat} {r : Int32} {om : Gp} (C : ctx g p s m args meth c RX11 cX11_fault 2 (some .int) A) {rec111 : Gp → Option (Int32 × Gp)} (hr111 : ∀ (Tm : Gp) (H : Heap) (locs : List Loc) (ls : Array Slot), rec111 Tm = some (r, om) → wl g A s.heap (gcM g zm Tm) H locs → lv_has ls 2 [(0, .ref (zm 0))] → W p l e (rmK 6 131) s m args below meth c H locs 0 0 (MQ below (Qi g A (gcM g zm om) r) args s 0 0 A) (F0 m 111 ls [])) {Tm : Gp} {H : Heap} {locs : List Loc} {ls : Array Slot} (hf : fX11_fault_162 rec111 Tm = some (r, om)) (hw : wl g A s.heap (gcM g zm Tm) H locs) (hl : lv_has ls 2 [(0, .ref (zm 0))]) : W p l e (rmK 6 131) s m args below meth c H locs 0 0 (MQ below (Qi g A (gcM g zm om) r) args s 0 0 A) (F0 m 162 ls []) := by
  obtain ⟨hx, hb, hml, hown, hts, -⟩ := id C
  unfold fX11_fault_162 at hf
  refine lv_iconst (v := (0 : Int32)) hx hb dX11_fault_162 rfl ?_
  exact kX11_fault_163 (zm := zm) (r := r) (om := om) C hr111 hf hw (lv_sub hl [0] rfl)
set_option maxRecDepth 100000 in
set_option maxHeartbeats 4000000 in
theorem kX11_fault_111 {l : Launch} {g : evG} {p : Program} {e : Env} {s : State} {m : MethodId} {args : Array Value} {below : List Frame} {meth : Method} {c : Code} {A : Nat → Prop} {zm : Nat → Nat} {r : Int32} {om : Gp} (C : ctx g p s m args meth c RX11 cX11_fault 2 (some .int) A) {rec111 : Gp → Option (Int32 × Gp)} (hr111 : ∀ (Tm : Gp) (H : Heap) (locs : List Loc) (ls : Array Slot), rec111 Tm = some (r, om) → wl g A s.heap (gcM g zm Tm) H locs → lv_has ls 2 [(0, .ref (zm 0))] → W p l e (rmK 6 131) s m args below meth c H locs 0 0 (MQ below (Qi g A (gcM g zm om) r) args s 0 0 A) (F0 m 111 ls [])) {Tm : Gp} {H : Heap} {locs : List Loc} {ls : Array Slot} (hf : fX11_fault_111 rec111 Tm = some (r, om)) (hw : wl g A s.heap (gcM g zm Tm) H locs) (hl : lv_has ls 2 [(0, .ref (zm 0))]) : W p l e (rmK 6 131) s m args below meth c H locs 0 0 (MQ below (Qi g A (gcM g zm om) r) args s 0 0 A) (F0 m 111 ls []) := by
  obtain ⟨hx, hb, hml, hown, hts, -⟩ := id C
  unfold fX11_fault_111 at hf
  refine lv_aload_n hx hb dX11_fault_111 rfl (lv_at hl 0 rfl) ?_
  refine r_get C hw 0 rfl cf_X11 14 (by decide) q4_187 (v := .int (Tm 0 14)) rfl dX11_fault_112 ?_
  refine lv_aload_n hx hb dX11_fault_115 rfl (lv_at hl 0 rfl) ?_
  refine r_get C hw 0 rfl cf_X11 3 (by decide) q4_176 (v := .int (Tm 0 3)) rfl dX11_fault_116 ?_
  refine lv_icmp_ge (tgt := 189) hx hb dX11_fault_119 (by decide) (fun hc5 => ?_) (fun hc5 => ?_)
  · have hf := it_p hf hc5
    refine lv_iconst (v := (-1 : Int32)) hx hb dX11_fault_189 rfl ?_
    obtain ⟨rfl, rfl⟩ := so2 hf
    exact r_iret C hw rfl dX11_fault_190
  · have hf := it_n hf hc5
    refine lv_aload_n hx hb dX11_fault_122 rfl (lv_at hl 0 rfl) ?_
    refine r_get C hw 0 rfl cf_X11 15 (by decide) q4_188 (v := .int (Tm 0 15)) rfl dX11_fault_123 ?_
    refine lv_aload_n hx hb dX11_fault_126 rfl (lv_at hl 0 rfl) ?_
    refine r_get C hw 0 rfl cf_X11 14 (by decide) q4_187 (v := .int (Tm 0 14)) rfl dX11_fault_127 ?_
    refine lv_isub hx hb dX11_fault_130 ?_
    refine lv_iconst (v := (1 : Int32)) hx hb dX11_fault_131 rfl ?_
    refine lv_icmp_ne (tgt := 162) hx hb dX11_fault_132 (by decide) (fun hc4 => ?_) (fun hc4 => ?_)
    · have hf := it_n hf hc4
      exact kX11_fault_162 (zm := zm) (r := r) (om := om) C hr111 hf hw (lv_sub hl [0] rfl)
    · have hf := it_p hf hc4
      refine lv_aload_n hx hb dX11_fault_135 rfl (lv_at hl 0 rfl) ?_
      refine r_get C hw 0 rfl cf_X11 2 (by decide) q4_175 (v := .ref (zm 3)) rfl dX11_fault_136 ?_
      refine lv_aload_n hx hb dX11_fault_139 rfl (lv_at hl 0 rfl) ?_
      refine r_get C hw 0 rfl cf_X11 14 (by decide) q4_187 (v := .int (Tm 0 14)) rfl dX11_fault_140 ?_
      obtain ⟨hi1, hf⟩ := it_g hf
      refine r_iald C hw 3 (f := (Tm 3)) rfl hi1 dX11_fault_143 ?_
      refine lv_bipush (v := (59 : Int32)) hx hb dX11_fault_144 rfl ?_
      refine lv_icmp_ne (tgt := 162) hx hb dX11_fault_146 (by decide) (fun hc3 => ?_) (fun hc3 => ?_)
      · have hf := it_n hf hc3
        exact kX11_fault_162 (zm := zm) (r := r) (om := om) C hr111 hf hw (lv_sub hl [0] rfl)
      · have hf := it_p hf hc3
        refine lv_aload_n hx hb dX11_fault_149 rfl (lv_at hl 0 rfl) ?_
        refine r_get C hw 0 rfl cf_X11 5 (by decide) q4_178 (v := .int (Tm 0 5)) rfl dX11_fault_150 ?_
        refine lv_bipush (v := (10 : Int32)) hx hb dX11_fault_153 rfl ?_
        refine lv_icmp_ge (tgt := 162) hx hb dX11_fault_155 (by decide) (fun hc2 => ?_) (fun hc2 => ?_)
        · have hf := it_p hf hc2
          exact kX11_fault_162 (zm := zm) (r := r) (om := om) C hr111 hf hw (lv_sub hl [0] rfl)
        · have hf := it_n hf hc2
          refine lv_iconst (v := (1 : Int32)) hx hb dX11_fault_158 rfl ?_
          refine lv_goto (tgt := 163) hx hb dX11_fault_159 (by decide) ?_
          exact kX11_fault_163 (zm := zm) (r := r) (om := om) C hr111 hf hw (lv_sub hl [0] rfl)
set_option maxRecDepth 100000 in
set_option maxHeartbeats 4000000 in
theorem klX11_fault_111 {l : Launch} {g : evG} {p : Program} {e : Env} {s : State} {m : MethodId} {args : Array Value} {below : List Frame} {meth : Method} {c : Code} {A : Nat → Prop} {zm : Nat → Nat} {r : Int32} {om : Gp} (C : ctx g p s m args meth c RX11 cX11_fault 2 (some .int) A) : ∀ (n : Nat) (Tm : Gp) (H : Heap) (locs : List Loc) (ls : Array Slot), lX11_fault_111 n Tm = some (r, om) → wl g A s.heap (gcM g zm Tm) H locs → lv_has ls 2 [(0, .ref (zm 0))] → W p l e (rmK 6 131) s m args below meth c H locs 0 0 (MQ below (Qi g A (gcM g zm om) r) args s 0 0 A) (F0 m 111 ls []) := by
  intro n
  induction n with
  | zero => intro _ _ _ _ hf; exact no_f hf
  | succ n ih => intro _ _ _ _ hf hw hl; exact kX11_fault_111 (zm := zm) (r := r) (om := om) C (rec111 := lX11_fault_111 n) ih hf hw hl
set_option maxRecDepth 100000 in
set_option maxHeartbeats 4000000 in
theorem kX11_fault_59 {l : Launch} {g : evG} {p : Program} {e : Env} {s : State} {m : MethodId} {args : Array Value} {below : List Frame} {meth : Method} {c : Code} {A : Nat → Prop} {zm : Nat → Nat} {r : Int32} {om : Gp} (C : ctx g p s m args meth c RX11 cX11_fault 2 (some .int) A) {rec28 : Gp → Int32 → Option (Int32 × Gp)} (hr28 : ∀ (Tm : Gp) (x1 : Int32) (H : Heap) (locs : List Loc) (ls : Array Slot), rec28 Tm x1 = some (r, om) → wl g A s.heap (gcM g zm Tm) H locs → lv_has ls 2 [(0, .ref (zm 0)), (1, .int x1)] → W p l e (rmK 6 131) s m args below meth c H locs 0 0 (MQ below (Qi g A (gcM g zm om) r) args s 0 0 A) (F0 m 28 ls [])) {Tm : Gp} {x1 : Int32} {y1 : Int32} {y2 : Int32} {H : Heap} {locs : List Loc} {ls : Array Slot} (hf : fX11_fault_59 rec28 Tm x1 y1 y2 = some (r, om)) (hw : wl g A s.heap (gcM g zm Tm) H locs) (hl : lv_has ls 2 [(0, .ref (zm 0)), (1, .int x1)]) : W p l e (rmK 6 131) s m args below meth c H locs 0 0 (MQ below (Qi g A (gcM g zm om) r) args s 0 0 A) (F0 m 59 ls [.int y2, .int y1, .ref (zm 8)]) := by
  obtain ⟨hx, hb, hml, hown, hts, -⟩ := id C
  unfold fX11_fault_59 at hf
  obtain ⟨hi1, hf⟩ := it_g hf
  refine r_zast C hw 8 (f := (Tm 8)) rfl hi1 (ws' := (gcM g zm (u2 Tm 8 y1.toNatClampNeg (vp_nar .boolean y2)))) gcM_a8 dX11_fault_59 (fun H locs hw => ?_)
  refine lv_aload_n hx hb dX11_fault_60 rfl (lv_at hl 0 rfl) ?_
  refine r_get C hw 0 rfl cf_X11 18 (by decide) q4_191 (v := .ref (zm 8)) rfl dX11_fault_61 ?_
  refine lv_iconst (v := (2 : Int32)) hx hb dX11_fault_64 rfl ?_
  refine lv_iload_n hx hb dX11_fault_65 rfl (lv_at hl 1 rfl) ?_
  refine lv_imul hx hb dX11_fault_66 ?_
  refine lv_iconst (v := (1 : Int32)) hx hb dX11_fault_67 rfl ?_
  refine lv_iadd hx hb dX11_fault_68 ?_
  refine lv_aload_n hx hb dX11_fault_69 rfl (lv_at hl 0 rfl) ?_
  refine r_get C hw 0 rfl cf_X11 8 (by decide) q4_181 (v := .ref (zm 5)) rfl dX11_fault_70 ?_
  refine lv_iconst (v := (4 : Int32)) hx hb dX11_fault_73 rfl ?_
  refine lv_iload_n hx hb dX11_fault_74 rfl (lv_at hl 1 rfl) ?_
  refine lv_imul hx hb dX11_fault_75 ?_
  refine lv_iconst (v := (2 : Int32)) hx hb dX11_fault_76 rfl ?_
  refine lv_iadd hx hb dX11_fault_77 ?_
  obtain ⟨hi2, hf⟩ := it_g hf
  refine r_iald C hw 5 (f := (Tm 5)) rfl hi2 dX11_fault_78 ?_
  refine lv_iconst (v := (-1 : Int32)) hx hb dX11_fault_79 rfl ?_
  refine lv_icmp_eq (tgt := 87) hx hb dX11_fault_80 (by decide) (fun hc5 => ?_) (fun hc5 => ?_)
  · have hf := it_p hf hc5
    refine lv_iconst (v := (0 : Int32)) hx hb dX11_fault_87 rfl ?_
    obtain ⟨hi3, hf⟩ := it_g hf
    refine r_zast C hw 8 (f := ((u2 Tm 8 y1.toNatClampNeg (vp_nar .boolean y2)) 8)) rfl hi3 (ws' := (gcM g zm (u2 (u2 Tm 8 y1.toNatClampNeg (vp_nar .boolean y2)) 8 (((2 : Int32) * x1) + (1 : Int32)).toNatClampNeg (vp_nar .boolean (0 : Int32))))) gcM_a8 dX11_fault_88 (fun H locs hw => ?_)
    refine lv_iinc (v := (x1 + (1 : Int32))) (lv' := [(1, .int (x1 + (1 : Int32))), (0, .ref (zm 0))]) hx hb dX11_fault_89 hl (k := 1) rfl rfl (by decide) rfl (fun ls hl => ?_)
    refine lv_goto (tgt := 28) hx hb dX11_fault_92 (by decide) ?_
    exact hr28 _ _ _ _ _ hf hw (lv_sub hl [1, 0] rfl)
  · have hf := it_n hf hc5
    refine lv_iconst (v := (1 : Int32)) hx hb dX11_fault_83 rfl ?_
    refine lv_goto (tgt := 88) hx hb dX11_fault_84 (by decide) ?_
    obtain ⟨hi4, hf⟩ := it_g hf
    refine r_zast C hw 8 (f := ((u2 Tm 8 y1.toNatClampNeg (vp_nar .boolean y2)) 8)) rfl hi4 (ws' := (gcM g zm (u2 (u2 Tm 8 y1.toNatClampNeg (vp_nar .boolean y2)) 8 (((2 : Int32) * x1) + (1 : Int32)).toNatClampNeg (vp_nar .boolean (1 : Int32))))) gcM_a8 dX11_fault_88 (fun H locs hw => ?_)
    refine lv_iinc (v := (x1 + (1 : Int32))) (lv' := [(1, .int (x1 + (1 : Int32))), (0, .ref (zm 0))]) hx hb dX11_fault_89 hl (k := 1) rfl rfl (by decide) rfl (fun ls hl => ?_)
    refine lv_goto (tgt := 28) hx hb dX11_fault_92 (by decide) ?_
    exact hr28 _ _ _ _ _ hf hw (lv_sub hl [1, 0] rfl)
set_option maxRecDepth 100000 in
set_option maxHeartbeats 4000000 in
theorem kX11_fault_28 {l : Launch} {g : evG} {p : Program} {e : Env} {s : State} {m : MethodId} {args : Array Value} {below : List Frame} {meth : Method} {c : Code} {A : Nat → Prop} {zm : Nat → Nat} {r : Int32} {om : Gp} (C : ctx g p s m args meth c RX11 cX11_fault 2 (some .int) A) {rec28 : Gp → Int32 → Option (Int32 × Gp)} (hr28 : ∀ (Tm : Gp) (x1 : Int32) (H : Heap) (locs : List Loc) (ls : Array Slot), rec28 Tm x1 = some (r, om) → wl g A s.heap (gcM g zm Tm) H locs → lv_has ls 2 [(0, .ref (zm 0)), (1, .int x1)] → W p l e (rmK 6 131) s m args below meth c H locs 0 0 (MQ below (Qi g A (gcM g zm om) r) args s 0 0 A) (F0 m 28 ls [])) {Tm : Gp} {x1 : Int32} {H : Heap} {locs : List Loc} {ls : Array Slot} (hf : fX11_fault_28 rec28 Tm x1 = some (r, om)) (hw : wl g A s.heap (gcM g zm Tm) H locs) (hl : lv_has ls 2 [(0, .ref (zm 0)), (1, .int x1)]) : W p l e (rmK 6 131) s m args below meth c H locs 0 0 (MQ below (Qi g A (gcM g zm om) r) args s 0 0 A) (F0 m 28 ls []) := by
  obtain ⟨hx, hb, hml, hown, hts, -⟩ := id C
  unfold fX11_fault_28 at hf
  refine lv_iload_n hx hb dX11_fault_28 rfl (lv_at hl 1 rfl) ?_
  refine lv_iconst (v := (5 : Int32)) hx hb dX11_fault_29 rfl ?_
  refine lv_icmp_ge (tgt := 95) hx hb dX11_fault_30 (by decide) (fun hc9 => ?_) (fun hc9 => ?_)
  · have hf := it_p hf hc9
    refine lv_aload_n hx hb dX11_fault_95 rfl (lv_at hl 0 rfl) ?_
    obtain ⟨Tm_1, hc2, hf⟩ := bd1_e hf
    refine r_callVvF C hw (c_X11_token (zm := zm) hc2) md_X11_token [0, 1, 2, 3, 4, 5, 6, 7, 8, 9, 10, 11, 12, 13, 14, 15, 16, 17, 18] rfl rfl rfl rfl q5_44 0 rfl cf_X11.1 ⟨Nat.le_of_ble_eq_true rfl, Nat.le_of_ble_eq_true rfl⟩ ⟨Nat.zero_le _, Nat.zero_le _⟩ hl.1 rfl rfl (Nat.le_of_ble_eq_true rfl) dX11_fault_96 (fun H locs hw => ?_)
    refine lv_aload_n hx hb dX11_fault_99 rfl (lv_at hl 0 rfl) ?_
    obtain ⟨r3, Tm_4, hc5, hf⟩ := bd2_e hf
    refine r_callViF C hw (c_X11_readsLine (zm := zm) hc5) md_X11_readsLine [0, 1, 2, 3, 4, 5, 6, 7, 8, 9, 10, 11, 12, 13, 14, 15, 16, 17, 18] rfl rfl rfl rfl q5_51 0 rfl cf_X11.1 ⟨Nat.le_of_ble_eq_true rfl, Nat.le_of_ble_eq_true rfl⟩ ⟨Nat.zero_le _, Nat.zero_le _⟩ hl.1 rfl rfl (Nat.le_of_ble_eq_true rfl) dX11_fault_100 (fun H locs hw => ?_)
    refine lv_if_ne (tgt := 111) hx hb dX11_fault_103 (by decide) (fun hc6 => ?_) (fun hc6 => ?_)
    · have hf := it_n hf hc6
      exact klX11_fault_111 (zm := zm) (r := r) (om := om) C fu _ _ _ _ hf hw (lv_sub hl [0] rfl)
    · have hf := it_p hf hc6
      refine lv_aload_n hx hb dX11_fault_106 rfl (lv_at hl 0 rfl) ?_
      refine r_get C hw 0 rfl cf_X11 14 (by decide) q4_187 (v := .int (Tm_4 0 14)) rfl dX11_fault_107 ?_
      obtain ⟨rfl, rfl⟩ := so2 hf
      exact r_iret C hw rfl dX11_fault_110
  · have hf := it_n hf hc9
    refine lv_aload_n hx hb dX11_fault_33 rfl (lv_at hl 0 rfl) ?_
    refine r_get C hw 0 rfl cf_X11 18 (by decide) q4_191 (v := .ref (zm 8)) rfl dX11_fault_34 ?_
    refine lv_iconst (v := (2 : Int32)) hx hb dX11_fault_37 rfl ?_
    refine lv_iload_n hx hb dX11_fault_38 rfl (lv_at hl 1 rfl) ?_
    refine lv_imul hx hb dX11_fault_39 ?_
    refine lv_aload_n hx hb dX11_fault_40 rfl (lv_at hl 0 rfl) ?_
    refine r_get C hw 0 rfl cf_X11 8 (by decide) q4_181 (v := .ref (zm 5)) rfl dX11_fault_41 ?_
    refine lv_iconst (v := (4 : Int32)) hx hb dX11_fault_44 rfl ?_
    refine lv_iload_n hx hb dX11_fault_45 rfl (lv_at hl 1 rfl) ?_
    refine lv_imul hx hb dX11_fault_46 ?_
    refine lv_iconst (v := (1 : Int32)) hx hb dX11_fault_47 rfl ?_
    refine lv_iadd hx hb dX11_fault_48 ?_
    obtain ⟨hi7, hf⟩ := it_g hf
    refine r_iald C hw 5 (f := (Tm 5)) rfl hi7 dX11_fault_49 ?_
    refine lv_iconst (v := (-1 : Int32)) hx hb dX11_fault_50 rfl ?_
    refine lv_icmp_eq (tgt := 58) hx hb dX11_fault_51 (by decide) (fun hc8 => ?_) (fun hc8 => ?_)
    · have hf := it_p hf hc8
      refine lv_iconst (v := (0 : Int32)) hx hb dX11_fault_58 rfl ?_
      exact kX11_fault_59 (zm := zm) (r := r) (om := om) C hr28 hf hw (lv_sub hl [0, 1] rfl)
    · have hf := it_n hf hc8
      refine lv_iconst (v := (1 : Int32)) hx hb dX11_fault_54 rfl ?_
      refine lv_goto (tgt := 59) hx hb dX11_fault_55 (by decide) ?_
      exact kX11_fault_59 (zm := zm) (r := r) (om := om) C hr28 hf hw (lv_sub hl [0, 1] rfl)
set_option maxRecDepth 100000 in
set_option maxHeartbeats 4000000 in
theorem klX11_fault_28 {l : Launch} {g : evG} {p : Program} {e : Env} {s : State} {m : MethodId} {args : Array Value} {below : List Frame} {meth : Method} {c : Code} {A : Nat → Prop} {zm : Nat → Nat} {r : Int32} {om : Gp} (C : ctx g p s m args meth c RX11 cX11_fault 2 (some .int) A) : ∀ (n : Nat) (Tm : Gp) (x1 : Int32) (H : Heap) (locs : List Loc) (ls : Array Slot), lX11_fault_28 n Tm x1 = some (r, om) → wl g A s.heap (gcM g zm Tm) H locs → lv_has ls 2 [(0, .ref (zm 0)), (1, .int x1)] → W p l e (rmK 6 131) s m args below meth c H locs 0 0 (MQ below (Qi g A (gcM g zm om) r) args s 0 0 A) (F0 m 28 ls []) := by
  intro n
  induction n with
  | zero => intro _ _ _ _ _ hf; exact no_f hf
  | succ n ih => intro _ _ _ _ _ hf hw hl; exact kX11_fault_28 (zm := zm) (r := r) (om := om) C (rec28 := lX11_fault_28 n) ih hf hw hl
set_option maxRecDepth 100000 in
set_option maxHeartbeats 4000000 in
theorem c_X11_fault {l : Launch} {g : evG} {zm : Nat → Nat} {r : Int32} {om : Gp}  {Tm : Gp} (hf : fX11_fault Tm = some (r, om)) : CTi l g yX11_fault (Cond.code yX11_fault cX11_fault 2 (some .int)) 6 131 [.ref (zm 0)] (gcM g zm Tm) (gcM g zm om) r := by
  refine ct_i rfl (Nat.le_of_ble_eq_true rfl) ?_
  intro p e s m args below meth c A ls C hw hl
  have C : ctx g p s m args meth c RX11 cX11_fault 2 (some .int) A := C
  have hl : lv_has ls 2 [(0, .ref (zm 0))] := hl
  obtain ⟨hx, hb, hml, hown, hts, -⟩ := id C
  unfold fX11_fault at hf
  refine lv_aload_n hx hb dX11_fault_0 rfl (lv_at hl 0 rfl) ?_
  refine lv_iconst (v := (0 : Int32)) hx hb dX11_fault_1 rfl ?_
  refine r_puti C hw 0 rfl cf_X11 13 (by decide) q4_186 rfl rfl (Nat.le_of_ble_eq_true rfl) (ws' := (gcM g zm (u2 Tm 0 13 (0 : Int32)))) gcM_p13 dX11_fault_2 (fun H locs hw => ?_)
  refine lv_aload_n hx hb dX11_fault_5 rfl (lv_at hl 0 rfl) ?_
  refine lv_iconst (v := (0 : Int32)) hx hb dX11_fault_6 rfl ?_
  refine r_puti C hw 0 rfl cf_X11 5 (by decide) q4_178 rfl rfl (Nat.le_of_ble_eq_true rfl) (ws' := (gcM g zm (u2 (u2 Tm 0 13 (0 : Int32)) 0 5 (0 : Int32)))) gcM_p5 dX11_fault_7 (fun H locs hw => ?_)
  refine lv_aload_n hx hb dX11_fault_10 rfl (lv_at hl 0 rfl) ?_
  refine lv_aload_n hx hb dX11_fault_11 rfl (lv_at hl 0 rfl) ?_
  refine r_get C hw 0 rfl cf_X11 6 (by decide) q4_179 (v := .int (Tm 0 6)) rfl dX11_fault_12 ?_
  refine r_puti C hw 0 rfl cf_X11 16 (by decide) q4_189 rfl rfl (Nat.le_of_ble_eq_true rfl) (ws' := (gcM g zm (u2 (u2 (u2 Tm 0 13 (0 : Int32)) 0 5 (0 : Int32)) 0 16 (Tm 0 6)))) gcM_p16 dX11_fault_15 (fun H locs hw => ?_)
  refine lv_aload_n hx hb dX11_fault_18 rfl (lv_at hl 0 rfl) ?_
  refine lv_aload_n hx hb dX11_fault_19 rfl (lv_at hl 0 rfl) ?_
  refine r_get C hw 0 rfl cf_X11 7 (by decide) q4_180 (v := .int (Tm 0 7)) rfl dX11_fault_20 ?_
  refine r_puti C hw 0 rfl cf_X11 17 (by decide) q4_190 rfl rfl (Nat.le_of_ble_eq_true rfl) (ws' := (gcM g zm (u2 (u2 (u2 (u2 Tm 0 13 (0 : Int32)) 0 5 (0 : Int32)) 0 16 (Tm 0 6)) 0 17 (Tm 0 7)))) gcM_p17 dX11_fault_23 (fun H locs hw => ?_)
  refine lv_iconst (v := (0 : Int32)) hx hb dX11_fault_26 rfl ?_
  refine lv_istore_n (lv' := [(1, .int (0 : Int32)), (0, .ref (zm 0))]) hx hb dX11_fault_27 rfl hl (by decide) rfl (fun ls hl => ?_)
  exact klX11_fault_28 (zm := zm) (r := r) (om := om) C fu _ _ _ _ _ hf hw (lv_sub hl [1, 0] rfl)
set_option maxRecDepth 100000 in
set_option maxHeartbeats 4000000 in
theorem c_X11_meantAt {l : Launch} {g : evG}  {r : Int32}  {x0 : Int32} {x1 : Int32} {x2 : Int32} {x3 : Int32} (hf : fX11_meantAt x0 x1 x2 x3 = some (r)) : CTi l g yX11_meantAt (Cond.code yX11_meantAt cX11_meantAt 4 (some .int)) 0 0 [.int x0, .int x1, .int x2, .int x3] ([] : va_W) ([] : va_W) r := by
  refine ct_i rfl (Nat.le_of_ble_eq_true rfl) ?_
  intro p e s m args below meth c A ls C hw hl
  have C : ctx g p s m args meth c RX11 cX11_meantAt 4 (some .int) A := C
  have hl : lv_has ls 4 [(0, .int x0), (1, .int x1), (2, .int x2), (3, .int x3)] := hl
  obtain ⟨hx, hb, hml, hown, hts, -⟩ := id C
  unfold fX11_meantAt at hf
  refine lv_bipush (v := (48 : Int32)) hx hb dX11_meantAt_0 rfl ?_
  refine lv_iload_n hx hb dX11_meantAt_2 rfl (lv_at hl 0 rfl) ?_
  refine lv_imul hx hb dX11_meantAt_3 ?_
  refine lv_bipush (v := (24 : Int32)) hx hb dX11_meantAt_4 rfl ?_
  refine lv_iload_n hx hb dX11_meantAt_6 rfl (lv_at hl 1 rfl) ?_
  refine lv_imul hx hb dX11_meantAt_7 ?_
  refine lv_iadd hx hb dX11_meantAt_8 ?_
  refine lv_iconst (v := (4 : Int32)) hx hb dX11_meantAt_9 rfl ?_
  refine lv_iload_n hx hb dX11_meantAt_10 rfl (lv_at hl 2 rfl) ?_
  refine lv_imul hx hb dX11_meantAt_11 ?_
  refine lv_iadd hx hb dX11_meantAt_12 ?_
  refine lv_iload_n hx hb dX11_meantAt_13 rfl (lv_at hl 3 rfl) ?_
  refine lv_iadd hx hb dX11_meantAt_14 ?_
  obtain rfl := so1 hf
  exact r_iret C hw rfl dX11_meantAt_15
