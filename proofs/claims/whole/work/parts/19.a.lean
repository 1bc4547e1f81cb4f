theorem sX10_isSuch_6 (n : Nat) : lX10_isSuch_6 (n + 1) = fX10_isSuch_6 (lX10_isSuch_6 n) := rfl
theorem sX7_append_3 (n : Nat) : lX7_append_3 (n + 1) = fX7_append_3 (lX7_append_3 n) := rfl
theorem sX8_advance_104 (Tx : Gp) (n : Nat) : lX8_advance_104 Tx (n + 1) = fX8_advance_104 Tx (lX8_advance_104 Tx n) := rfl
theorem sX8_advance_8 (Tx : Gp) (n : Nat) : lX8_advance_8 Tx (n + 1) = fX8_advance_8 Tx (lX8_advance_8 Tx n) := rfl
theorem sX8_number_57 (Tk : Gp) (Tx : Gp) (n : Nat) : lX8_number_57 Tk Tx (n + 1) = fX8_number_57 Tk Tx (lX8_number_57 Tk Tx n) := rfl
theorem sX8_isWord_28 (k : Nat) (Tk : Gp) (Tx : Gp) (n : Nat) : lX8_isWord_28 k Tk Tx (n + 1) = fX8_isWord_28 k Tk Tx (lX8_isWord_28 k Tk Tx n) := rfl
theorem sX9_becomeLike_123 (To : Gp) (n : Nat) : lX9_becomeLike_123 To (n + 1) = fX9_becomeLike_123 To (lX9_becomeLike_123 To n) := rfl
theorem sX9_becomeLike_97 (To : Gp) (n : Nat) : lX9_becomeLike_97 To (n + 1) = fX9_becomeLike_97 To (lX9_becomeLike_97 To n) := rfl
theorem sX9_becomeLike_60 (To : Gp) (n : Nat) : lX9_becomeLike_60 To (n + 1) = fX9_becomeLike_60 To (lX9_becomeLike_60 To n) := rfl
theorem sX9_becomeLike_34 (To : Gp) (n : Nat) : lX9_becomeLike_34 To (n + 1) = fX9_becomeLike_34 To (lX9_becomeLike_34 To n) := rfl
theorem sX1_readInto_14 (Tx : Gp) (n : Nat) : lX1_readInto_14 Tx (n + 1) = fX1_readInto_14 Tx (lX1_readInto_14 Tx n) := rfl
theorem sX0_becomeLike_81 (To : Gp) (n : Nat) : lX0_becomeLike_81 To (n + 1) = fX0_becomeLike_81 To (lX0_becomeLike_81 To n) := rfl
theorem sX0_becomeLike_43 (To : Gp) (n : Nat) : lX0_becomeLike_43 To (n + 1) = fX0_becomeLike_43 To (lX0_becomeLike_43 To n) := rfl
theorem sX0_becomeLike_18 (To : Gp) (n : Nat) : lX0_becomeLike_18 To (n + 1) = fX0_becomeLike_18 To (lX0_becomeLike_18 To n) := rfl
theorem sX0_makeBread_3 (Tt : Gp) (n : Nat) : lX0_makeBread_3 Tt (n + 1) = fX0_makeBread_3 Tt (lX0_makeBread_3 Tt n) := rfl
theorem sX0_passOne_58 (Tt : Gp) (n : Nat) : lX0_passOne_58 Tt (n + 1) = fX0_passOne_58 Tt (lX0_passOne_58 Tt n) := rfl
theorem sX0_passOne_12 (Tt : Gp) (rec2 : Gp → Int32 → Option (Gp)) (n : Nat) : lX0_passOne_12 Tt rec2 (n + 1) = fX0_passOne_12 Tt rec2 (lX0_passOne_12 Tt rec2 n) := rfl
theorem sX0_passOne_2 (Tt : Gp) (n : Nat) : lX0_passOne_2 Tt (n + 1) = fX0_passOne_2 Tt (lX0_passOne_2 Tt n) := rfl
theorem sX3_toBeAlike_9 (Tn : Gp) (n : Nat) : lX3_toBeAlike_9 Tn (n + 1) = fX3_toBeAlike_9 Tn (lX3_toBeAlike_9 Tn n) := rfl
theorem sX3_leastOfAll_5 (Tn : Gp) (n : Nat) : lX3_leastOfAll_5 Tn (n + 1) = fX3_leastOfAll_5 Tn (lX3_leastOfAll_5 Tn n) := rfl
theorem sX3_toBeNeverAlike_64 (rec36 : Gp → Int32 → Int32 → Int32 → Int32 → Option (Int32 × Gp)) (n : Nat) : lX3_toBeNeverAlike_64 rec36 (n + 1) = fX3_toBeNeverAlike_64 rec36 (lX3_toBeNeverAlike_64 rec36 n) := rfl
theorem sX3_toBeNeverAlike_36 (n : Nat) : lX3_toBeNeverAlike_36 (n + 1) = fX3_toBeNeverAlike_36 (lX3_toBeNeverAlike_36 n) := rfl
theorem sX3_toBeNeverAlike_3 (n : Nat) : lX3_toBeNeverAlike_3 (n + 1) = fX3_toBeNeverAlike_3 (lX3_toBeNeverAlike_3 n) := rfl
theorem sX4_leastHarm_46 (rec16 : Gp → Int32 → Int32 → Int32 → Int32 → Int32 → Option (Int32 × Gp)) (n : Nat) : lX4_leastHarm_46 rec16 (n + 1) = fX4_leastHarm_46 rec16 (lX4_leastHarm_46 rec16 n) := rfl
theorem sX4_leastHarm_16 (n : Nat) : lX4_leastHarm_16 (n + 1) = fX4_leastHarm_16 (lX4_leastHarm_16 n) := rfl
theorem sX4_firstBest_3 (Th : Gp) (n : Nat) : lX4_firstBest_3 Th (n + 1) = fX4_firstBest_3 Th (lX4_firstBest_3 Th n) := rfl
theorem sX4_partnerOf_16 (n : Nat) : lX4_partnerOf_16 (n + 1) = fX4_partnerOf_16 (lX4_partnerOf_16 n) := rfl
theorem sX2_greatestOfSet_27 (Tg : Gp) (n : Nat) : lX2_greatestOfSet_27 Tg (n + 1) = fX2_greatestOfSet_27 Tg (lX2_greatestOfSet_27 Tg n) := rfl
theorem sX2_greatestOf_20 (n : Nat) : lX2_greatestOf_20 (n + 1) = fX2_greatestOf_20 (lX2_greatestOf_20 n) := rfl
theorem sX6_reckon_22 (rec15 : Gp → Int32 → Int32 → Int32 → Option (Int32 × Gp)) (n : Nat) : lX6_reckon_22 rec15 (n + 1) = fX6_reckon_22 rec15 (lX6_reckon_22 rec15 n) := rfl
theorem sX6_reckon_15 (n : Nat) : lX6_reckon_15 (n + 1) = fX6_reckon_15 (lX6_reckon_15 n) := rfl
theorem sX6_firstSlip_16 (n : Nat) : lX6_firstSlip_16 (n + 1) = fX6_firstSlip_16 (lX6_firstSlip_16 n) := rfl
theorem sX5_clearRow_2 (n : Nat) : lX5_clearRow_2 (n + 1) = fX5_clearRow_2 (lX5_clearRow_2 n) := rfl
theorem sX5_findWorths_20 (Tt : Gp) (rec11 : Gp → Int32 → Int32 → Int32 → Int32 → Option (Gp)) (n : Nat) : lX5_findWorths_20 Tt rec11 (n + 1) = fX5_findWorths_20 Tt rec11 (lX5_findWorths_20 Tt rec11 n) := rfl
theorem sX5_findWorths_11 (Tt : Gp) (n : Nat) : lX5_findWorths_11 Tt (n + 1) = fX5_findWorths_11 Tt (lX5_findWorths_11 Tt n) := rfl
theorem sX5_offerAll_3 (n : Nat) : lX5_offerAll_3 (n + 1) = fX5_offerAll_3 (lX5_offerAll_3 n) := rfl
theorem sX5_reckonRow_10 (n : Nat) : lX5_reckonRow_10 (n + 1) = fX5_reckonRow_10 (lX5_reckonRow_10 n) := rfl
theorem sX5_reckon_60 (Tt : Gp) (rec46 : Gp → Int32 → Int32 → Option (Gp)) (n : Nat) : lX5_reckon_60 Tt rec46 (n + 1) = fX5_reckon_60 Tt rec46 (lX5_reckon_60 Tt rec46 n) := rfl
theorem sX5_reckon_46 (Tt : Gp) (n : Nat) : lX5_reckon_46 Tt (n + 1) = fX5_reckon_46 Tt (lX5_reckon_46 Tt n) := rfl
theorem sX5_choose_31 (Tt : Gp) (rec22 : Gp → Int32 → Int32 → Int32 → Int32 → Int32 → Int32 → Int32 → Option (Gp)) (n : Nat) : lX5_choose_31 Tt rec22 (n + 1) = fX5_choose_31 Tt rec22 (lX5_choose_31 Tt rec22 n) := rfl
theorem sX5_choose_22 (Tt : Gp) (n : Nat) : lX5_choose_22 Tt (n + 1) = fX5_choose_22 Tt (lX5_choose_22 Tt n) := rfl
theorem sX5_follow_37 (Tt : Gp) (rec6 : Gp → Int32 → Int32 → Int32 → Int32 → Int32 → Int32 → Option (Int32 × Gp)) (n : Nat) : lX5_follow_37 Tt rec6 (n + 1) = fX5_follow_37 Tt rec6 (lX5_follow_37 Tt rec6 n) := rfl
theorem sX5_follow_6 (Tt : Gp) (n : Nat) : lX5_follow_6 Tt (n + 1) = fX5_follow_6 Tt (lX5_follow_6 Tt n) := rfl
theorem sX10_treaty_64 (n : Nat) : lX10_treaty_64 (n + 1) = fX10_treaty_64 (lX10_treaty_64 n) := rfl
theorem sX10_days_15 (Te : Gp) (Tt : Gp) (n : Nat) : lX10_days_15 Te Tt (n + 1) = fX10_days_15 Te Tt (lX10_days_15 Te Tt n) := rfl
theorem sX10_breaches_18 (Te : Gp) (Td : Gp) (Tt : Gp) (n : Nat) : lX10_breaches_18 Te Td Tt (n + 1) = fX10_breaches_18 Te Td Tt (lX10_breaches_18 Te Td Tt n) := rfl
theorem sX11_begin_2 (n : Nat) : lX11_begin_2 (n + 1) = fX11_begin_2 (lX11_begin_2 n) := rfl
theorem sX11_write_33 (n : Nat) : lX11_write_33 (n + 1) = fX11_write_33 (lX11_write_33 n) := rfl
theorem sX11_token_71 (n : Nat) : lX11_token_71 (n + 1) = fX11_token_71 (lX11_token_71 n) := rfl
theorem sX11_token_0 (n : Nat) : lX11_token_0 (n + 1) = fX11_token_0 (lX11_token_0 n) := rfl
theorem sX11_isWord_22 (Tm : Gp) (n : Nat) : lX11_isWord_22 Tm (n + 1) = fX11_isWord_22 Tm (lX11_isWord_22 Tm n) := rfl
theorem sX11_reads_51 (n : Nat) : lX11_reads_51 (n + 1) = fX11_reads_51 (lX11_reads_51 n) := rfl
theorem sX11_fault_111 (n : Nat) : lX11_fault_111 (n + 1) = fX11_fault_111 (lX11_fault_111 n) := rfl
theorem sX11_fault_28 (n : Nat) : lX11_fault_28 (n + 1) = fX11_fault_28 (lX11_fault_28 n) := rfl
theorem sX11_tell_122 (n : Nat) : lX11_tell_122 (n + 1) = fX11_tell_122 (lX11_tell_122 n) := rfl
theorem sX11_tell_97 (n : Nat) : lX11_tell_97 (n + 1) = fX11_tell_97 (lX11_tell_97 n) := rfl
theorem sX11_tell_73 (n : Nat) : lX11_tell_73 (n + 1) = fX11_tell_73 (lX11_tell_73 n) := rfl
theorem sX11_treaty_13 (n : Nat) : lX11_treaty_13 (n + 1) = fX11_treaty_13 (lX11_treaty_13 n) := rfl
theorem sX11_day_190 (n : Nat) : lX11_day_190 (n + 1) = fX11_day_190 (lX11_day_190 n) := rfl
theorem sX11_day_78 (rec2 : Gp → Int32 → Option (Gp)) (rec12 : Gp → Int32 → Int32 → Option (Gp)) (n : Nat) : lX11_day_78 rec2 rec12 (n + 1) = fX11_day_78 rec2 rec12 (lX11_day_78 rec2 rec12 n) := rfl
theorem sX11_day_12 (rec2 : Gp → Int32 → Option (Gp)) (n : Nat) : lX11_day_12 rec2 (n + 1) = fX11_day_12 rec2 (lX11_day_12 rec2 n) := rfl
theorem sX11_day_2 (n : Nat) : lX11_day_2 (n + 1) = fX11_day_2 (lX11_day_2 n) := rfl
theorem sX11_days_17 (n : Nat) : lX11_days_17 (n + 1) = fX11_days_17 (lX11_days_17 n) := rfl
theorem sX11_breaches_15 (Tm : Gp) (n : Nat) : lX11_breaches_15 Tm (n + 1) = fX11_breaches_15 Tm (lX11_breaches_15 Tm n) := rfl
theorem sX11_layWorths_73 (rec53 : Gp → Int32 → Int32 → Int32 → Option (Gp)) (rec61 : Gp → Int32 → Int32 → Int32 → Int32 → Option (Gp)) (n : Nat) : lX11_layWorths_73 rec53 rec61 (n + 1) = fX11_layWorths_73 rec53 rec61 (lX11_layWorths_73 rec53 rec61 n) := rfl
theorem sX11_layWorths_61 (rec53 : Gp → Int32 → Int32 → Int32 → Option (Gp)) (n : Nat) : lX11_layWorths_61 rec53 (n + 1) = fX11_layWorths_61 rec53 (lX11_layWorths_61 rec53 n) := rfl
theorem sX11_layWorths_53 (n : Nat) : lX11_layWorths_53 (n + 1) = fX11_layWorths_53 (lX11_layWorths_53 n) := rfl
theorem sX11_layWorths_13 (n : Nat) : lX11_layWorths_13 (n + 1) = fX11_layWorths_13 (lX11_layWorths_13 n) := rfl
theorem sX11_choose_45 (rec28 : Gp → Int32 → Int32 → Int32 → Option (Int32 × Gp)) (n : Nat) : lX11_choose_45 rec28 (n + 1) = fX11_choose_45 rec28 (lX11_choose_45 rec28 n) := rfl
theorem sX11_choose_28 (n : Nat) : lX11_choose_28 (n + 1) = fX11_choose_28 (lX11_choose_28 n) := rfl
theorem sX11_news_253 (n : Nat) : lX11_news_253 (n + 1) = fX11_news_253 (lX11_news_253 n) := rfl
theorem sX11_news_214 (rec63 : Gp → Int32 → Int32 → Int32 → Int32 → Int32 → Option (Int32 × Gp)) (n : Nat) : lX11_news_214 rec63 (n + 1) = fX11_news_214 rec63 (lX11_news_214 rec63 n) := rfl
theorem sX11_news_90 (rec63 : Gp → Int32 → Int32 → Int32 → Int32 → Int32 → Option (Int32 × Gp)) (rec72 : Gp → Int32 → Int32 → Int32 → Int32 → Int32 → Int32 → Option (Int32 × Gp)) (n : Nat) : lX11_news_90 rec63 rec72 (n + 1) = fX11_news_90 rec63 rec72 (lX11_news_90 rec63 rec72 n) := rfl
theorem sX11_news_72 (rec63 : Gp → Int32 → Int32 → Int32 → Int32 → Int32 → Option (Int32 × Gp)) (n : Nat) : lX11_news_72 rec63 (n + 1) = fX11_news_72 rec63 (lX11_news_72 rec63 n) := rfl
theorem sX11_news_63 (n : Nat) : lX11_news_63 (n + 1) = fX11_news_63 (lX11_news_63 n) := rfl
theorem sX11_news_30 (n : Nat) : lX11_news_30 (n + 1) = fX11_news_30 (lX11_news_30 n) := rfl
theorem sX11_bits_4 (n : Nat) : lX11_bits_4 (n + 1) = fX11_bits_4 (lX11_bits_4 n) := rfl
theorem sX11_layRests_35 (rec9 : Gp → Int32 → Int32 → Int32 → Option (Int32 × Gp)) (n : Nat) : lX11_layRests_35 rec9 (n + 1) = fX11_layRests_35 rec9 (lX11_layRests_35 rec9 n) := rfl
theorem sX11_layRests_9 (n : Nat) : lX11_layRests_9 (n + 1) = fX11_layRests_9 (lX11_layRests_9 n) := rfl
theorem sX11_anew_40 (rec31 : Gp → Int32 → Int32 → Int32 → Int32 → Int32 → Option (Int32 × Gp)) (n : Nat) : lX11_anew_40 rec31 (n + 1) = fX11_anew_40 rec31 (lX11_anew_40 rec31 n) := rfl
theorem sX11_anew_31 (n : Nat) : lX11_anew_31 (n + 1) = fX11_anew_31 (lX11_anew_31 n) := rfl
theorem sX11_fours_30 (rec15 : Gp → Int32 → Int32 → Option (Int32 × Gp)) (n : Nat) : lX11_fours_30 rec15 (n + 1) = fX11_fours_30 rec15 (lX11_fours_30 rec15 n) := rfl
theorem sX11_fours_15 (n : Nat) : lX11_fours_15 (n + 1) = fX11_fours_15 (lX11_fours_15 n) := rfl
theorem sX11_slips_182 (n : Nat) : lX11_slips_182 (n + 1) = fX11_slips_182 (lX11_slips_182 n) := rfl
theorem sX11_slips_81 (rec73 : Gp → Int32 → Int32 → Int32 → Int32 → Option (Int32 × Gp)) (n : Nat) : lX11_slips_81 rec73 (n + 1) = fX11_slips_81 rec73 (lX11_slips_81 rec73 n) := rfl
theorem sX11_slips_73 (n : Nat) : lX11_slips_73 (n + 1) = fX11_slips_73 (lX11_slips_73 n) := rfl
theorem sX11_copy_2 (n : Nat) : lX11_copy_2 (n + 1) = fX11_copy_2 (lX11_copy_2 n) := rfl
theorem fu_gt {k : Nat} (h : k < 99999) : k < fu := by
  show k < 100000
  omega
theorem fu_ex : ∃ n, fu = n + 99990 := ⟨10, rfl⟩
theorem gt_s {k n : Nat} (h : k < n) : ∃ m, n = m + 1 ∧ k ≤ m := ⟨n - 1, by omega, by omega⟩
