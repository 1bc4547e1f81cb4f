theorem dX0_init_0 : decode cX0_init 0 = .ok (.aload_n 0, 1) := by decide +kernel
theorem dX0_init_1 : decode cX0_init 1 = .ok (.invokespecial 3, 3) := by decide +kernel
theorem dX0_init_4 : decode cX0_init 4 = .ok (.aload_n 0, 1) := by decide +kernel
theorem dX0_init_5 : decode cX0_init 5 = .ok (.iconst 2, 1) := by decide +kernel
theorem dX0_init_6 : decode cX0_init 6 = .ok (.newarray .int, 2) := by decide +kernel
theorem dX0_init_8 : decode cX0_init 8 = .ok (.putfield 9, 3) := by decide +kernel
theorem dX0_init_11 : decode cX0_init 11 = .ok (.aload_n 0, 1) := by decide +kernel
theorem dX0_init_12 : decode cX0_init 12 = .ok (.bipush 12, 2) := by decide +kernel
theorem dX0_init_14 : decode cX0_init 14 = .ok (.newarray .int, 2) := by decide +kernel
theorem dX0_init_16 : decode cX0_init 16 = .ok (.putfield 15, 3) := by decide +kernel
theorem dX0_init_19 : decode cX0_init 19 = .ok (.aload_n 0, 1) := by decide +kernel
theorem dX0_init_20 : decode cX0_init 20 = .ok (.bipush 12, 2) := by decide +kernel
theorem dX0_init_22 : decode cX0_init 22 = .ok (.newarray .int, 2) := by decide +kernel
theorem dX0_init_24 : decode cX0_init 24 = .ok (.putfield 18, 3) := by decide +kernel
theorem dX0_init_27 : decode cX0_init 27 = .ok (.aload_n 0, 1) := by decide +kernel
theorem dX0_init_28 : decode cX0_init 28 = .ok (.bipush 48, 2) := by decide +kernel
theorem dX0_init_30 : decode cX0_init 30 = .ok (.newarray .int, 2) := by decide +kernel
theorem dX0_init_32 : decode cX0_init 32 = .ok (.putfield 21, 3) := by decide +kernel
theorem dX0_init_35 : decode cX0_init 35 = .ok (.aload_n 0, 1) := by decide +kernel
theorem dX0_init_36 : decode cX0_init 36 = .ok (.invokevirtual 24, 3) := by decide +kernel
theorem dX0_init_39 : decode cX0_init 39 = .ok (.return_, 1) := by decide +kernel
theorem dX0_beginAnew_0 : decode cX0_beginAnew 0 = .ok (.aload_n 0, 1) := by decide +kernel
theorem dX0_beginAnew_1 : decode cX0_beginAnew 1 = .ok (.iconst 0, 1) := by decide +kernel
theorem dX0_beginAnew_2 : decode cX0_beginAnew 2 = .ok (.putfield 27, 3) := by decide +kernel
theorem dX0_beginAnew_5 : decode cX0_beginAnew 5 = .ok (.aload_n 0, 1) := by decide +kernel
theorem dX0_beginAnew_6 : decode cX0_beginAnew 6 = .ok (.iconst 0, 1) := by decide +kernel
theorem dX0_beginAnew_7 : decode cX0_beginAnew 7 = .ok (.putfield 31, 3) := by decide +kernel
theorem dX0_beginAnew_10 : decode cX0_beginAnew 10 = .ok (.aload_n 0, 1) := by decide +kernel
theorem dX0_beginAnew_11 : decode cX0_beginAnew 11 = .ok (.getfield 9, 3) := by decide +kernel
theorem dX0_beginAnew_14 : decode cX0_beginAnew 14 = .ok (.iconst 0, 1) := by decide +kernel
theorem dX0_beginAnew_15 : decode cX0_beginAnew 15 = .ok (.invokestatic 34, 3) := by decide +kernel
theorem dX0_beginAnew_18 : decode cX0_beginAnew 18 = .ok (.aload_n 0, 1) := by decide +kernel
theorem dX0_beginAnew_19 : decode cX0_beginAnew 19 = .ok (.getfield 15, 3) := by decide +kernel
theorem dX0_beginAnew_22 : decode cX0_beginAnew 22 = .ok (.iconst 0, 1) := by decide +kernel
theorem dX0_beginAnew_23 : decode cX0_beginAnew 23 = .ok (.invokestatic 34, 3) := by decide +kernel
theorem dX0_beginAnew_26 : decode cX0_beginAnew 26 = .ok (.aload_n 0, 1) := by decide +kernel
theorem dX0_beginAnew_27 : decode cX0_beginAnew 27 = .ok (.getfield 18, 3) := by decide +kernel
theorem dX0_beginAnew_30 : decode cX0_beginAnew 30 = .ok (.iconst 0, 1) := by decide +kernel
theorem dX0_beginAnew_31 : decode cX0_beginAnew 31 = .ok (.invokestatic 34, 3) := by decide +kernel
theorem dX0_beginAnew_34 : decode cX0_beginAnew 34 = .ok (.aload_n 0, 1) := by decide +kernel
theorem dX0_beginAnew_35 : decode cX0_beginAnew 35 = .ok (.getfield 21, 3) := by decide +kernel
theorem dX0_beginAnew_38 : decode cX0_beginAnew 38 = .ok (.iconst (-1), 1) := by decide +kernel
theorem dX0_beginAnew_39 : decode cX0_beginAnew 39 = .ok (.invokestatic 34, 3) := by decide +kernel
theorem dX0_beginAnew_42 : decode cX0_beginAnew 42 = .ok (.return_, 1) := by decide +kernel
theorem dX0_becomeLike_0 : decode cX0_becomeLike 0 = .ok (.aload_n 0, 1) := by decide +kernel
theorem dX0_becomeLike_1 : decode cX0_becomeLike 1 = .ok (.aload_n 1, 1) := by decide +kernel
theorem dX0_becomeLike_2 : decode cX0_becomeLike 2 = .ok (.getfield 27, 3) := by decide +kernel
theorem dX0_becomeLike_5 : decode cX0_becomeLike 5 = .ok (.putfield 27, 3) := by decide +kernel
theorem dX0_becomeLike_8 : decode cX0_becomeLike 8 = .ok (.aload_n 0, 1) := by decide +kernel
theorem dX0_becomeLike_9 : decode cX0_becomeLike 9 = .ok (.aload_n 1, 1) := by decide +kernel
theorem dX0_becomeLike_10 : decode cX0_becomeLike 10 = .ok (.getfield 31, 3) := by decide +kernel
theorem dX0_becomeLike_13 : decode cX0_becomeLike 13 = .ok (.putfield 31, 3) := by decide +kernel
theorem dX0_becomeLike_16 : decode cX0_becomeLike 16 = .ok (.iconst 0, 1) := by decide +kernel
theorem dX0_becomeLike_17 : decode cX0_becomeLike 17 = .ok (.istore_n 2, 1) := by decide +kernel
theorem dX0_becomeLike_18 : decode cX0_becomeLike 18 = .ok (.iload_n 2, 1) := by decide +kernel
theorem dX0_becomeLike_19 : decode cX0_becomeLike 19 = .ok (.iconst 2, 1) := by decide +kernel
theorem dX0_becomeLike_20 : decode cX0_becomeLike 20 = .ok (.if_icmp .ge 21, 3) := by decide +kernel
theorem dX0_becomeLike_23 : decode cX0_becomeLike 23 = .ok (.aload_n 0, 1) := by decide +kernel
theorem dX0_becomeLike_24 : decode cX0_becomeLike 24 = .ok (.getfield 9, 3) := by decide +kernel
theorem dX0_becomeLike_27 : decode cX0_becomeLike 27 = .ok (.iload_n 2, 1) := by decide +kernel
theorem dX0_becomeLike_28 : decode cX0_becomeLike 28 = .ok (.aload_n 1, 1) := by decide +kernel
theorem dX0_becomeLike_29 : decode cX0_becomeLike 29 = .ok (.getfield 9, 3) := by decide +kernel
theorem dX0_becomeLike_32 : decode cX0_becomeLike 32 = .ok (.iload_n 2, 1) := by decide +kernel
theorem dX0_becomeLike_33 : decode cX0_becomeLike 33 = .ok (.iaload, 1) := by decide +kernel
theorem dX0_becomeLike_34 : decode cX0_becomeLike 34 = .ok (.iastore, 1) := by decide +kernel
theorem dX0_becomeLike_35 : decode cX0_becomeLike 35 = .ok (.iinc 2 1, 3) := by decide +kernel
theorem dX0_becomeLike_38 : decode cX0_becomeLike 38 = .ok (.goto (-20), 3) := by decide +kernel
theorem dX0_becomeLike_41 : decode cX0_becomeLike 41 = .ok (.iconst 0, 1) := by decide +kernel
theorem dX0_becomeLike_42 : decode cX0_becomeLike 42 = .ok (.istore_n 2, 1) := by decide +kernel
theorem dX0_becomeLike_43 : decode cX0_becomeLike 43 = .ok (.iload_n 2, 1) := by decide +kernel
theorem dX0_becomeLike_44 : decode cX0_becomeLike 44 = .ok (.bipush 12, 2) := by decide +kernel
theorem dX0_becomeLike_46 : decode cX0_becomeLike 46 = .ok (.if_icmp .ge 33, 3) := by decide +kernel
theorem dX0_becomeLike_49 : decode cX0_becomeLike 49 = .ok (.aload_n 0, 1) := by decide +kernel
theorem dX0_becomeLike_50 : decode cX0_becomeLike 50 = .ok (.getfield 15, 3) := by decide +kernel
theorem dX0_becomeLike_53 : decode cX0_becomeLike 53 = .ok (.iload_n 2, 1) := by decide +kernel
theorem dX0_becomeLike_54 : decode cX0_becomeLike 54 = .ok (.aload_n 1, 1) := by decide +kernel
theorem dX0_becomeLike_55 : decode cX0_becomeLike 55 = .ok (.getfield 15, 3) := by decide +kernel
theorem dX0_becomeLike_58 : decode cX0_becomeLike 58 = .ok (.iload_n 2, 1) := by decide +kernel
theorem dX0_becomeLike_59 : decode cX0_becomeLike 59 = .ok (.iaload, 1) := by decide +kernel
theorem dX0_becomeLike_60 : decode cX0_becomeLike 60 = .ok (.iastore, 1) := by decide +kernel
theorem dX0_becomeLike_61 : decode cX0_becomeLike 61 = .ok (.aload_n 0, 1) := by decide +kernel
theorem dX0_becomeLike_62 : decode cX0_becomeLike 62 = .ok (.getfield 18, 3) := by decide +kernel
theorem dX0_becomeLike_65 : decode cX0_becomeLike 65 = .ok (.iload_n 2, 1) := by decide +kernel
theorem dX0_becomeLike_66 : decode cX0_becomeLike 66 = .ok (.aload_n 1, 1) := by decide +kernel
theorem dX0_becomeLike_67 : decode cX0_becomeLike 67 = .ok (.getfield 18, 3) := by decide +kernel
theorem dX0_becomeLike_70 : decode cX0_becomeLike 70 = .ok (.iload_n 2, 1) := by decide +kernel
theorem dX0_becomeLike_71 : decode cX0_becomeLike 71 = .ok (.iaload, 1) := by decide +kernel
theorem dX0_becomeLike_72 : decode cX0_becomeLike 72 = .ok (.iastore, 1) := by decide +kernel
theorem dX0_becomeLike_73 : decode cX0_becomeLike 73 = .ok (.iinc 2 1, 3) := by decide +kernel
theorem dX0_becomeLike_76 : decode cX0_becomeLike 76 = .ok (.goto (-33), 3) := by decide +kernel
theorem dX0_becomeLike_79 : decode cX0_becomeLike 79 = .ok (.iconst 0, 1) := by decide +kernel
theorem dX0_becomeLike_80 : decode cX0_becomeLike 80 = .ok (.istore_n 2, 1) := by decide +kernel
theorem dX0_becomeLike_81 : decode cX0_becomeLike 81 = .ok (.iload_n 2, 1) := by decide +kernel
theorem dX0_becomeLike_82 : decode cX0_becomeLike 82 = .ok (.bipush 48, 2) := by decide +kernel
theorem dX0_becomeLike_84 : decode cX0_becomeLike 84 = .ok (.if_icmp .ge 21, 3) := by decide +kernel
theorem dX0_becomeLike_87 : decode cX0_becomeLike 87 = .ok (.aload_n 0, 1) := by decide +kernel
theorem dX0_becomeLike_88 : decode cX0_becomeLike 88 = .ok (.getfield 21, 3) := by decide +kernel
theorem dX0_becomeLike_91 : decode cX0_becomeLike 91 = .ok (.iload_n 2, 1) := by decide +kernel
theorem dX0_becomeLike_92 : decode cX0_becomeLike 92 = .ok (.aload_n 1, 1) := by decide +kernel
theorem dX0_becomeLike_93 : decode cX0_becomeLike 93 = .ok (.getfield 21, 3) := by decide +kernel
theorem dX0_becomeLike_96 : decode cX0_becomeLike 96 = .ok (.iload_n 2, 1) := by decide +kernel
theorem dX0_becomeLike_97 : decode cX0_becomeLike 97 = .ok (.iaload, 1) := by decide +kernel
theorem dX0_becomeLike_98 : decode cX0_becomeLike 98 = .ok (.iastore, 1) := by decide +kernel
theorem dX0_becomeLike_99 : decode cX0_becomeLike 99 = .ok (.iinc 2 1, 3) := by decide +kernel
theorem dX0_becomeLike_102 : decode cX0_becomeLike 102 = .ok (.goto (-21), 3) := by decide +kernel
theorem dX0_becomeLike_105 : decode cX0_becomeLike 105 = .ok (.return_, 1) := by decide +kernel
theorem dX0_tellOtherwise_0 : decode cX0_tellOtherwise 0 = .ok (.iload_n 1, 1) := by decide +kernel
theorem dX0_tellOtherwise_1 : decode cX0_tellOtherwise 1 = .ok (.iload_n 2, 1) := by decide +kernel
theorem dX0_tellOtherwise_2 : decode cX0_tellOtherwise 2 = .ok (.iload_n 3, 1) := by decide +kernel
theorem dX0_tellOtherwise_3 : decode cX0_tellOtherwise 3 = .ok (.invokestatic 40, 3) := by decide +kernel
theorem dX0_tellOtherwise_6 : decode cX0_tellOtherwise 6 = .ok (.istore 5, 2) := by decide +kernel
theorem dX0_tellOtherwise_8 : decode cX0_tellOtherwise 8 = .ok (.iload 5, 2) := by decide +kernel
theorem dX0_tellOtherwise_10 : decode cX0_tellOtherwise 10 = .ok (.iconst 0, 1) := by decide +kernel
theorem dX0_tellOtherwise_11 : decode cX0_tellOtherwise 11 = .ok (.bipush 47, 2) := by decide +kernel
theorem dX0_tellOtherwise_13 : decode cX0_tellOtherwise 13 = .ok (.invokestatic 44, 3) := by decide +kernel
theorem dX0_tellOtherwise_16 : decode cX0_tellOtherwise 16 = .ok (.ifCond .eq 12, 3) := by decide +kernel
theorem dX0_tellOtherwise_19 : decode cX0_tellOtherwise 19 = .ok (.aload_n 0, 1) := by decide +kernel
theorem dX0_tellOtherwise_20 : decode cX0_tellOtherwise 20 = .ok (.getfield 21, 3) := by decide +kernel
theorem dX0_tellOtherwise_23 : decode cX0_tellOtherwise 23 = .ok (.iload 5, 2) := by decide +kernel
theorem dX0_tellOtherwise_25 : decode cX0_tellOtherwise 25 = .ok (.iload 4, 2) := by decide +kernel
theorem dX0_tellOtherwise_27 : decode cX0_tellOtherwise 27 = .ok (.iastore, 1) := by decide +kernel
theorem dX0_tellOtherwise_28 : decode cX0_tellOtherwise 28 = .ok (.return_, 1) := by decide +kernel
theorem dX0_tellIll_0 : decode cX0_tellIll 0 = .ok (.iconst 1, 1) := by decide +kernel
theorem dX0_tellIll_1 : decode cX0_tellIll 1 = .ok (.iload_n 1, 1) := by decide +kernel
theorem dX0_tellIll_2 : decode cX0_tellIll 2 = .ok (.iload_n 2, 1) := by decide +kernel
theorem dX0_tellIll_3 : decode cX0_tellIll 3 = .ok (.invokestatic 48, 3) := by decide +kernel
theorem dX0_tellIll_6 : decode cX0_tellIll 6 = .ok (.ishl, 1) := by decide +kernel
theorem dX0_tellIll_7 : decode cX0_tellIll 7 = .ok (.istore 4, 2) := by decide +kernel
theorem dX0_tellIll_9 : decode cX0_tellIll 9 = .ok (.aload_n 0, 1) := by decide +kernel
theorem dX0_tellIll_10 : decode cX0_tellIll 10 = .ok (.iload_n 3, 1) := by decide +kernel
theorem dX0_tellIll_11 : decode cX0_tellIll 11 = .ok (.ifCond .eq 13, 3) := by decide +kernel
theorem dX0_tellIll_14 : decode cX0_tellIll 14 = .ok (.aload_n 0, 1) := by decide +kernel
theorem dX0_tellIll_15 : decode cX0_tellIll 15 = .ok (.getfield 31, 3) := by decide +kernel
theorem dX0_tellIll_18 : decode cX0_tellIll 18 = .ok (.iload 4, 2) := by decide +kernel
theorem dX0_tellIll_20 : decode cX0_tellIll 20 = .ok (.ior, 1) := by decide +kernel
theorem dX0_tellIll_21 : decode cX0_tellIll 21 = .ok (.goto 12, 3) := by decide +kernel
theorem dX0_tellIll_24 : decode cX0_tellIll 24 = .ok (.aload_n 0, 1) := by decide +kernel
theorem dX0_tellIll_25 : decode cX0_tellIll 25 = .ok (.getfield 31, 3) := by decide +kernel
theorem dX0_tellIll_28 : decode cX0_tellIll 28 = .ok (.iload 4, 2) := by decide +kernel
theorem dX0_tellIll_30 : decode cX0_tellIll 30 = .ok (.iconst (-1), 1) := by decide +kernel
theorem dX0_tellIll_31 : decode cX0_tellIll 31 = .ok (.ixor, 1) := by decide +kernel
theorem dX0_tellIll_32 : decode cX0_tellIll 32 = .ok (.iand, 1) := by decide +kernel
theorem dX0_tellIll_33 : decode cX0_tellIll 33 = .ok (.putfield 31, 3) := by decide +kernel
theorem dX0_tellIll_36 : decode cX0_tellIll 36 = .ok (.return_, 1) := by decide +kernel
theorem dX0_isIll_0 : decode cX0_isIll 0 = .ok (.aload_n 0, 1) := by decide +kernel
theorem dX0_isIll_1 : decode cX0_isIll 1 = .ok (.getfield 31, 3) := by decide +kernel
theorem dX0_isIll_4 : decode cX0_isIll 4 = .ok (.iload_n 1, 1) := by decide +kernel
theorem dX0_isIll_5 : decode cX0_isIll 5 = .ok (.iload_n 2, 1) := by decide +kernel
theorem dX0_isIll_6 : decode cX0_isIll 6 = .ok (.invokestatic 48, 3) := by decide +kernel
theorem dX0_isIll_9 : decode cX0_isIll 9 = .ok (.ishr, 1) := by decide +kernel
theorem dX0_isIll_10 : decode cX0_isIll 10 = .ok (.iconst 1, 1) := by decide +kernel
theorem dX0_isIll_11 : decode cX0_isIll 11 = .ok (.iand, 1) := by decide +kernel
theorem dX0_isIll_12 : decode cX0_isIll 12 = .ok (.ifCond .eq 7, 3) := by decide +kernel
theorem dX0_isIll_15 : decode cX0_isIll 15 = .ok (.iconst 1, 1) := by decide +kernel
theorem dX0_isIll_16 : decode cX0_isIll 16 = .ok (.goto 4, 3) := by decide +kernel
theorem dX0_isIll_19 : decode cX0_isIll 19 = .ok (.iconst 0, 1) := by decide +kernel
theorem dX0_isIll_20 : decode cX0_isIll 20 = .ok (.ireturn, 1) := by decide +kernel
theorem dX0_faultsOf_0 : decode cX0_faultsOf 0 = .ok (.iload_n 1, 1) := by decide +kernel
theorem dX0_faultsOf_1 : decode cX0_faultsOf 1 = .ok (.iload_n 2, 1) := by decide +kernel
theorem dX0_faultsOf_2 : decode cX0_faultsOf 2 = .ok (.invokestatic 48, 3) := by decide +kernel
theorem dX0_faultsOf_5 : decode cX0_faultsOf 5 = .ok (.istore_n 3, 1) := by decide +kernel
theorem dX0_faultsOf_6 : decode cX0_faultsOf 6 = .ok (.iload_n 3, 1) := by decide +kernel
theorem dX0_faultsOf_7 : decode cX0_faultsOf 7 = .ok (.iconst 0, 1) := by decide +kernel
theorem dX0_faultsOf_8 : decode cX0_faultsOf 8 = .ok (.bipush 11, 2) := by decide +kernel
theorem dX0_faultsOf_10 : decode cX0_faultsOf 10 = .ok (.invokestatic 44, 3) := by decide +kernel
theorem dX0_faultsOf_13 : decode cX0_faultsOf 13 = .ok (.ifCond .eq 12, 3) := by decide +kernel
theorem dX0_faultsOf_16 : decode cX0_faultsOf 16 = .ok (.aload_n 0, 1) := by decide +kernel
theorem dX0_faultsOf_17 : decode cX0_faultsOf 17 = .ok (.getfield 15, 3) := by decide +kernel
theorem dX0_faultsOf_20 : decode cX0_faultsOf 20 = .ok (.iload_n 3, 1) := by decide +kernel
theorem dX0_faultsOf_21 : decode cX0_faultsOf 21 = .ok (.iaload, 1) := by decide +kernel
theorem dX0_faultsOf_22 : decode cX0_faultsOf 22 = .ok (.goto 4, 3) := by decide +kernel
theorem dX0_faultsOf_25 : decode cX0_faultsOf 25 = .ok (.iconst 0, 1) := by decide +kernel
theorem dX0_faultsOf_26 : decode cX0_faultsOf 26 = .ok (.ireturn, 1) := by decide +kernel
theorem dX0_owedBy_0 : decode cX0_owedBy 0 = .ok (.iload_n 1, 1) := by decide +kernel
theorem dX0_owedBy_1 : decode cX0_owedBy 1 = .ok (.iload_n 2, 1) := by decide +kernel
theorem dX0_owedBy_2 : decode cX0_owedBy 2 = .ok (.invokestatic 48, 3) := by decide +kernel
theorem dX0_owedBy_5 : decode cX0_owedBy 5 = .ok (.istore_n 3, 1) := by decide +kernel
theorem dX0_owedBy_6 : decode cX0_owedBy 6 = .ok (.iload_n 3, 1) := by decide +kernel
theorem dX0_owedBy_7 : decode cX0_owedBy 7 = .ok (.iconst 0, 1) := by decide +kernel
theorem dX0_owedBy_8 : decode cX0_owedBy 8 = .ok (.bipush 11, 2) := by decide +kernel
theorem dX0_owedBy_10 : decode cX0_owedBy 10 = .ok (.invokestatic 44, 3) := by decide +kernel
theorem dX0_owedBy_13 : decode cX0_owedBy 13 = .ok (.ifCond .eq 12, 3) := by decide +kernel
theorem dX0_owedBy_16 : decode cX0_owedBy 16 = .ok (.aload_n 0, 1) := by decide +kernel
theorem dX0_owedBy_17 : decode cX0_owedBy 17 = .ok (.getfield 18, 3) := by decide +kernel
theorem dX0_owedBy_20 : decode cX0_owedBy 20 = .ok (.iload_n 3, 1) := by decide +kernel
theorem dX0_owedBy_21 : decode cX0_owedBy 21 = .ok (.iaload, 1) := by decide +kernel
theorem dX0_owedBy_22 : decode cX0_owedBy 22 = .ok (.goto 4, 3) := by decide +kernel
theorem dX0_owedBy_25 : decode cX0_owedBy 25 = .ok (.iconst 0, 1) := by decide +kernel
theorem dX0_owedBy_26 : decode cX0_owedBy 26 = .ok (.ireturn, 1) := by decide +kernel
theorem dX0_odd_0 : decode cX0_odd 0 = .ok (.aload_n 0, 1) := by decide +kernel
theorem dX0_odd_1 : decode cX0_odd 1 = .ok (.getfield 27, 3) := by decide +kernel
theorem dX0_odd_4 : decode cX0_odd 4 = .ok (.iconst 1, 1) := by decide +kernel
theorem dX0_odd_5 : decode cX0_odd 5 = .ok (.iand, 1) := by decide +kernel
theorem dX0_odd_6 : decode cX0_odd 6 = .ok (.ireturn, 1) := by decide +kernel
theorem dX0_toldFor_0 : decode cX0_toldFor 0 = .ok (.iload_n 1, 1) := by decide +kernel
theorem dX0_toldFor_1 : decode cX0_toldFor 1 = .ok (.iload_n 2, 1) := by decide +kernel
theorem dX0_toldFor_2 : decode cX0_toldFor 2 = .ok (.iload_n 3, 1) := by decide +kernel
theorem dX0_toldFor_3 : decode cX0_toldFor 3 = .ok (.invokestatic 40, 3) := by decide +kernel
theorem dX0_toldFor_6 : decode cX0_toldFor 6 = .ok (.istore 4, 2) := by decide +kernel
theorem dX0_toldFor_8 : decode cX0_toldFor 8 = .ok (.iload 4, 2) := by decide +kernel
theorem dX0_toldFor_10 : decode cX0_toldFor 10 = .ok (.iconst 0, 1) := by decide +kernel
theorem dX0_toldFor_11 : decode cX0_toldFor 11 = .ok (.bipush 47, 2) := by decide +kernel
theorem dX0_toldFor_13 : decode cX0_toldFor 13 = .ok (.invokestatic 44, 3) := by decide +kernel
theorem dX0_toldFor_16 : decode cX0_toldFor 16 = .ok (.ifCond .eq 13, 3) := by decide +kernel
theorem dX0_toldFor_19 : decode cX0_toldFor 19 = .ok (.aload_n 0, 1) := by decide +kernel
theorem dX0_toldFor_20 : decode cX0_toldFor 20 = .ok (.getfield 21, 3) := by decide +kernel
theorem dX0_toldFor_23 : decode cX0_toldFor 23 = .ok (.iload 4, 2) := by decide +kernel
theorem dX0_toldFor_25 : decode cX0_toldFor 25 = .ok (.iaload, 1) := by decide +kernel
theorem dX0_toldFor_26 : decode cX0_toldFor 26 = .ok (.goto 4, 3) := by decide +kernel
theorem dX0_toldFor_29 : decode cX0_toldFor 29 = .ok (.iconst (-1), 1) := by decide +kernel
theorem dX0_toldFor_30 : decode cX0_toldFor 30 = .ok (.ireturn, 1) := by decide +kernel
theorem dX0_isToldOtherwise_0 : decode cX0_isToldOtherwise 0 = .ok (.aload_n 0, 1) := by decide +kernel
theorem dX0_isToldOtherwise_1 : decode cX0_isToldOtherwise 1 = .ok (.iload_n 2, 1) := by decide +kernel
theorem dX0_isToldOtherwise_2 : decode cX0_isToldOtherwise 2 = .ok (.iload_n 3, 1) := by decide +kernel
theorem dX0_isToldOtherwise_3 : decode cX0_isToldOtherwise 3 = .ok (.iload 4, 2) := by decide +kernel
theorem dX0_isToldOtherwise_5 : decode cX0_isToldOtherwise 5 = .ok (.invokevirtual 52, 3) := by decide +kernel
theorem dX0_isToldOtherwise_8 : decode cX0_isToldOtherwise 8 = .ok (.istore 5, 2) := by decide +kernel
theorem dX0_isToldOtherwise_10 : decode cX0_isToldOtherwise 10 = .ok (.iload 5, 2) := by decide +kernel
theorem dX0_isToldOtherwise_12 : decode cX0_isToldOtherwise 12 = .ok (.iconst (-1), 1) := by decide +kernel
theorem dX0_isToldOtherwise_13 : decode cX0_isToldOtherwise 13 = .ok (.if_icmp .eq 24, 3) := by decide +kernel
theorem dX0_isToldOtherwise_16 : decode cX0_isToldOtherwise 16 = .ok (.iload 5, 2) := by decide +kernel
theorem dX0_isToldOtherwise_18 : decode cX0_isToldOtherwise 18 = .ok (.aload_n 1, 1) := by decide +kernel
theorem dX0_isToldOtherwise_19 : decode cX0_isToldOtherwise 19 = .ok (.aload_n 0, 1) := by decide +kernel
theorem dX0_isToldOtherwise_20 : decode cX0_isToldOtherwise 20 = .ok (.invokevirtual 55, 3) := by decide +kernel
theorem dX0_isToldOtherwise_23 : decode cX0_isToldOtherwise 23 = .ok (.iload_n 2, 1) := by decide +kernel
theorem dX0_isToldOtherwise_24 : decode cX0_isToldOtherwise 24 = .ok (.iload_n 3, 1) := by decide +kernel
theorem dX0_isToldOtherwise_25 : decode cX0_isToldOtherwise 25 = .ok (.iload 4, 2) := by decide +kernel
theorem dX0_isToldOtherwise_27 : decode cX0_isToldOtherwise 27 = .ok (.invokevirtual 59, 3) := by decide +kernel
theorem dX0_isToldOtherwise_30 : decode cX0_isToldOtherwise 30 = .ok (.if_icmp .eq 7, 3) := by decide +kernel
theorem dX0_isToldOtherwise_33 : decode cX0_isToldOtherwise 33 = .ok (.iconst 1, 1) := by decide +kernel
theorem dX0_isToldOtherwise_34 : decode cX0_isToldOtherwise 34 = .ok (.goto 4, 3) := by decide +kernel
theorem dX0_isToldOtherwise_37 : decode cX0_isToldOtherwise 37 = .ok (.iconst 0, 1) := by decide +kernel
theorem dX0_isToldOtherwise_38 : decode cX0_isToldOtherwise 38 = .ok (.ireturn, 1) := by decide +kernel
theorem dX0_workOf_0 : decode cX0_workOf 0 = .ok (.aload_n 0, 1) := by decide +kernel
theorem dX0_workOf_1 : decode cX0_workOf 1 = .ok (.iload_n 2, 1) := by decide +kernel
theorem dX0_workOf_2 : decode cX0_workOf 2 = .ok (.iload_n 3, 1) := by decide +kernel
theorem dX0_workOf_3 : decode cX0_workOf 3 = .ok (.invokevirtual 65, 3) := by decide +kernel
theorem dX0_workOf_6 : decode cX0_workOf 6 = .ok (.ifCond .eq 5, 3) := by decide +kernel
theorem dX0_workOf_9 : decode cX0_workOf 9 = .ok (.iconst 5, 1) := by decide +kernel
theorem dX0_workOf_10 : decode cX0_workOf 10 = .ok (.ireturn, 1) := by decide +kernel
theorem dX0_workOf_11 : decode cX0_workOf 11 = .ok (.aload_n 0, 1) := by decide +kernel
theorem dX0_workOf_12 : decode cX0_workOf 12 = .ok (.iload_n 2, 1) := by decide +kernel
theorem dX0_workOf_13 : decode cX0_workOf 13 = .ok (.iload_n 3, 1) := by decide +kernel
theorem dX0_workOf_14 : decode cX0_workOf 14 = .ok (.iload 4, 2) := by decide +kernel
theorem dX0_workOf_16 : decode cX0_workOf 16 = .ok (.invokevirtual 52, 3) := by decide +kernel
theorem dX0_workOf_19 : decode cX0_workOf 19 = .ok (.istore 5, 2) := by decide +kernel
theorem dX0_workOf_21 : decode cX0_workOf 21 = .ok (.iload 5, 2) := by decide +kernel
theorem dX0_workOf_23 : decode cX0_workOf 23 = .ok (.iconst (-1), 1) := by decide +kernel
theorem dX0_workOf_24 : decode cX0_workOf 24 = .ok (.if_icmp .ne 17, 3) := by decide +kernel
theorem dX0_workOf_27 : decode cX0_workOf 27 = .ok (.aload_n 1, 1) := by decide +kernel
theorem dX0_workOf_28 : decode cX0_workOf 28 = .ok (.aload_n 0, 1) := by decide +kernel
theorem dX0_workOf_29 : decode cX0_workOf 29 = .ok (.invokevirtual 55, 3) := by decide +kernel
theorem dX0_workOf_32 : decode cX0_workOf 32 = .ok (.iload_n 2, 1) := by decide +kernel
theorem dX0_workOf_33 : decode cX0_workOf 33 = .ok (.iload_n 3, 1) := by decide +kernel
theorem dX0_workOf_34 : decode cX0_workOf 34 = .ok (.iload 4, 2) := by decide +kernel
theorem dX0_workOf_36 : decode cX0_workOf 36 = .ok (.invokevirtual 59, 3) := by decide +kernel
theorem dX0_workOf_39 : decode cX0_workOf 39 = .ok (.istore 5, 2) := by decide +kernel
theorem dX0_workOf_41 : decode cX0_workOf 41 = .ok (.aload_n 1, 1) := by decide +kernel
theorem dX0_workOf_42 : decode cX0_workOf 42 = .ok (.iload_n 2, 1) := by decide +kernel
theorem dX0_workOf_43 : decode cX0_workOf 43 = .ok (.iload_n 3, 1) := by decide +kernel
theorem dX0_workOf_44 : decode cX0_workOf 44 = .ok (.iload 4, 2) := by decide +kernel
theorem dX0_workOf_46 : decode cX0_workOf 46 = .ok (.iload 5, 2) := by decide +kernel
theorem dX0_workOf_48 : decode cX0_workOf 48 = .ok (.invokevirtual 69, 3) := by decide +kernel
theorem dX0_workOf_51 : decode cX0_workOf 51 = .ok (.ifCond .eq 8, 3) := by decide +kernel
theorem dX0_workOf_54 : decode cX0_workOf 54 = .ok (.iload 5, 2) := by decide +kernel
theorem dX0_workOf_56 : decode cX0_workOf 56 = .ok (.goto 4, 3) := by decide +kernel
theorem dX0_workOf_59 : decode cX0_workOf 59 = .ok (.iconst 5, 1) := by decide +kernel
theorem dX0_workOf_60 : decode cX0_workOf 60 = .ok (.ireturn, 1) := by decide +kernel
theorem dX0_isBreach_0 : decode cX0_isBreach 0 = .ok (.aload_n 0, 1) := by decide +kernel
theorem dX0_isBreach_1 : decode cX0_isBreach 1 = .ok (.iconst 0, 1) := by decide +kernel
theorem dX0_isBreach_2 : decode cX0_isBreach 2 = .ok (.iload_n 2, 1) := by decide +kernel
theorem dX0_isBreach_3 : decode cX0_isBreach 3 = .ok (.invokevirtual 65, 3) := by decide +kernel
theorem dX0_isBreach_6 : decode cX0_isBreach 6 = .ok (.ifCond .ne 12, 3) := by decide +kernel
theorem dX0_isBreach_9 : decode cX0_isBreach 9 = .ok (.aload_n 0, 1) := by decide +kernel
theorem dX0_isBreach_10 : decode cX0_isBreach 10 = .ok (.iconst 1, 1) := by decide +kernel
theorem dX0_isBreach_11 : decode cX0_isBreach 11 = .ok (.iload_n 2, 1) := by decide +kernel
theorem dX0_isBreach_12 : decode cX0_isBreach 12 = .ok (.invokevirtual 65, 3) := by decide +kernel
theorem dX0_isBreach_15 : decode cX0_isBreach 15 = .ok (.ifCond .eq 5, 3) := by decide +kernel
theorem dX0_isBreach_18 : decode cX0_isBreach 18 = .ok (.iconst 0, 1) := by decide +kernel
theorem dX0_isBreach_19 : decode cX0_isBreach 19 = .ok (.ireturn, 1) := by decide +kernel
theorem dX0_isBreach_20 : decode cX0_isBreach 20 = .ok (.aload_n 0, 1) := by decide +kernel
theorem dX0_isBreach_21 : decode cX0_isBreach 21 = .ok (.aload_n 1, 1) := by decide +kernel
theorem dX0_isBreach_22 : decode cX0_isBreach 22 = .ok (.iconst 0, 1) := by decide +kernel
theorem dX0_isBreach_23 : decode cX0_isBreach 23 = .ok (.iload_n 2, 1) := by decide +kernel
theorem dX0_isBreach_24 : decode cX0_isBreach 24 = .ok (.iload_n 3, 1) := by decide +kernel
theorem dX0_isBreach_25 : decode cX0_isBreach 25 = .ok (.invokevirtual 73, 3) := by decide +kernel
theorem dX0_isBreach_28 : decode cX0_isBreach 28 = .ok (.istore 4, 2) := by decide +kernel
theorem dX0_isBreach_30 : decode cX0_isBreach 30 = .ok (.aload_n 0, 1) := by decide +kernel
theorem dX0_isBreach_31 : decode cX0_isBreach 31 = .ok (.aload_n 1, 1) := by decide +kernel
theorem dX0_isBreach_32 : decode cX0_isBreach 32 = .ok (.iconst 1, 1) := by decide +kernel
theorem dX0_isBreach_33 : decode cX0_isBreach 33 = .ok (.iload_n 2, 1) := by decide +kernel
theorem dX0_isBreach_34 : decode cX0_isBreach 34 = .ok (.iload_n 3, 1) := by decide +kernel
theorem dX0_isBreach_35 : decode cX0_isBreach 35 = .ok (.invokevirtual 73, 3) := by decide +kernel
theorem dX0_isBreach_38 : decode cX0_isBreach 38 = .ok (.istore 5, 2) := by decide +kernel
theorem dX0_isBreach_40 : decode cX0_isBreach 40 = .ok (.aload_n 1, 1) := by decide +kernel
theorem dX0_isBreach_41 : decode cX0_isBreach 41 = .ok (.aload_n 0, 1) := by decide +kernel
theorem dX0_isBreach_42 : decode cX0_isBreach 42 = .ok (.invokevirtual 55, 3) := by decide +kernel
theorem dX0_isBreach_45 : decode cX0_isBreach 45 = .ok (.iload_n 2, 1) := by decide +kernel
theorem dX0_isBreach_46 : decode cX0_isBreach 46 = .ok (.iload 4, 2) := by decide +kernel
theorem dX0_isBreach_48 : decode cX0_isBreach 48 = .ok (.iload 5, 2) := by decide +kernel
theorem dX0_isBreach_50 : decode cX0_isBreach 50 = .ok (.invokevirtual 77, 3) := by decide +kernel
theorem dX0_isBreach_53 : decode cX0_isBreach 53 = .ok (.ifCond .ne 7, 3) := by decide +kernel
theorem dX0_isBreach_56 : decode cX0_isBreach 56 = .ok (.iconst 1, 1) := by decide +kernel
theorem dX0_isBreach_57 : decode cX0_isBreach 57 = .ok (.goto 4, 3) := by decide +kernel
theorem dX0_isBreach_60 : decode cX0_isBreach 60 = .ok (.iconst 0, 1) := by decide +kernel
theorem dX0_isBreach_61 : decode cX0_isBreach 61 = .ok (.ireturn, 1) := by decide +kernel
theorem dX0_passOne_0 : decode cX0_passOne 0 = .ok (.iconst 0, 1) := by decide +kernel
theorem dX0_passOne_1 : decode cX0_passOne 1 = .ok (.istore_n 2, 1) := by decide +kernel
theorem dX0_passOne_2 : decode cX0_passOne 2 = .ok (.iload_n 2, 1) := by decide +kernel
theorem dX0_passOne_3 : decode cX0_passOne 3 = .ok (.aload_n 1, 1) := by decide +kernel
theorem dX0_passOne_4 : decode cX0_passOne 4 = .ok (.getfield 80, 3) := by decide +kernel
theorem dX0_passOne_7 : decode cX0_passOne 7 = .ok (.if_icmp .ge 49, 3) := by decide +kernel
theorem dX0_passOne_10 : decode cX0_passOne 10 = .ok (.iconst 0, 1) := by decide +kernel
theorem dX0_passOne_11 : decode cX0_passOne 11 = .ok (.istore_n 3, 1) := by decide +kernel
theorem dX0_passOne_12 : decode cX0_passOne 12 = .ok (.iload_n 3, 1) := by decide +kernel
theorem dX0_passOne_13 : decode cX0_passOne 13 = .ok (.aload_n 1, 1) := by decide +kernel
theorem dX0_passOne_14 : decode cX0_passOne 14 = .ok (.getfield 83, 3) := by decide +kernel
theorem dX0_passOne_17 : decode cX0_passOne 17 = .ok (.if_icmp .ge 33, 3) := by decide +kernel
theorem dX0_passOne_20 : decode cX0_passOne 20 = .ok (.aload_n 0, 1) := by decide +kernel
theorem dX0_passOne_21 : decode cX0_passOne 21 = .ok (.aload_n 1, 1) := by decide +kernel
theorem dX0_passOne_22 : decode cX0_passOne 22 = .ok (.iload_n 2, 1) := by decide +kernel
theorem dX0_passOne_23 : decode cX0_passOne 23 = .ok (.iload_n 3, 1) := by decide +kernel
theorem dX0_passOne_24 : decode cX0_passOne 24 = .ok (.invokevirtual 86, 3) := by decide +kernel
theorem dX0_passOne_27 : decode cX0_passOne 27 = .ok (.aload_n 0, 1) := by decide +kernel
theorem dX0_passOne_28 : decode cX0_passOne 28 = .ok (.aload_n 1, 1) := by decide +kernel
theorem dX0_passOne_29 : decode cX0_passOne 29 = .ok (.iload_n 2, 1) := by decide +kernel
theorem dX0_passOne_30 : decode cX0_passOne 30 = .ok (.iload_n 3, 1) := by decide +kernel
theorem dX0_passOne_31 : decode cX0_passOne 31 = .ok (.invokevirtual 90, 3) := by decide +kernel
theorem dX0_passOne_34 : decode cX0_passOne 34 = .ok (.ifCond .eq 10, 3) := by decide +kernel
theorem dX0_passOne_37 : decode cX0_passOne 37 = .ok (.aload_n 0, 1) := by decide +kernel
theorem dX0_passOne_38 : decode cX0_passOne 38 = .ok (.aload_n 1, 1) := by decide +kernel
theorem dX0_passOne_39 : decode cX0_passOne 39 = .ok (.iload_n 2, 1) := by decide +kernel
theorem dX0_passOne_40 : decode cX0_passOne 40 = .ok (.iload_n 3, 1) := by decide +kernel
theorem dX0_passOne_41 : decode cX0_passOne 41 = .ok (.invokevirtual 94, 3) := by decide +kernel
theorem dX0_passOne_44 : decode cX0_passOne 44 = .ok (.iinc 3 1, 3) := by decide +kernel
theorem dX0_passOne_47 : decode cX0_passOne 47 = .ok (.goto (-35), 3) := by decide +kernel
theorem dX0_passOne_50 : decode cX0_passOne 50 = .ok (.iinc 2 1, 3) := by decide +kernel
theorem dX0_passOne_53 : decode cX0_passOne 53 = .ok (.goto (-51), 3) := by decide +kernel
theorem dX0_passOne_56 : decode cX0_passOne 56 = .ok (.iconst 0, 1) := by decide +kernel
theorem dX0_passOne_57 : decode cX0_passOne 57 = .ok (.istore_n 2, 1) := by decide +kernel
theorem dX0_passOne_58 : decode cX0_passOne 58 = .ok (.iload_n 2, 1) := by decide +kernel
theorem dX0_passOne_59 : decode cX0_passOne 59 = .ok (.iconst 2, 1) := by decide +kernel
theorem dX0_passOne_60 : decode cX0_passOne 60 = .ok (.if_icmp .ge 27, 3) := by decide +kernel
theorem dX0_passOne_63 : decode cX0_passOne 63 = .ok (.aload_n 0, 1) := by decide +kernel
theorem dX0_passOne_64 : decode cX0_passOne 64 = .ok (.getfield 9, 3) := by decide +kernel
theorem dX0_passOne_67 : decode cX0_passOne 67 = .ok (.iload_n 2, 1) := by decide +kernel
theorem dX0_passOne_68 : decode cX0_passOne 68 = .ok (.dup2, 1) := by decide +kernel
theorem dX0_passOne_69 : decode cX0_passOne 69 = .ok (.iaload, 1) := by decide +kernel
theorem dX0_passOne_70 : decode cX0_passOne 70 = .ok (.aload_n 1, 1) := by decide +kernel
theorem dX0_passOne_71 : decode cX0_passOne 71 = .ok (.getfield 97, 3) := by decide +kernel
theorem dX0_passOne_74 : decode cX0_passOne 74 = .ok (.aload_n 1, 1) := by decide +kernel
theorem dX0_passOne_75 : decode cX0_passOne 75 = .ok (.getfield 80, 3) := by decide +kernel
theorem dX0_passOne_78 : decode cX0_passOne 78 = .ok (.imul, 1) := by decide +kernel
theorem dX0_passOne_79 : decode cX0_passOne 79 = .ok (.isub, 1) := by decide +kernel
theorem dX0_passOne_80 : decode cX0_passOne 80 = .ok (.iastore, 1) := by decide +kernel
theorem dX0_passOne_81 : decode cX0_passOne 81 = .ok (.iinc 2 1, 3) := by decide +kernel
theorem dX0_passOne_84 : decode cX0_passOne 84 = .ok (.goto (-26), 3) := by decide +kernel
theorem dX0_passOne_87 : decode cX0_passOne 87 = .ok (.aload_n 0, 1) := by decide +kernel
theorem dX0_passOne_88 : decode cX0_passOne 88 = .ok (.getfield 21, 3) := by decide +kernel
theorem dX0_passOne_91 : decode cX0_passOne 91 = .ok (.iconst (-1), 1) := by decide +kernel
theorem dX0_passOne_92 : decode cX0_passOne 92 = .ok (.invokestatic 34, 3) := by decide +kernel
theorem dX0_passOne_95 : decode cX0_passOne 95 = .ok (.aload_n 0, 1) := by decide +kernel
theorem dX0_passOne_96 : decode cX0_passOne 96 = .ok (.dup, 1) := by decide +kernel
theorem dX0_passOne_97 : decode cX0_passOne 97 = .ok (.getfield 27, 3) := by decide +kernel
theorem dX0_passOne_100 : decode cX0_passOne 100 = .ok (.iconst 1, 1) := by decide +kernel
theorem dX0_passOne_101 : decode cX0_passOne 101 = .ok (.iadd, 1) := by decide +kernel
theorem dX0_passOne_102 : decode cX0_passOne 102 = .ok (.putfield 27, 3) := by decide +kernel
theorem dX0_passOne_105 : decode cX0_passOne 105 = .ok (.return_, 1) := by decide +kernel
theorem dX0_makeBread_0 : decode cX0_makeBread 0 = .ok (.iconst 0, 1) := by decide +kernel
theorem dX0_makeBread_1 : decode cX0_makeBread 1 = .ok (.istore 4, 2) := by decide +kernel
theorem dX0_makeBread_3 : decode cX0_makeBread 3 = .ok (.iload 4, 2) := by decide +kernel
theorem dX0_makeBread_5 : decode cX0_makeBread 5 = .ok (.iconst 2, 1) := by decide +kernel
theorem dX0_makeBread_6 : decode cX0_makeBread 6 = .ok (.if_icmp .ge 35, 3) := by decide +kernel
theorem dX0_makeBread_9 : decode cX0_makeBread 9 = .ok (.aload_n 0, 1) := by decide +kernel
theorem dX0_makeBread_10 : decode cX0_makeBread 10 = .ok (.getfield 9, 3) := by decide +kernel
theorem dX0_makeBread_13 : decode cX0_makeBread 13 = .ok (.iload 4, 2) := by decide +kernel
theorem dX0_makeBread_15 : decode cX0_makeBread 15 = .ok (.dup2, 1) := by decide +kernel
theorem dX0_makeBread_16 : decode cX0_makeBread 16 = .ok (.iaload, 1) := by decide +kernel
theorem dX0_makeBread_17 : decode cX0_makeBread 17 = .ok (.aload_n 1, 1) := by decide +kernel
theorem dX0_makeBread_18 : decode cX0_makeBread 18 = .ok (.iload 4, 2) := by decide +kernel
theorem dX0_makeBread_20 : decode cX0_makeBread 20 = .ok (.iload_n 2, 1) := by decide +kernel
theorem dX0_makeBread_21 : decode cX0_makeBread 21 = .ok (.aload_n 0, 1) := by decide +kernel
theorem dX0_makeBread_22 : decode cX0_makeBread 22 = .ok (.aload_n 1, 1) := by decide +kernel
theorem dX0_makeBread_23 : decode cX0_makeBread 23 = .ok (.iload 4, 2) := by decide +kernel
theorem dX0_makeBread_25 : decode cX0_makeBread 25 = .ok (.iload_n 2, 1) := by decide +kernel
theorem dX0_makeBread_26 : decode cX0_makeBread 26 = .ok (.iload_n 3, 1) := by decide +kernel
theorem dX0_makeBread_27 : decode cX0_makeBread 27 = .ok (.invokevirtual 73, 3) := by decide +kernel
theorem dX0_makeBread_30 : decode cX0_makeBread 30 = .ok (.invokevirtual 100, 3) := by decide +kernel
theorem dX0_makeBread_33 : decode cX0_makeBread 33 = .ok (.iadd, 1) := by decide +kernel
theorem dX0_makeBread_34 : decode cX0_makeBread 34 = .ok (.iastore, 1) := by decide +kernel
theorem dX0_makeBread_35 : decode cX0_makeBread 35 = .ok (.iinc 4 1, 3) := by decide +kernel
theorem dX0_makeBread_38 : decode cX0_makeBread 38 = .ok (.goto (-35), 3) := by decide +kernel
theorem dX0_makeBread_41 : decode cX0_makeBread 41 = .ok (.return_, 1) := by decide +kernel
theorem dX0_blame_0 : decode cX0_blame 0 = .ok (.aload_n 0, 1) := by decide +kernel
theorem dX0_blame_1 : decode cX0_blame 1 = .ok (.aload_n 1, 1) := by decide +kernel
theorem dX0_blame_2 : decode cX0_blame 2 = .ok (.iconst 0, 1) := by decide +kernel
theorem dX0_blame_3 : decode cX0_blame 3 = .ok (.iload_n 2, 1) := by decide +kernel
theorem dX0_blame_4 : decode cX0_blame 4 = .ok (.iload_n 3, 1) := by decide +kernel
theorem dX0_blame_5 : decode cX0_blame 5 = .ok (.invokevirtual 103, 3) := by decide +kernel
theorem dX0_blame_8 : decode cX0_blame 8 = .ok (.istore 4, 2) := by decide +kernel
theorem dX0_blame_10 : decode cX0_blame 10 = .ok (.aload_n 0, 1) := by decide +kernel
theorem dX0_blame_11 : decode cX0_blame 11 = .ok (.aload_n 1, 1) := by decide +kernel
theorem dX0_blame_12 : decode cX0_blame 12 = .ok (.iconst 1, 1) := by decide +kernel
theorem dX0_blame_13 : decode cX0_blame 13 = .ok (.iload_n 2, 1) := by decide +kernel
theorem dX0_blame_14 : decode cX0_blame 14 = .ok (.iload_n 3, 1) := by decide +kernel
theorem dX0_blame_15 : decode cX0_blame 15 = .ok (.invokevirtual 103, 3) := by decide +kernel
theorem dX0_blame_18 : decode cX0_blame 18 = .ok (.istore 5, 2) := by decide +kernel
theorem dX0_blame_20 : decode cX0_blame 20 = .ok (.iload 4, 2) := by decide +kernel
theorem dX0_blame_22 : decode cX0_blame 22 = .ok (.ifCond .ne 8, 3) := by decide +kernel
theorem dX0_blame_25 : decode cX0_blame 25 = .ok (.iload 5, 2) := by decide +kernel
theorem dX0_blame_27 : decode cX0_blame 27 = .ok (.ifCond .ne 13, 3) := by decide +kernel
theorem dX0_blame_30 : decode cX0_blame 30 = .ok (.aload_n 0, 1) := by decide +kernel
theorem dX0_blame_31 : decode cX0_blame 31 = .ok (.iconst 0, 1) := by decide +kernel
theorem dX0_blame_32 : decode cX0_blame 32 = .ok (.iload_n 2, 1) := by decide +kernel
theorem dX0_blame_33 : decode cX0_blame 33 = .ok (.aload_n 1, 1) := by decide +kernel
theorem dX0_blame_34 : decode cX0_blame 34 = .ok (.getfield 107, 3) := by decide +kernel
theorem dX0_blame_37 : decode cX0_blame 37 = .ok (.invokevirtual 110, 3) := by decide +kernel
theorem dX0_blame_40 : decode cX0_blame 40 = .ok (.iload 5, 2) := by decide +kernel
theorem dX0_blame_42 : decode cX0_blame 42 = .ok (.ifCond .ne 8, 3) := by decide +kernel
theorem dX0_blame_45 : decode cX0_blame 45 = .ok (.iload 4, 2) := by decide +kernel
theorem dX0_blame_47 : decode cX0_blame 47 = .ok (.ifCond .ne 13, 3) := by decide +kernel
theorem dX0_blame_50 : decode cX0_blame 50 = .ok (.aload_n 0, 1) := by decide +kernel
theorem dX0_blame_51 : decode cX0_blame 51 = .ok (.iconst 1, 1) := by decide +kernel
theorem dX0_blame_52 : decode cX0_blame 52 = .ok (.iload_n 2, 1) := by decide +kernel
theorem dX0_blame_53 : decode cX0_blame 53 = .ok (.aload_n 1, 1) := by decide +kernel
theorem dX0_blame_54 : decode cX0_blame 54 = .ok (.getfield 107, 3) := by decide +kernel
theorem dX0_blame_57 : decode cX0_blame 57 = .ok (.invokevirtual 110, 3) := by decide +kernel
theorem dX0_blame_60 : decode cX0_blame 60 = .ok (.return_, 1) := by decide +kernel
theorem dX0_addFault_0 : decode cX0_addFault 0 = .ok (.iload_n 1, 1) := by decide +kernel
theorem dX0_addFault_1 : decode cX0_addFault 1 = .ok (.iload_n 2, 1) := by decide +kernel
theorem dX0_addFault_2 : decode cX0_addFault 2 = .ok (.invokestatic 48, 3) := by decide +kernel
theorem dX0_addFault_5 : decode cX0_addFault 5 = .ok (.istore 4, 2) := by decide +kernel
theorem dX0_addFault_7 : decode cX0_addFault 7 = .ok (.iload 4, 2) := by decide +kernel
theorem dX0_addFault_9 : decode cX0_addFault 9 = .ok (.iconst 0, 1) := by decide +kernel
theorem dX0_addFault_10 : decode cX0_addFault 10 = .ok (.bipush 11, 2) := by decide +kernel
theorem dX0_addFault_12 : decode cX0_addFault 12 = .ok (.invokestatic 44, 3) := by decide +kernel
theorem dX0_addFault_15 : decode cX0_addFault 15 = .ok (.ifCond .ne 4, 3) := by decide +kernel
theorem dX0_addFault_18 : decode cX0_addFault 18 = .ok (.return_, 1) := by decide +kernel
theorem dX0_addFault_19 : decode cX0_addFault 19 = .ok (.aload_n 0, 1) := by decide +kernel
theorem dX0_addFault_20 : decode cX0_addFault 20 = .ok (.getfield 15, 3) := by decide +kernel
theorem dX0_addFault_23 : decode cX0_addFault 23 = .ok (.iload 4, 2) := by decide +kernel
theorem dX0_addFault_25 : decode cX0_addFault 25 = .ok (.dup2, 1) := by decide +kernel
theorem dX0_addFault_26 : decode cX0_addFault 26 = .ok (.iaload, 1) := by decide +kernel
theorem dX0_addFault_27 : decode cX0_addFault 27 = .ok (.iconst 1, 1) := by decide +kernel
theorem dX0_addFault_28 : decode cX0_addFault 28 = .ok (.iadd, 1) := by decide +kernel
theorem dX0_addFault_29 : decode cX0_addFault 29 = .ok (.iastore, 1) := by decide +kernel
theorem dX0_addFault_30 : decode cX0_addFault 30 = .ok (.aload_n 0, 1) := by decide +kernel
theorem dX0_addFault_31 : decode cX0_addFault 31 = .ok (.getfield 18, 3) := by decide +kernel
theorem dX0_addFault_34 : decode cX0_addFault 34 = .ok (.iload 4, 2) := by decide +kernel
theorem dX0_addFault_36 : decode cX0_addFault 36 = .ok (.dup2, 1) := by decide +kernel
theorem dX0_addFault_37 : decode cX0_addFault 37 = .ok (.iaload, 1) := by decide +kernel
theorem dX0_addFault_38 : decode cX0_addFault 38 = .ok (.iload_n 3, 1) := by decide +kernel
theorem dX0_addFault_39 : decode cX0_addFault 39 = .ok (.iadd, 1) := by decide +kernel
theorem dX0_addFault_40 : decode cX0_addFault 40 = .ok (.iastore, 1) := by decide +kernel
theorem dX0_addFault_41 : decode cX0_addFault 41 = .ok (.return_, 1) := by decide +kernel
theorem dX1_init_0 : decode cX1_init 0 = .ok (.aload_n 0, 1) := by decide +kernel
theorem dX1_init_1 : decode cX1_init 1 = .ok (.invokespecial 3, 3) := by decide +kernel
theorem dX1_init_4 : decode cX1_init 4 = .ok (.aload_n 0, 1) := by decide +kernel
theorem dX1_init_5 : decode cX1_init 5 = .ok (.new 9, 3) := by decide +kernel
theorem dX1_init_8 : decode cX1_init 8 = .ok (.dup, 1) := by decide +kernel
theorem dX1_init_9 : decode cX1_init 9 = .ok (.aload_n 1, 1) := by decide +kernel
theorem dX1_init_10 : decode cX1_init 10 = .ok (.invokespecial 11, 3) := by decide +kernel
theorem dX1_init_13 : decode cX1_init 13 = .ok (.putfield 14, 3) := by decide +kernel
theorem dX1_init_16 : decode cX1_init 16 = .ok (.return_, 1) := by decide +kernel
theorem dX1_readInto_0 : decode cX1_readInto 0 = .ok (.aload_n 0, 1) := by decide +kernel
theorem dX1_readInto_1 : decode cX1_readInto 1 = .ok (.iconst (-1), 1) := by decide +kernel
theorem dX1_readInto_2 : decode cX1_readInto 2 = .ok (.putfield 20, 3) := by decide +kernel
theorem dX1_readInto_5 : decode cX1_readInto 5 = .ok (.aload_n 0, 1) := by decide +kernel
theorem dX1_readInto_6 : decode cX1_readInto 6 = .ok (.getfield 14, 3) := by decide +kernel
theorem dX1_readInto_9 : decode cX1_readInto 9 = .ok (.invokevirtual 24, 3) := by decide +kernel
theorem dX1_readInto_12 : decode cX1_readInto 12 = .ok (.iconst 1, 1) := by decide +kernel
theorem dX1_readInto_13 : decode cX1_readInto 13 = .ok (.istore_n 2, 1) := by decide +kernel
theorem dX1_readInto_14 : decode cX1_readInto 14 = .ok (.iload_n 2, 1) := by decide +kernel
theorem dX1_readInto_15 : decode cX1_readInto 15 = .ok (.bipush 10, 2) := by decide +kernel
theorem dX1_readInto_17 : decode cX1_readInto 17 = .ok (.if_icmp .gt 75, 3) := by decide +kernel
theorem dX1_readInto_20 : decode cX1_readInto 20 = .ok (.aload_n 0, 1) := by decide +kernel
theorem dX1_readInto_21 : decode cX1_readInto 21 = .ok (.aload_n 1, 1) := by decide +kernel
theorem dX1_readInto_22 : decode cX1_readInto 22 = .ok (.invokevirtual 27, 3) := by decide +kernel
theorem dX1_readInto_25 : decode cX1_readInto 25 = .ok (.aload_n 0, 1) := by decide +kernel
theorem dX1_readInto_26 : decode cX1_readInto 26 = .ok (.iload_n 2, 1) := by decide +kernel
theorem dX1_readInto_27 : decode cX1_readInto 27 = .ok (.putfield 31, 3) := by decide +kernel
theorem dX1_readInto_30 : decode cX1_readInto 30 = .ok (.aload_n 0, 1) := by decide +kernel
theorem dX1_readInto_31 : decode cX1_readInto 31 = .ok (.getfield 20, 3) := by decide +kernel
theorem dX1_readInto_34 : decode cX1_readInto 34 = .ok (.iconst (-1), 1) := by decide +kernel
theorem dX1_readInto_35 : decode cX1_readInto 35 = .ok (.if_icmp .ne 13, 3) := by decide +kernel
theorem dX1_readInto_38 : decode cX1_readInto 38 = .ok (.aload_n 0, 1) := by decide +kernel
theorem dX1_readInto_39 : decode cX1_readInto 39 = .ok (.getfield 14, 3) := by decide +kernel
theorem dX1_readInto_42 : decode cX1_readInto 42 = .ok (.invokevirtual 34, 3) := by decide +kernel
theorem dX1_readInto_45 : decode cX1_readInto 45 = .ok (.ifCond .eq 8, 3) := by decide +kernel
theorem dX1_readInto_48 : decode cX1_readInto 48 = .ok (.aload_n 0, 1) := by decide +kernel
theorem dX1_readInto_49 : decode cX1_readInto 49 = .ok (.getfield 20, 3) := by decide +kernel
theorem dX1_readInto_52 : decode cX1_readInto 52 = .ok (.ireturn, 1) := by decide +kernel
theorem dX1_readInto_53 : decode cX1_readInto 53 = .ok (.iload_n 2, 1) := by decide +kernel
theorem dX1_readInto_54 : decode cX1_readInto 54 = .ok (.bipush 10, 2) := by decide +kernel
theorem dX1_readInto_56 : decode cX1_readInto 56 = .ok (.if_icmp .eq 15, 3) := by decide +kernel
theorem dX1_readInto_59 : decode cX1_readInto 59 = .ok (.aload_n 0, 1) := by decide +kernel
theorem dX1_readInto_60 : decode cX1_readInto 60 = .ok (.getfield 14, 3) := by decide +kernel
theorem dX1_readInto_63 : decode cX1_readInto 63 = .ok (.bipush 59, 2) := by decide +kernel
theorem dX1_readInto_65 : decode cX1_readInto 65 = .ok (.invokevirtual 38, 3) := by decide +kernel
theorem dX1_readInto_68 : decode cX1_readInto 68 = .ok (.ifCond .ne 11, 3) := by decide +kernel
theorem dX1_readInto_71 : decode cX1_readInto 71 = .ok (.aload_n 0, 1) := by decide +kernel
theorem dX1_readInto_72 : decode cX1_readInto 72 = .ok (.getfield 14, 3) := by decide +kernel
theorem dX1_readInto_75 : decode cX1_readInto 75 = .ok (.getfield 42, 3) := by decide +kernel
theorem dX1_readInto_78 : decode cX1_readInto 78 = .ok (.ireturn, 1) := by decide +kernel
theorem dX1_readInto_79 : decode cX1_readInto 79 = .ok (.aload_n 0, 1) := by decide +kernel
theorem dX1_readInto_80 : decode cX1_readInto 80 = .ok (.getfield 14, 3) := by decide +kernel
theorem dX1_readInto_83 : decode cX1_readInto 83 = .ok (.invokevirtual 45, 3) := by decide +kernel
theorem dX1_readInto_86 : decode cX1_readInto 86 = .ok (.iinc 2 1, 3) := by decide +kernel
theorem dX1_readInto_89 : decode cX1_readInto 89 = .ok (.goto (-75), 3) := by decide +kernel
theorem dX1_readInto_92 : decode cX1_readInto 92 = .ok (.aload_n 0, 1) := by decide +kernel
theorem dX1_readInto_93 : decode cX1_readInto 93 = .ok (.getfield 20, 3) := by decide +kernel
theorem dX1_readInto_96 : decode cX1_readInto 96 = .ok (.ireturn, 1) := by decide +kernel
theorem dX1_readLine_0 : decode cX1_readLine 0 = .ok (.aload_n 0, 1) := by decide +kernel
theorem dX1_readLine_1 : decode cX1_readLine 1 = .ok (.getfield 14, 3) := by decide +kernel
theorem dX1_readLine_4 : decode cX1_readLine 4 = .ok (.ldc 48, 2) := by decide +kernel
theorem dX1_readLine_6 : decode cX1_readLine 6 = .ok (.invokevirtual 50, 3) := by decide +kernel
theorem dX1_readLine_9 : decode cX1_readLine 9 = .ok (.ifCond .eq 11, 3) := by decide +kernel
theorem dX1_readLine_12 : decode cX1_readLine 12 = .ok (.aload_n 0, 1) := by decide +kernel
theorem dX1_readLine_13 : decode cX1_readLine 13 = .ok (.aload_n 1, 1) := by decide +kernel
theorem dX1_readLine_14 : decode cX1_readLine 14 = .ok (.invokevirtual 54, 3) := by decide +kernel
theorem dX1_readLine_17 : decode cX1_readLine 17 = .ok (.goto 114, 3) := by decide +kernel
theorem dX1_readLine_20 : decode cX1_readLine 20 = .ok (.aload_n 0, 1) := by decide +kernel
theorem dX1_readLine_21 : decode cX1_readLine 21 = .ok (.getfield 14, 3) := by decide +kernel
theorem dX1_readLine_24 : decode cX1_readLine 24 = .ok (.ldc 57, 2) := by decide +kernel
theorem dX1_readLine_26 : decode cX1_readLine 26 = .ok (.invokevirtual 50, 3) := by decide +kernel
theorem dX1_readLine_29 : decode cX1_readLine 29 = .ok (.ifCond .eq 11, 3) := by decide +kernel
theorem dX1_readLine_32 : decode cX1_readLine 32 = .ok (.aload_n 0, 1) := by decide +kernel
theorem dX1_readLine_33 : decode cX1_readLine 33 = .ok (.aload_n 1, 1) := by decide +kernel
theorem dX1_readLine_34 : decode cX1_readLine 34 = .ok (.invokevirtual 59, 3) := by decide +kernel
theorem dX1_readLine_37 : decode cX1_readLine 37 = .ok (.goto 94, 3) := by decide +kernel
theorem dX1_readLine_40 : decode cX1_readLine 40 = .ok (.aload_n 0, 1) := by decide +kernel
theorem dX1_readLine_41 : decode cX1_readLine 41 = .ok (.getfield 14, 3) := by decide +kernel
theorem dX1_readLine_44 : decode cX1_readLine 44 = .ok (.ldc 62, 2) := by decide +kernel
theorem dX1_readLine_46 : decode cX1_readLine 46 = .ok (.invokevirtual 50, 3) := by decide +kernel
theorem dX1_readLine_49 : decode cX1_readLine 49 = .ok (.ifCond .eq 11, 3) := by decide +kernel
theorem dX1_readLine_52 : decode cX1_readLine 52 = .ok (.aload_n 0, 1) := by decide +kernel
theorem dX1_readLine_53 : decode cX1_readLine 53 = .ok (.aload_n 1, 1) := by decide +kernel
theorem dX1_readLine_54 : decode cX1_readLine 54 = .ok (.invokevirtual 64, 3) := by decide +kernel
theorem dX1_readLine_57 : decode cX1_readLine 57 = .ok (.goto 74, 3) := by decide +kernel
theorem dX1_readLine_60 : decode cX1_readLine 60 = .ok (.aload_n 0, 1) := by decide +kernel
theorem dX1_readLine_61 : decode cX1_readLine 61 = .ok (.getfield 14, 3) := by decide +kernel
theorem dX1_readLine_64 : decode cX1_readLine 64 = .ok (.ldc 67, 2) := by decide +kernel
theorem dX1_readLine_66 : decode cX1_readLine 66 = .ok (.invokevirtual 50, 3) := by decide +kernel
theorem dX1_readLine_69 : decode cX1_readLine 69 = .ok (.ifCond .eq 11, 3) := by decide +kernel
theorem dX1_readLine_72 : decode cX1_readLine 72 = .ok (.aload_n 0, 1) := by decide +kernel
theorem dX1_readLine_73 : decode cX1_readLine 73 = .ok (.aload_n 1, 1) := by decide +kernel
theorem dX1_readLine_74 : decode cX1_readLine 74 = .ok (.invokevirtual 69, 3) := by decide +kernel
theorem dX1_readLine_77 : decode cX1_readLine 77 = .ok (.goto 54, 3) := by decide +kernel
theorem dX1_readLine_80 : decode cX1_readLine 80 = .ok (.aload_n 0, 1) := by decide +kernel
theorem dX1_readLine_81 : decode cX1_readLine 81 = .ok (.getfield 14, 3) := by decide +kernel
theorem dX1_readLine_84 : decode cX1_readLine 84 = .ok (.ldc 72, 2) := by decide +kernel
theorem dX1_readLine_86 : decode cX1_readLine 86 = .ok (.invokevirtual 50, 3) := by decide +kernel
theorem dX1_readLine_89 : decode cX1_readLine 89 = .ok (.ifCond .eq 11, 3) := by decide +kernel
theorem dX1_readLine_92 : decode cX1_readLine 92 = .ok (.aload_n 0, 1) := by decide +kernel
theorem dX1_readLine_93 : decode cX1_readLine 93 = .ok (.aload_n 1, 1) := by decide +kernel
theorem dX1_readLine_94 : decode cX1_readLine 94 = .ok (.invokevirtual 74, 3) := by decide +kernel
theorem dX1_readLine_97 : decode cX1_readLine 97 = .ok (.goto 34, 3) := by decide +kernel
theorem dX1_readLine_100 : decode cX1_readLine 100 = .ok (.aload_n 0, 1) := by decide +kernel
theorem dX1_readLine_101 : decode cX1_readLine 101 = .ok (.getfield 14, 3) := by decide +kernel
theorem dX1_readLine_104 : decode cX1_readLine 104 = .ok (.ldc 77, 2) := by decide +kernel
theorem dX1_readLine_106 : decode cX1_readLine 106 = .ok (.invokevirtual 50, 3) := by decide +kernel
theorem dX1_readLine_109 : decode cX1_readLine 109 = .ok (.ifCond .eq 11, 3) := by decide +kernel
theorem dX1_readLine_112 : decode cX1_readLine 112 = .ok (.aload_n 0, 1) := by decide +kernel
theorem dX1_readLine_113 : decode cX1_readLine 113 = .ok (.aload_n 1, 1) := by decide +kernel
theorem dX1_readLine_114 : decode cX1_readLine 114 = .ok (.invokevirtual 79, 3) := by decide +kernel
theorem dX1_readLine_117 : decode cX1_readLine 117 = .ok (.goto 14, 3) := by decide +kernel
theorem dX1_readLine_120 : decode cX1_readLine 120 = .ok (.aload_n 0, 1) := by decide +kernel
theorem dX1_readLine_121 : decode cX1_readLine 121 = .ok (.aload_n 0, 1) := by decide +kernel
theorem dX1_readLine_122 : decode cX1_readLine 122 = .ok (.getfield 14, 3) := by decide +kernel
theorem dX1_readLine_125 : decode cX1_readLine 125 = .ok (.getfield 42, 3) := by decide +kernel
theorem dX1_readLine_128 : decode cX1_readLine 128 = .ok (.putfield 20, 3) := by decide +kernel
theorem dX1_readLine_131 : decode cX1_readLine 131 = .ok (.return_, 1) := by decide +kernel
theorem dX1_readTreaty_0 : decode cX1_readTreaty 0 = .ok (.aload_n 0, 1) := by decide +kernel
theorem dX1_readTreaty_1 : decode cX1_readTreaty 1 = .ok (.getfield 14, 3) := by decide +kernel
theorem dX1_readTreaty_4 : decode cX1_readTreaty 4 = .ok (.invokevirtual 45, 3) := by decide +kernel
theorem dX1_readTreaty_7 : decode cX1_readTreaty 7 = .ok (.aload_n 0, 1) := by decide +kernel
theorem dX1_readTreaty_8 : decode cX1_readTreaty 8 = .ok (.iconst 1, 1) := by decide +kernel
theorem dX1_readTreaty_9 : decode cX1_readTreaty 9 = .ok (.bipush 6, 2) := by decide +kernel
theorem dX1_readTreaty_11 : decode cX1_readTreaty 11 = .ok (.invokevirtual 82, 3) := by decide +kernel
theorem dX1_readTreaty_14 : decode cX1_readTreaty 14 = .ok (.istore_n 2, 1) := by decide +kernel
theorem dX1_readTreaty_15 : decode cX1_readTreaty 15 = .ok (.aload_n 0, 1) := by decide +kernel
theorem dX1_readTreaty_16 : decode cX1_readTreaty 16 = .ok (.iconst 1, 1) := by decide +kernel
theorem dX1_readTreaty_17 : decode cX1_readTreaty 17 = .ok (.iconst 4, 1) := by decide +kernel
theorem dX1_readTreaty_18 : decode cX1_readTreaty 18 = .ok (.invokevirtual 82, 3) := by decide +kernel
theorem dX1_readTreaty_21 : decode cX1_readTreaty 21 = .ok (.istore_n 3, 1) := by decide +kernel
theorem dX1_readTreaty_22 : decode cX1_readTreaty 22 = .ok (.aload_n 0, 1) := by decide +kernel
theorem dX1_readTreaty_23 : decode cX1_readTreaty 23 = .ok (.getfield 20, 3) := by decide +kernel
theorem dX1_readTreaty_26 : decode cX1_readTreaty 26 = .ok (.iconst (-1), 1) := by decide +kernel
theorem dX1_readTreaty_27 : decode cX1_readTreaty 27 = .ok (.if_icmp .ne 9, 3) := by decide +kernel
theorem dX1_readTreaty_30 : decode cX1_readTreaty 30 = .ok (.aload_n 1, 1) := by decide +kernel
theorem dX1_readTreaty_31 : decode cX1_readTreaty 31 = .ok (.iload_n 2, 1) := by decide +kernel
theorem dX1_readTreaty_32 : decode cX1_readTreaty 32 = .ok (.iload_n 3, 1) := by decide +kernel
theorem dX1_readTreaty_33 : decode cX1_readTreaty 33 = .ok (.invokevirtual 86, 3) := by decide +kernel
theorem dX1_readTreaty_36 : decode cX1_readTreaty 36 = .ok (.return_, 1) := by decide +kernel
theorem dX1_readWork_0 : decode cX1_readWork 0 = .ok (.aload_n 0, 1) := by decide +kernel
theorem dX1_readWork_1 : decode cX1_readWork 1 = .ok (.getfield 14, 3) := by decide +kernel
theorem dX1_readWork_4 : decode cX1_readWork 4 = .ok (.invokevirtual 45, 3) := by decide +kernel
theorem dX1_readWork_7 : decode cX1_readWork 7 = .ok (.aload_n 0, 1) := by decide +kernel
theorem dX1_readWork_8 : decode cX1_readWork 8 = .ok (.iconst 0, 1) := by decide +kernel
theorem dX1_readWork_9 : decode cX1_readWork 9 = .ok (.iconst 4, 1) := by decide +kernel
theorem dX1_readWork_10 : decode cX1_readWork 10 = .ok (.invokevirtual 82, 3) := by decide +kernel
theorem dX1_readWork_13 : decode cX1_readWork 13 = .ok (.istore_n 2, 1) := by decide +kernel
theorem dX1_readWork_14 : decode cX1_readWork 14 = .ok (.aload_n 0, 1) := by decide +kernel
theorem dX1_readWork_15 : decode cX1_readWork 15 = .ok (.iconst 0, 1) := by decide +kernel
theorem dX1_readWork_16 : decode cX1_readWork 16 = .ok (.iconst 3, 1) := by decide +kernel
theorem dX1_readWork_17 : decode cX1_readWork 17 = .ok (.invokevirtual 82, 3) := by decide +kernel
theorem dX1_readWork_20 : decode cX1_readWork 20 = .ok (.istore_n 3, 1) := by decide +kernel
theorem dX1_readWork_21 : decode cX1_readWork 21 = .ok (.aload_n 0, 1) := by decide +kernel
theorem dX1_readWork_22 : decode cX1_readWork 22 = .ok (.iconst (-1), 1) := by decide +kernel
theorem dX1_readWork_23 : decode cX1_readWork 23 = .ok (.bipush 20, 2) := by decide +kernel
theorem dX1_readWork_25 : decode cX1_readWork 25 = .ok (.invokevirtual 82, 3) := by decide +kernel
theorem dX1_readWork_28 : decode cX1_readWork 28 = .ok (.istore 4, 2) := by decide +kernel
theorem dX1_readWork_30 : decode cX1_readWork 30 = .ok (.aload_n 0, 1) := by decide +kernel
theorem dX1_readWork_31 : decode cX1_readWork 31 = .ok (.iconst (-1), 1) := by decide +kernel
theorem dX1_readWork_32 : decode cX1_readWork 32 = .ok (.bipush 20, 2) := by decide +kernel
theorem dX1_readWork_34 : decode cX1_readWork 34 = .ok (.invokevirtual 82, 3) := by decide +kernel
theorem dX1_readWork_37 : decode cX1_readWork 37 = .ok (.istore 5, 2) := by decide +kernel
theorem dX1_readWork_39 : decode cX1_readWork 39 = .ok (.aload_n 0, 1) := by decide +kernel
theorem dX1_readWork_40 : decode cX1_readWork 40 = .ok (.iconst 0, 1) := by decide +kernel
theorem dX1_readWork_41 : decode cX1_readWork 41 = .ok (.bipush 20, 2) := by decide +kernel
theorem dX1_readWork_43 : decode cX1_readWork 43 = .ok (.invokevirtual 82, 3) := by decide +kernel
theorem dX1_readWork_46 : decode cX1_readWork 46 = .ok (.istore 6, 2) := by decide +kernel
theorem dX1_readWork_48 : decode cX1_readWork 48 = .ok (.aload_n 0, 1) := by decide +kernel
theorem dX1_readWork_49 : decode cX1_readWork 49 = .ok (.getfield 20, 3) := by decide +kernel
theorem dX1_readWork_52 : decode cX1_readWork 52 = .ok (.iconst (-1), 1) := by decide +kernel
theorem dX1_readWork_53 : decode cX1_readWork 53 = .ok (.if_icmp .eq 4, 3) := by decide +kernel
theorem dX1_readWork_56 : decode cX1_readWork 56 = .ok (.return_, 1) := by decide +kernel
theorem dX1_readWork_57 : decode cX1_readWork 57 = .ok (.aload_n 1, 1) := by decide +kernel
theorem dX1_readWork_58 : decode cX1_readWork 58 = .ok (.iload_n 2, 1) := by decide +kernel
theorem dX1_readWork_59 : decode cX1_readWork 59 = .ok (.iload_n 3, 1) := by decide +kernel
theorem dX1_readWork_60 : decode cX1_readWork 60 = .ok (.iload 6, 2) := by decide +kernel
theorem dX1_readWork_62 : decode cX1_readWork 62 = .ok (.invokevirtual 92, 3) := by decide +kernel
theorem dX1_readWork_65 : decode cX1_readWork 65 = .ok (.aload_n 1, 1) := by decide +kernel
theorem dX1_readWork_66 : decode cX1_readWork 66 = .ok (.iconst 0, 1) := by decide +kernel
theorem dX1_readWork_67 : decode cX1_readWork 67 = .ok (.iload_n 2, 1) := by decide +kernel
theorem dX1_readWork_68 : decode cX1_readWork 68 = .ok (.iload 4, 2) := by decide +kernel
theorem dX1_readWork_70 : decode cX1_readWork 70 = .ok (.invokevirtual 96, 3) := by decide +kernel
theorem dX1_readWork_73 : decode cX1_readWork 73 = .ok (.aload_n 1, 1) := by decide +kernel
theorem dX1_readWork_74 : decode cX1_readWork 74 = .ok (.iconst 1, 1) := by decide +kernel
theorem dX1_readWork_75 : decode cX1_readWork 75 = .ok (.iload_n 2, 1) := by decide +kernel
theorem dX1_readWork_76 : decode cX1_readWork 76 = .ok (.iload 5, 2) := by decide +kernel
theorem dX1_readWork_78 : decode cX1_readWork 78 = .ok (.invokevirtual 96, 3) := by decide +kernel
theorem dX1_readWork_81 : decode cX1_readWork 81 = .ok (.return_, 1) := by decide +kernel
theorem dX1_readKind_0 : decode cX1_readKind 0 = .ok (.aload_n 0, 1) := by decide +kernel
theorem dX1_readKind_1 : decode cX1_readKind 1 = .ok (.getfield 14, 3) := by decide +kernel
theorem dX1_readKind_4 : decode cX1_readKind 4 = .ok (.invokevirtual 45, 3) := by decide +kernel
theorem dX1_readKind_7 : decode cX1_readKind 7 = .ok (.aload_n 0, 1) := by decide +kernel
theorem dX1_readKind_8 : decode cX1_readKind 8 = .ok (.iconst 0, 1) := by decide +kernel
theorem dX1_readKind_9 : decode cX1_readKind 9 = .ok (.aload_n 1, 1) := by decide +kernel
theorem dX1_readKind_10 : decode cX1_readKind 10 = .ok (.getfield 99, 3) := by decide +kernel
theorem dX1_readKind_13 : decode cX1_readKind 13 = .ok (.iconst 1, 1) := by decide +kernel
theorem dX1_readKind_14 : decode cX1_readKind 14 = .ok (.isub, 1) := by decide +kernel
theorem dX1_readKind_15 : decode cX1_readKind 15 = .ok (.invokevirtual 82, 3) := by decide +kernel
theorem dX1_readKind_18 : decode cX1_readKind 18 = .ok (.istore_n 2, 1) := by decide +kernel
theorem dX1_readKind_19 : decode cX1_readKind 19 = .ok (.aload_n 0, 1) := by decide +kernel
theorem dX1_readKind_20 : decode cX1_readKind 20 = .ok (.iconst 0, 1) := by decide +kernel
theorem dX1_readKind_21 : decode cX1_readKind 21 = .ok (.iconst 3, 1) := by decide +kernel
theorem dX1_readKind_22 : decode cX1_readKind 22 = .ok (.invokevirtual 82, 3) := by decide +kernel
theorem dX1_readKind_25 : decode cX1_readKind 25 = .ok (.istore_n 3, 1) := by decide +kernel
theorem dX1_readKind_26 : decode cX1_readKind 26 = .ok (.aload_n 0, 1) := by decide +kernel
theorem dX1_readKind_27 : decode cX1_readKind 27 = .ok (.getfield 20, 3) := by decide +kernel
theorem dX1_readKind_30 : decode cX1_readKind 30 = .ok (.iconst (-1), 1) := by decide +kernel
theorem dX1_readKind_31 : decode cX1_readKind 31 = .ok (.if_icmp .ne 9, 3) := by decide +kernel
theorem dX1_readKind_34 : decode cX1_readKind 34 = .ok (.aload_n 1, 1) := by decide +kernel
theorem dX1_readKind_35 : decode cX1_readKind 35 = .ok (.iload_n 2, 1) := by decide +kernel
theorem dX1_readKind_36 : decode cX1_readKind 36 = .ok (.iload_n 3, 1) := by decide +kernel
theorem dX1_readKind_37 : decode cX1_readKind 37 = .ok (.invokevirtual 102, 3) := by decide +kernel
theorem dX1_readKind_40 : decode cX1_readKind 40 = .ok (.return_, 1) := by decide +kernel
theorem dX1_readMeant_0 : decode cX1_readMeant 0 = .ok (.aload_n 0, 1) := by decide +kernel
theorem dX1_readMeant_1 : decode cX1_readMeant 1 = .ok (.getfield 14, 3) := by decide +kernel
theorem dX1_readMeant_4 : decode cX1_readMeant 4 = .ok (.invokevirtual 45, 3) := by decide +kernel
theorem dX1_readMeant_7 : decode cX1_readMeant 7 = .ok (.aload_n 0, 1) := by decide +kernel
theorem dX1_readMeant_8 : decode cX1_readMeant 8 = .ok (.iconst 0, 1) := by decide +kernel
theorem dX1_readMeant_9 : decode cX1_readMeant 9 = .ok (.iconst 1, 1) := by decide +kernel
theorem dX1_readMeant_10 : decode cX1_readMeant 10 = .ok (.invokevirtual 82, 3) := by decide +kernel
theorem dX1_readMeant_13 : decode cX1_readMeant 13 = .ok (.istore_n 2, 1) := by decide +kernel
theorem dX1_readMeant_14 : decode cX1_readMeant 14 = .ok (.aload_n 0, 1) := by decide +kernel
theorem dX1_readMeant_15 : decode cX1_readMeant 15 = .ok (.iconst 0, 1) := by decide +kernel
theorem dX1_readMeant_16 : decode cX1_readMeant 16 = .ok (.iconst 1, 1) := by decide +kernel
theorem dX1_readMeant_17 : decode cX1_readMeant 17 = .ok (.invokevirtual 82, 3) := by decide +kernel
theorem dX1_readMeant_20 : decode cX1_readMeant 20 = .ok (.istore_n 3, 1) := by decide +kernel
theorem dX1_readMeant_21 : decode cX1_readMeant 21 = .ok (.aload_n 0, 1) := by decide +kernel
theorem dX1_readMeant_22 : decode cX1_readMeant 22 = .ok (.iconst 0, 1) := by decide +kernel
theorem dX1_readMeant_23 : decode cX1_readMeant 23 = .ok (.aload_n 1, 1) := by decide +kernel
theorem dX1_readMeant_24 : decode cX1_readMeant 24 = .ok (.getfield 99, 3) := by decide +kernel
theorem dX1_readMeant_27 : decode cX1_readMeant 27 = .ok (.iconst 1, 1) := by decide +kernel
theorem dX1_readMeant_28 : decode cX1_readMeant 28 = .ok (.isub, 1) := by decide +kernel
theorem dX1_readMeant_29 : decode cX1_readMeant 29 = .ok (.invokevirtual 82, 3) := by decide +kernel
theorem dX1_readMeant_32 : decode cX1_readMeant 32 = .ok (.istore 4, 2) := by decide +kernel
theorem dX1_readMeant_34 : decode cX1_readMeant 34 = .ok (.aload_n 0, 1) := by decide +kernel
theorem dX1_readMeant_35 : decode cX1_readMeant 35 = .ok (.iconst 0, 1) := by decide +kernel
theorem dX1_readMeant_36 : decode cX1_readMeant 36 = .ok (.aload_n 1, 1) := by decide +kernel
theorem dX1_readMeant_37 : decode cX1_readMeant 37 = .ok (.getfield 105, 3) := by decide +kernel
theorem dX1_readMeant_40 : decode cX1_readMeant 40 = .ok (.iconst 1, 1) := by decide +kernel
theorem dX1_readMeant_41 : decode cX1_readMeant 41 = .ok (.isub, 1) := by decide +kernel
theorem dX1_readMeant_42 : decode cX1_readMeant 42 = .ok (.invokevirtual 82, 3) := by decide +kernel
theorem dX1_readMeant_45 : decode cX1_readMeant 45 = .ok (.istore 5, 2) := by decide +kernel
theorem dX1_readMeant_47 : decode cX1_readMeant 47 = .ok (.aload_n 0, 1) := by decide +kernel
theorem dX1_readMeant_48 : decode cX1_readMeant 48 = .ok (.getfield 14, 3) := by decide +kernel
theorem dX1_readMeant_51 : decode cX1_readMeant 51 = .ok (.getfield 42, 3) := by decide +kernel
theorem dX1_readMeant_54 : decode cX1_readMeant 54 = .ok (.istore 6, 2) := by decide +kernel
theorem dX1_readMeant_56 : decode cX1_readMeant 56 = .ok (.aload_n 0, 1) := by decide +kernel
theorem dX1_readMeant_57 : decode cX1_readMeant 57 = .ok (.iconst 0, 1) := by decide +kernel
theorem dX1_readMeant_58 : decode cX1_readMeant 58 = .ok (.iconst 5, 1) := by decide +kernel
theorem dX1_readMeant_59 : decode cX1_readMeant 59 = .ok (.invokevirtual 82, 3) := by decide +kernel
theorem dX1_readMeant_62 : decode cX1_readMeant 62 = .ok (.istore 7, 2) := by decide +kernel
theorem dX1_readMeant_64 : decode cX1_readMeant 64 = .ok (.aload_n 0, 1) := by decide +kernel
theorem dX1_readMeant_65 : decode cX1_readMeant 65 = .ok (.getfield 20, 3) := by decide +kernel
theorem dX1_readMeant_68 : decode cX1_readMeant 68 = .ok (.iconst (-1), 1) := by decide +kernel
theorem dX1_readMeant_69 : decode cX1_readMeant 69 = .ok (.if_icmp .eq 4, 3) := by decide +kernel
theorem dX1_readMeant_72 : decode cX1_readMeant 72 = .ok (.return_, 1) := by decide +kernel
theorem dX1_readMeant_73 : decode cX1_readMeant 73 = .ok (.aload_n 1, 1) := by decide +kernel
theorem dX1_readMeant_74 : decode cX1_readMeant 74 = .ok (.iload_n 3, 1) := by decide +kernel
theorem dX1_readMeant_75 : decode cX1_readMeant 75 = .ok (.iload 7, 2) := by decide +kernel
theorem dX1_readMeant_77 : decode cX1_readMeant 77 = .ok (.invokevirtual 108, 3) := by decide +kernel
theorem dX1_readMeant_80 : decode cX1_readMeant 80 = .ok (.ifCond .eq 21, 3) := by decide +kernel
theorem dX1_readMeant_83 : decode cX1_readMeant 83 = .ok (.aload_n 1, 1) := by decide +kernel
theorem dX1_readMeant_84 : decode cX1_readMeant 84 = .ok (.iload_n 2, 1) := by decide +kernel
theorem dX1_readMeant_85 : decode cX1_readMeant 85 = .ok (.iload_n 3, 1) := by decide +kernel
theorem dX1_readMeant_86 : decode cX1_readMeant 86 = .ok (.iload 4, 2) := by decide +kernel
theorem dX1_readMeant_88 : decode cX1_readMeant 88 = .ok (.iload 5, 2) := by decide +kernel
theorem dX1_readMeant_90 : decode cX1_readMeant 90 = .ok (.invokestatic 112, 3) := by decide +kernel
theorem dX1_readMeant_93 : decode cX1_readMeant 93 = .ok (.iload 7, 2) := by decide +kernel
theorem dX1_readMeant_95 : decode cX1_readMeant 95 = .ok (.invokevirtual 116, 3) := by decide +kernel
theorem dX1_readMeant_98 : decode cX1_readMeant 98 = .ok (.goto 9, 3) := by decide +kernel
theorem dX1_readMeant_101 : decode cX1_readMeant 101 = .ok (.aload_n 0, 1) := by decide +kernel
theorem dX1_readMeant_102 : decode cX1_readMeant 102 = .ok (.iload 6, 2) := by decide +kernel
theorem dX1_readMeant_104 : decode cX1_readMeant 104 = .ok (.putfield 20, 3) := by decide +kernel
theorem dX1_readMeant_107 : decode cX1_readMeant 107 = .ok (.return_, 1) := by decide +kernel
theorem dX1_readEats_0 : decode cX1_readEats 0 = .ok (.aload_n 0, 1) := by decide +kernel
theorem dX1_readEats_1 : decode cX1_readEats 1 = .ok (.getfield 14, 3) := by decide +kernel
theorem dX1_readEats_4 : decode cX1_readEats 4 = .ok (.invokevirtual 45, 3) := by decide +kernel
theorem dX1_readEats_7 : decode cX1_readEats 7 = .ok (.aload_n 0, 1) := by decide +kernel
theorem dX1_readEats_8 : decode cX1_readEats 8 = .ok (.iconst 0, 1) := by decide +kernel
theorem dX1_readEats_9 : decode cX1_readEats 9 = .ok (.bipush 20, 2) := by decide +kernel
theorem dX1_readEats_11 : decode cX1_readEats 11 = .ok (.invokevirtual 82, 3) := by decide +kernel
theorem dX1_readEats_14 : decode cX1_readEats 14 = .ok (.istore_n 2, 1) := by decide +kernel
theorem dX1_readEats_15 : decode cX1_readEats 15 = .ok (.aload_n 0, 1) := by decide +kernel
theorem dX1_readEats_16 : decode cX1_readEats 16 = .ok (.getfield 20, 3) := by decide +kernel
theorem dX1_readEats_19 : decode cX1_readEats 19 = .ok (.iconst (-1), 1) := by decide +kernel
theorem dX1_readEats_20 : decode cX1_readEats 20 = .ok (.if_icmp .ne 8, 3) := by decide +kernel
theorem dX1_readEats_23 : decode cX1_readEats 23 = .ok (.aload_n 1, 1) := by decide +kernel
theorem dX1_readEats_24 : decode cX1_readEats 24 = .ok (.iload_n 2, 1) := by decide +kernel
theorem dX1_readEats_25 : decode cX1_readEats 25 = .ok (.putfield 119, 3) := by decide +kernel
theorem dX1_readEats_28 : decode cX1_readEats 28 = .ok (.return_, 1) := by decide +kernel
theorem dX1_readFine_0 : decode cX1_readFine 0 = .ok (.aload_n 0, 1) := by decide +kernel
theorem dX1_readFine_1 : decode cX1_readFine 1 = .ok (.getfield 14, 3) := by decide +kernel
theorem dX1_readFine_4 : decode cX1_readFine 4 = .ok (.invokevirtual 45, 3) := by decide +kernel
theorem dX1_readFine_7 : decode cX1_readFine 7 = .ok (.aload_n 0, 1) := by decide +kernel
theorem dX1_readFine_8 : decode cX1_readFine 8 = .ok (.iconst 0, 1) := by decide +kernel
theorem dX1_readFine_9 : decode cX1_readFine 9 = .ok (.bipush 99, 2) := by decide +kernel
theorem dX1_readFine_11 : decode cX1_readFine 11 = .ok (.invokevirtual 82, 3) := by decide +kernel
theorem dX1_readFine_14 : decode cX1_readFine 14 = .ok (.istore_n 2, 1) := by decide +kernel
theorem dX1_readFine_15 : decode cX1_readFine 15 = .ok (.aload_n 0, 1) := by decide +kernel
theorem dX1_readFine_16 : decode cX1_readFine 16 = .ok (.getfield 20, 3) := by decide +kernel
theorem dX1_readFine_19 : decode cX1_readFine 19 = .ok (.iconst (-1), 1) := by decide +kernel
theorem dX1_readFine_20 : decode cX1_readFine 20 = .ok (.if_icmp .ne 8, 3) := by decide +kernel
theorem dX1_readFine_23 : decode cX1_readFine 23 = .ok (.aload_n 1, 1) := by decide +kernel
theorem dX1_readFine_24 : decode cX1_readFine 24 = .ok (.iload_n 2, 1) := by decide +kernel
theorem dX1_readFine_25 : decode cX1_readFine 25 = .ok (.putfield 121, 3) := by decide +kernel
theorem dX1_readFine_28 : decode cX1_readFine 28 = .ok (.return_, 1) := by decide +kernel
theorem dX1_takeNumber_0 : decode cX1_takeNumber 0 = .ok (.aload_n 0, 1) := by decide +kernel
theorem dX1_takeNumber_1 : decode cX1_takeNumber 1 = .ok (.getfield 20, 3) := by decide +kernel
theorem dX1_takeNumber_4 : decode cX1_takeNumber 4 = .ok (.iconst (-1), 1) := by decide +kernel
theorem dX1_takeNumber_5 : decode cX1_takeNumber 5 = .ok (.if_icmp .eq 5, 3) := by decide +kernel
theorem dX1_takeNumber_8 : decode cX1_takeNumber 8 = .ok (.iconst (-1), 1) := by decide +kernel
theorem dX1_takeNumber_9 : decode cX1_takeNumber 9 = .ok (.ireturn, 1) := by decide +kernel
theorem dX1_takeNumber_10 : decode cX1_takeNumber 10 = .ok (.aload_n 0, 1) := by decide +kernel
theorem dX1_takeNumber_11 : decode cX1_takeNumber 11 = .ok (.getfield 14, 3) := by decide +kernel
theorem dX1_takeNumber_14 : decode cX1_takeNumber 14 = .ok (.invokevirtual 123, 3) := by decide +kernel
theorem dX1_takeNumber_17 : decode cX1_takeNumber 17 = .ok (.istore_n 3, 1) := by decide +kernel
theorem dX1_takeNumber_18 : decode cX1_takeNumber 18 = .ok (.iload_n 3, 1) := by decide +kernel
theorem dX1_takeNumber_19 : decode cX1_takeNumber 19 = .ok (.iload_n 1, 1) := by decide +kernel
theorem dX1_takeNumber_20 : decode cX1_takeNumber 20 = .ok (.iload_n 2, 1) := by decide +kernel
theorem dX1_takeNumber_21 : decode cX1_takeNumber 21 = .ok (.invokestatic 127, 3) := by decide +kernel
theorem dX1_takeNumber_24 : decode cX1_takeNumber 24 = .ok (.ifCond .eq 13, 3) := by decide +kernel
theorem dX1_takeNumber_27 : decode cX1_takeNumber 27 = .ok (.aload_n 0, 1) := by decide +kernel
theorem dX1_takeNumber_28 : decode cX1_takeNumber 28 = .ok (.getfield 14, 3) := by decide +kernel
theorem dX1_takeNumber_31 : decode cX1_takeNumber 31 = .ok (.invokevirtual 45, 3) := by decide +kernel
theorem dX1_takeNumber_34 : decode cX1_takeNumber 34 = .ok (.goto 14, 3) := by decide +kernel
theorem dX1_takeNumber_37 : decode cX1_takeNumber 37 = .ok (.aload_n 0, 1) := by decide +kernel
theorem dX1_takeNumber_38 : decode cX1_takeNumber 38 = .ok (.aload_n 0, 1) := by decide +kernel
theorem dX1_takeNumber_39 : decode cX1_takeNumber 39 = .ok (.getfield 14, 3) := by decide +kernel
theorem dX1_takeNumber_42 : decode cX1_takeNumber 42 = .ok (.getfield 42, 3) := by decide +kernel
theorem dX1_takeNumber_45 : decode cX1_takeNumber 45 = .ok (.putfield 20, 3) := by decide +kernel
theorem dX1_takeNumber_48 : decode cX1_takeNumber 48 = .ok (.iload_n 3, 1) := by decide +kernel
theorem dX1_takeNumber_49 : decode cX1_takeNumber 49 = .ok (.ireturn, 1) := by decide +kernel
theorem dX2_init_0 : decode cX2_init 0 = .ok (.aload_n 0, 1) := by decide +kernel
theorem dX2_init_1 : decode cX2_init 1 = .ok (.invokespecial 3, 3) := by decide +kernel
theorem dX2_init_4 : decode cX2_init 4 = .ok (.aload_n 0, 1) := by decide +kernel
theorem dX2_init_5 : decode cX2_init 5 = .ok (.bipush 72, 2) := by decide +kernel
theorem dX2_init_7 : decode cX2_init 7 = .ok (.newarray .int, 2) := by decide +kernel
theorem dX2_init_9 : decode cX2_init 9 = .ok (.putfield 9, 3) := by decide +kernel
theorem dX2_init_12 : decode cX2_init 12 = .ok (.aload_n 0, 1) := by decide +kernel
theorem dX2_init_13 : decode cX2_init 13 = .ok (.bipush 64, 2) := by decide +kernel
theorem dX2_init_15 : decode cX2_init 15 = .ok (.newarray .int, 2) := by decide +kernel
theorem dX2_init_17 : decode cX2_init 17 = .ok (.putfield 15, 3) := by decide +kernel
theorem dX2_init_20 : decode cX2_init 20 = .ok (.return_, 1) := by decide +kernel
theorem dX2_indexOf_0 : decode cX2_indexOf 0 = .ok (.iload_n 0, 1) := by decide +kernel
theorem dX2_indexOf_1 : decode cX2_indexOf 1 = .ok (.bipush 6, 2) := by decide +kernel
theorem dX2_indexOf_3 : decode cX2_indexOf 3 = .ok (.imul, 1) := by decide +kernel
theorem dX2_indexOf_4 : decode cX2_indexOf 4 = .ok (.iload_n 1, 1) := by decide +kernel
theorem dX2_indexOf_5 : decode cX2_indexOf 5 = .ok (.iload_n 2, 1) := by decide +kernel
theorem dX2_indexOf_6 : decode cX2_indexOf 6 = .ok (.invokestatic 18, 3) := by decide +kernel
theorem dX2_indexOf_9 : decode cX2_indexOf 9 = .ok (.iadd, 1) := by decide +kernel
theorem dX2_indexOf_10 : decode cX2_indexOf 10 = .ok (.bipush 6, 2) := by decide +kernel
theorem dX2_indexOf_12 : decode cX2_indexOf 12 = .ok (.imul, 1) := by decide +kernel
theorem dX2_indexOf_13 : decode cX2_indexOf 13 = .ok (.iload_n 1, 1) := by decide +kernel
theorem dX2_indexOf_14 : decode cX2_indexOf 14 = .ok (.iload_n 2, 1) := by decide +kernel
theorem dX2_indexOf_15 : decode cX2_indexOf 15 = .ok (.invokestatic 24, 3) := by decide +kernel
theorem dX2_indexOf_18 : decode cX2_indexOf 18 = .ok (.iadd, 1) := by decide +kernel
theorem dX2_indexOf_19 : decode cX2_indexOf 19 = .ok (.ireturn, 1) := by decide +kernel
theorem dX2_changeLiking_0 : decode cX2_changeLiking 0 = .ok (.iload_n 1, 1) := by decide +kernel
theorem dX2_changeLiking_1 : decode cX2_changeLiking 1 = .ok (.iload_n 2, 1) := by decide +kernel
theorem dX2_changeLiking_2 : decode cX2_changeLiking 2 = .ok (.iload_n 3, 1) := by decide +kernel
theorem dX2_changeLiking_3 : decode cX2_changeLiking 3 = .ok (.invokestatic 27, 3) := by decide +kernel
theorem dX2_changeLiking_6 : decode cX2_changeLiking 6 = .ok (.istore 5, 2) := by decide +kernel
theorem dX2_changeLiking_8 : decode cX2_changeLiking 8 = .ok (.iload 5, 2) := by decide +kernel
theorem dX2_changeLiking_10 : decode cX2_changeLiking 10 = .ok (.iconst 0, 1) := by decide +kernel
theorem dX2_changeLiking_11 : decode cX2_changeLiking 11 = .ok (.aload_n 0, 1) := by decide +kernel
theorem dX2_changeLiking_12 : decode cX2_changeLiking 12 = .ok (.getfield 9, 3) := by decide +kernel
theorem dX2_changeLiking_15 : decode cX2_changeLiking 15 = .ok (.arraylength, 1) := by decide +kernel
theorem dX2_changeLiking_16 : decode cX2_changeLiking 16 = .ok (.iconst 1, 1) := by decide +kernel
theorem dX2_changeLiking_17 : decode cX2_changeLiking 17 = .ok (.isub, 1) := by decide +kernel
theorem dX2_changeLiking_18 : decode cX2_changeLiking 18 = .ok (.invokestatic 31, 3) := by decide +kernel
theorem dX2_changeLiking_21 : decode cX2_changeLiking 21 = .ok (.ifCond .ne 5, 3) := by decide +kernel
theorem dX2_changeLiking_24 : decode cX2_changeLiking 24 = .ok (.iconst 0, 1) := by decide +kernel
theorem dX2_changeLiking_25 : decode cX2_changeLiking 25 = .ok (.ireturn, 1) := by decide +kernel
theorem dX2_changeLiking_26 : decode cX2_changeLiking 26 = .ok (.aload_n 0, 1) := by decide +kernel
theorem dX2_changeLiking_27 : decode cX2_changeLiking 27 = .ok (.getfield 9, 3) := by decide +kernel
theorem dX2_changeLiking_30 : decode cX2_changeLiking 30 = .ok (.iload 5, 2) := by decide +kernel
theorem dX2_changeLiking_32 : decode cX2_changeLiking 32 = .ok (.iaload, 1) := by decide +kernel
theorem dX2_changeLiking_33 : decode cX2_changeLiking 33 = .ok (.istore 6, 2) := by decide +kernel
theorem dX2_changeLiking_35 : decode cX2_changeLiking 35 = .ok (.aload_n 0, 1) := by decide +kernel
theorem dX2_changeLiking_36 : decode cX2_changeLiking 36 = .ok (.getfield 9, 3) := by decide +kernel
theorem dX2_changeLiking_39 : decode cX2_changeLiking 39 = .ok (.iload 5, 2) := by decide +kernel
theorem dX2_changeLiking_41 : decode cX2_changeLiking 41 = .ok (.iload 4, 2) := by decide +kernel
theorem dX2_changeLiking_43 : decode cX2_changeLiking 43 = .ok (.iastore, 1) := by decide +kernel
theorem dX2_changeLiking_44 : decode cX2_changeLiking 44 = .ok (.iload 6, 2) := by decide +kernel
theorem dX2_changeLiking_46 : decode cX2_changeLiking 46 = .ok (.ireturn, 1) := by decide +kernel
theorem dX2_greatestSum_0 : decode cX2_greatestSum 0 = .ok (.aload_n 0, 1) := by decide +kernel
theorem dX2_greatestSum_1 : decode cX2_greatestSum 1 = .ok (.iload_n 1, 1) := by decide +kernel
theorem dX2_greatestSum_2 : decode cX2_greatestSum 2 = .ok (.invokevirtual 35, 3) := by decide +kernel
theorem dX2_greatestSum_5 : decode cX2_greatestSum 5 = .ok (.iconst 4, 1) := by decide +kernel
theorem dX2_greatestSum_6 : decode cX2_greatestSum 6 = .ok (.idiv, 1) := by decide +kernel
theorem dX2_greatestSum_7 : decode cX2_greatestSum 7 = .ok (.ireturn, 1) := by decide +kernel
theorem dX2_mostFours_0 : decode cX2_mostFours 0 = .ok (.aload_n 0, 1) := by decide +kernel
theorem dX2_mostFours_1 : decode cX2_mostFours 1 = .ok (.iload_n 1, 1) := by decide +kernel
theorem dX2_mostFours_2 : decode cX2_mostFours 2 = .ok (.invokevirtual 35, 3) := by decide +kernel
theorem dX2_mostFours_5 : decode cX2_mostFours 5 = .ok (.iconst 4, 1) := by decide +kernel
theorem dX2_mostFours_6 : decode cX2_mostFours 6 = .ok (.irem, 1) := by decide +kernel
theorem dX2_mostFours_7 : decode cX2_mostFours 7 = .ok (.ireturn, 1) := by decide +kernel
theorem dX2_greatestOf_0 : decode cX2_greatestOf 0 = .ok (.iconst 1, 1) := by decide +kernel
theorem dX2_greatestOf_1 : decode cX2_greatestOf 1 = .ok (.iload_n 1, 1) := by decide +kernel
theorem dX2_greatestOf_2 : decode cX2_greatestOf 2 = .ok (.ishl, 1) := by decide +kernel
theorem dX2_greatestOf_3 : decode cX2_greatestOf 3 = .ok (.bipush 64, 2) := by decide +kernel
theorem dX2_greatestOf_5 : decode cX2_greatestOf 5 = .ok (.invokestatic 18, 3) := by decide +kernel
theorem dX2_greatestOf_8 : decode cX2_greatestOf 8 = .ok (.iconst 1, 1) := by decide +kernel
theorem dX2_greatestOf_9 : decode cX2_greatestOf 9 = .ok (.isub, 1) := by decide +kernel
theorem dX2_greatestOf_10 : decode cX2_greatestOf 10 = .ok (.istore_n 2, 1) := by decide +kernel
theorem dX2_greatestOf_11 : decode cX2_greatestOf 11 = .ok (.aload_n 0, 1) := by decide +kernel
theorem dX2_greatestOf_12 : decode cX2_greatestOf 12 = .ok (.getfield 15, 3) := by decide +kernel
theorem dX2_greatestOf_15 : decode cX2_greatestOf 15 = .ok (.iconst 0, 1) := by decide +kernel
theorem dX2_greatestOf_16 : decode cX2_greatestOf 16 = .ok (.iconst 0, 1) := by decide +kernel
theorem dX2_greatestOf_17 : decode cX2_greatestOf 17 = .ok (.iastore, 1) := by decide +kernel
theorem dX2_greatestOf_18 : decode cX2_greatestOf 18 = .ok (.iconst 1, 1) := by decide +kernel
theorem dX2_greatestOf_19 : decode cX2_greatestOf 19 = .ok (.istore_n 3, 1) := by decide +kernel
theorem dX2_greatestOf_20 : decode cX2_greatestOf 20 = .ok (.iload_n 3, 1) := by decide +kernel
theorem dX2_greatestOf_21 : decode cX2_greatestOf 21 = .ok (.iload_n 2, 1) := by decide +kernel
theorem dX2_greatestOf_22 : decode cX2_greatestOf 22 = .ok (.if_icmp .gt 21, 3) := by decide +kernel
theorem dX2_greatestOf_25 : decode cX2_greatestOf 25 = .ok (.aload_n 0, 1) := by decide +kernel
theorem dX2_greatestOf_26 : decode cX2_greatestOf 26 = .ok (.getfield 15, 3) := by decide +kernel
theorem dX2_greatestOf_29 : decode cX2_greatestOf 29 = .ok (.iload_n 3, 1) := by decide +kernel
theorem dX2_greatestOf_30 : decode cX2_greatestOf 30 = .ok (.aload_n 0, 1) := by decide +kernel
theorem dX2_greatestOf_31 : decode cX2_greatestOf 31 = .ok (.iload_n 3, 1) := by decide +kernel
theorem dX2_greatestOf_32 : decode cX2_greatestOf 32 = .ok (.iload_n 1, 1) := by decide +kernel
theorem dX2_greatestOf_33 : decode cX2_greatestOf 33 = .ok (.invokevirtual 39, 3) := by decide +kernel
theorem dX2_greatestOf_36 : decode cX2_greatestOf 36 = .ok (.iastore, 1) := by decide +kernel
theorem dX2_greatestOf_37 : decode cX2_greatestOf 37 = .ok (.iinc 3 1, 3) := by decide +kernel
theorem dX2_greatestOf_40 : decode cX2_greatestOf 40 = .ok (.goto (-20), 3) := by decide +kernel
theorem dX2_greatestOf_43 : decode cX2_greatestOf 43 = .ok (.aload_n 0, 1) := by decide +kernel
theorem dX2_greatestOf_44 : decode cX2_greatestOf 44 = .ok (.iload_n 2, 1) := by decide +kernel
theorem dX2_greatestOf_45 : decode cX2_greatestOf 45 = .ok (.invokevirtual 42, 3) := by decide +kernel
theorem dX2_greatestOf_48 : decode cX2_greatestOf 48 = .ok (.ireturn, 1) := by decide +kernel
theorem dX2_greatestKnown_0 : decode cX2_greatestKnown 0 = .ok (.iload_n 1, 1) := by decide +kernel
theorem dX2_greatestKnown_1 : decode cX2_greatestKnown 1 = .ok (.iconst 0, 1) := by decide +kernel
theorem dX2_greatestKnown_2 : decode cX2_greatestKnown 2 = .ok (.bipush 63, 2) := by decide +kernel
theorem dX2_greatestKnown_4 : decode cX2_greatestKnown 4 = .ok (.invokestatic 31, 3) := by decide +kernel
theorem dX2_greatestKnown_7 : decode cX2_greatestKnown 7 = .ok (.ifCond .eq 12, 3) := by decide +kernel
theorem dX2_greatestKnown_10 : decode cX2_greatestKnown 10 = .ok (.aload_n 0, 1) := by decide +kernel
theorem dX2_greatestKnown_11 : decode cX2_greatestKnown 11 = .ok (.getfield 15, 3) := by decide +kernel
theorem dX2_greatestKnown_14 : decode cX2_greatestKnown 14 = .ok (.iload_n 1, 1) := by decide +kernel
theorem dX2_greatestKnown_15 : decode cX2_greatestKnown 15 = .ok (.iaload, 1) := by decide +kernel
theorem dX2_greatestKnown_16 : decode cX2_greatestKnown 16 = .ok (.goto 4, 3) := by decide +kernel
theorem dX2_greatestKnown_19 : decode cX2_greatestKnown 19 = .ok (.iconst 0, 1) := by decide +kernel
theorem dX2_greatestKnown_20 : decode cX2_greatestKnown 20 = .ok (.ireturn, 1) := by decide +kernel
theorem dX2_greatestOfSet_0 : decode cX2_greatestOfSet 0 = .ok (.iload_n 1, 1) := by decide +kernel
theorem dX2_greatestOfSet_1 : decode cX2_greatestOfSet 1 = .ok (.iload_n 1, 1) := by decide +kernel
theorem dX2_greatestOfSet_2 : decode cX2_greatestOfSet 2 = .ok (.iconst 1, 1) := by decide +kernel
theorem dX2_greatestOfSet_3 : decode cX2_greatestOfSet 3 = .ok (.isub, 1) := by decide +kernel
theorem dX2_greatestOfSet_4 : decode cX2_greatestOfSet 4 = .ok (.iand, 1) := by decide +kernel
theorem dX2_greatestOfSet_5 : decode cX2_greatestOfSet 5 = .ok (.istore_n 3, 1) := by decide +kernel
theorem dX2_greatestOfSet_6 : decode cX2_greatestOfSet 6 = .ok (.iload_n 1, 1) := by decide +kernel
theorem dX2_greatestOfSet_7 : decode cX2_greatestOfSet 7 = .ok (.iload_n 1, 1) := by decide +kernel
theorem dX2_greatestOfSet_8 : decode cX2_greatestOfSet 8 = .ok (.ineg, 1) := by decide +kernel
theorem dX2_greatestOfSet_9 : decode cX2_greatestOfSet 9 = .ok (.iand, 1) := by decide +kernel
theorem dX2_greatestOfSet_10 : decode cX2_greatestOfSet 10 = .ok (.iconst 1, 1) := by decide +kernel
theorem dX2_greatestOfSet_11 : decode cX2_greatestOfSet 11 = .ok (.isub, 1) := by decide +kernel
theorem dX2_greatestOfSet_12 : decode cX2_greatestOfSet 12 = .ok (.invokestatic 45, 3) := by decide +kernel
theorem dX2_greatestOfSet_15 : decode cX2_greatestOfSet 15 = .ok (.istore 4, 2) := by decide +kernel
theorem dX2_greatestOfSet_17 : decode cX2_greatestOfSet 17 = .ok (.aload_n 0, 1) := by decide +kernel
theorem dX2_greatestOfSet_18 : decode cX2_greatestOfSet 18 = .ok (.iload_n 3, 1) := by decide +kernel
theorem dX2_greatestOfSet_19 : decode cX2_greatestOfSet 19 = .ok (.invokevirtual 42, 3) := by decide +kernel
theorem dX2_greatestOfSet_22 : decode cX2_greatestOfSet 22 = .ok (.istore 5, 2) := by decide +kernel
theorem dX2_greatestOfSet_24 : decode cX2_greatestOfSet 24 = .ok (.iconst 0, 1) := by decide +kernel
theorem dX2_greatestOfSet_25 : decode cX2_greatestOfSet 25 = .ok (.istore 6, 2) := by decide +kernel
theorem dX2_greatestOfSet_27 : decode cX2_greatestOfSet 27 = .ok (.iload 6, 2) := by decide +kernel
theorem dX2_greatestOfSet_29 : decode cX2_greatestOfSet 29 = .ok (.iload_n 2, 1) := by decide +kernel
theorem dX2_greatestOfSet_30 : decode cX2_greatestOfSet 30 = .ok (.if_icmp .ge 47, 3) := by decide +kernel
theorem dX2_greatestOfSet_33 : decode cX2_greatestOfSet 33 = .ok (.iload_n 3, 1) := by decide +kernel
theorem dX2_greatestOfSet_34 : decode cX2_greatestOfSet 34 = .ok (.iconst 1, 1) := by decide +kernel
theorem dX2_greatestOfSet_35 : decode cX2_greatestOfSet 35 = .ok (.iload 6, 2) := by decide +kernel
theorem dX2_greatestOfSet_37 : decode cX2_greatestOfSet 37 = .ok (.ishl, 1) := by decide +kernel
theorem dX2_greatestOfSet_38 : decode cX2_greatestOfSet 38 = .ok (.iconst (-1), 1) := by decide +kernel
theorem dX2_greatestOfSet_39 : decode cX2_greatestOfSet 39 = .ok (.ixor, 1) := by decide +kernel
theorem dX2_greatestOfSet_40 : decode cX2_greatestOfSet 40 = .ok (.iand, 1) := by decide +kernel
theorem dX2_greatestOfSet_41 : decode cX2_greatestOfSet 41 = .ok (.istore 7, 2) := by decide +kernel
theorem dX2_greatestOfSet_43 : decode cX2_greatestOfSet 43 = .ok (.iload 7, 2) := by decide +kernel
theorem dX2_greatestOfSet_45 : decode cX2_greatestOfSet 45 = .ok (.iload_n 3, 1) := by decide +kernel
theorem dX2_greatestOfSet_46 : decode cX2_greatestOfSet 46 = .ok (.if_icmp .eq 25, 3) := by decide +kernel
theorem dX2_greatestOfSet_49 : decode cX2_greatestOfSet 49 = .ok (.iload 5, 2) := by decide +kernel
theorem dX2_greatestOfSet_51 : decode cX2_greatestOfSet 51 = .ok (.aload_n 0, 1) := by decide +kernel
theorem dX2_greatestOfSet_52 : decode cX2_greatestOfSet 52 = .ok (.iload 7, 2) := by decide +kernel
theorem dX2_greatestOfSet_54 : decode cX2_greatestOfSet 54 = .ok (.invokevirtual 42, 3) := by decide +kernel
theorem dX2_greatestOfSet_57 : decode cX2_greatestOfSet 57 = .ok (.aload_n 0, 1) := by decide +kernel
theorem dX2_greatestOfSet_58 : decode cX2_greatestOfSet 58 = .ok (.iload 4, 2) := by decide +kernel
theorem dX2_greatestOfSet_60 : decode cX2_greatestOfSet 60 = .ok (.iload 6, 2) := by decide +kernel
theorem dX2_greatestOfSet_62 : decode cX2_greatestOfSet 62 = .ok (.invokevirtual 50, 3) := by decide +kernel
theorem dX2_greatestOfSet_65 : decode cX2_greatestOfSet 65 = .ok (.iadd, 1) := by decide +kernel
theorem dX2_greatestOfSet_66 : decode cX2_greatestOfSet 66 = .ok (.invokestatic 24, 3) := by decide +kernel
theorem dX2_greatestOfSet_69 : decode cX2_greatestOfSet 69 = .ok (.istore 5, 2) := by decide +kernel
theorem dX2_greatestOfSet_71 : decode cX2_greatestOfSet 71 = .ok (.iinc 6 1, 3) := by decide +kernel
theorem dX2_greatestOfSet_74 : decode cX2_greatestOfSet 74 = .ok (.goto (-47), 3) := by decide +kernel
theorem dX2_greatestOfSet_77 : decode cX2_greatestOfSet 77 = .ok (.iload 5, 2) := by decide +kernel
theorem dX2_greatestOfSet_79 : decode cX2_greatestOfSet 79 = .ok (.ireturn, 1) := by decide +kernel
theorem dX2_valueOf_0 : decode cX2_valueOf 0 = .ok (.iconst 0, 1) := by decide +kernel
theorem dX2_valueOf_1 : decode cX2_valueOf 1 = .ok (.iload_n 1, 1) := by decide +kernel
theorem dX2_valueOf_2 : decode cX2_valueOf 2 = .ok (.iload_n 2, 1) := by decide +kernel
theorem dX2_valueOf_3 : decode cX2_valueOf 3 = .ok (.invokestatic 27, 3) := by decide +kernel
theorem dX2_valueOf_6 : decode cX2_valueOf 6 = .ok (.istore_n 3, 1) := by decide +kernel
theorem dX2_valueOf_7 : decode cX2_valueOf 7 = .ok (.iconst 1, 1) := by decide +kernel
theorem dX2_valueOf_8 : decode cX2_valueOf 8 = .ok (.iload_n 1, 1) := by decide +kernel
theorem dX2_valueOf_9 : decode cX2_valueOf 9 = .ok (.iload_n 2, 1) := by decide +kernel
theorem dX2_valueOf_10 : decode cX2_valueOf 10 = .ok (.invokestatic 27, 3) := by decide +kernel
theorem dX2_valueOf_13 : decode cX2_valueOf 13 = .ok (.istore 4, 2) := by decide +kernel
theorem dX2_valueOf_15 : decode cX2_valueOf 15 = .ok (.iload_n 3, 1) := by decide +kernel
theorem dX2_valueOf_16 : decode cX2_valueOf 16 = .ok (.iconst 0, 1) := by decide +kernel
theorem dX2_valueOf_17 : decode cX2_valueOf 17 = .ok (.aload_n 0, 1) := by decide +kernel
theorem dX2_valueOf_18 : decode cX2_valueOf 18 = .ok (.getfield 9, 3) := by decide +kernel
theorem dX2_valueOf_21 : decode cX2_valueOf 21 = .ok (.arraylength, 1) := by decide +kernel
theorem dX2_valueOf_22 : decode cX2_valueOf 22 = .ok (.iconst 1, 1) := by decide +kernel
theorem dX2_valueOf_23 : decode cX2_valueOf 23 = .ok (.isub, 1) := by decide +kernel
theorem dX2_valueOf_24 : decode cX2_valueOf 24 = .ok (.invokestatic 31, 3) := by decide +kernel
theorem dX2_valueOf_27 : decode cX2_valueOf 27 = .ok (.ifCond .eq 23, 3) := by decide +kernel
theorem dX2_valueOf_30 : decode cX2_valueOf 30 = .ok (.iload 4, 2) := by decide +kernel
theorem dX2_valueOf_32 : decode cX2_valueOf 32 = .ok (.iconst 0, 1) := by decide +kernel
theorem dX2_valueOf_33 : decode cX2_valueOf 33 = .ok (.aload_n 0, 1) := by decide +kernel
theorem dX2_valueOf_34 : decode cX2_valueOf 34 = .ok (.getfield 9, 3) := by decide +kernel
theorem dX2_valueOf_37 : decode cX2_valueOf 37 = .ok (.arraylength, 1) := by decide +kernel
theorem dX2_valueOf_38 : decode cX2_valueOf 38 = .ok (.iconst 1, 1) := by decide +kernel
theorem dX2_valueOf_39 : decode cX2_valueOf 39 = .ok (.isub, 1) := by decide +kernel
theorem dX2_valueOf_40 : decode cX2_valueOf 40 = .ok (.invokestatic 31, 3) := by decide +kernel
theorem dX2_valueOf_43 : decode cX2_valueOf 43 = .ok (.ifCond .eq 7, 3) := by decide +kernel
theorem dX2_valueOf_46 : decode cX2_valueOf 46 = .ok (.iconst 1, 1) := by decide +kernel
theorem dX2_valueOf_47 : decode cX2_valueOf 47 = .ok (.goto 4, 3) := by decide +kernel
theorem dX2_valueOf_50 : decode cX2_valueOf 50 = .ok (.iconst 0, 1) := by decide +kernel
theorem dX2_valueOf_51 : decode cX2_valueOf 51 = .ok (.istore 5, 2) := by decide +kernel
theorem dX2_valueOf_53 : decode cX2_valueOf 53 = .ok (.iload 5, 2) := by decide +kernel
theorem dX2_valueOf_55 : decode cX2_valueOf 55 = .ok (.ifCond .eq 26, 3) := by decide +kernel
theorem dX2_valueOf_58 : decode cX2_valueOf 58 = .ok (.aload_n 0, 1) := by decide +kernel
theorem dX2_valueOf_59 : decode cX2_valueOf 59 = .ok (.getfield 9, 3) := by decide +kernel
theorem dX2_valueOf_62 : decode cX2_valueOf 62 = .ok (.iload_n 3, 1) := by decide +kernel
theorem dX2_valueOf_63 : decode cX2_valueOf 63 = .ok (.iaload, 1) := by decide +kernel
theorem dX2_valueOf_64 : decode cX2_valueOf 64 = .ok (.aload_n 0, 1) := by decide +kernel
theorem dX2_valueOf_65 : decode cX2_valueOf 65 = .ok (.getfield 9, 3) := by decide +kernel
theorem dX2_valueOf_68 : decode cX2_valueOf 68 = .ok (.iload 4, 2) := by decide +kernel
theorem dX2_valueOf_70 : decode cX2_valueOf 70 = .ok (.iaload, 1) := by decide +kernel
theorem dX2_valueOf_71 : decode cX2_valueOf 71 = .ok (.invokestatic 18, 3) := by decide +kernel
theorem dX2_valueOf_74 : decode cX2_valueOf 74 = .ok (.iconst 4, 1) := by decide +kernel
theorem dX2_valueOf_75 : decode cX2_valueOf 75 = .ok (.imul, 1) := by decide +kernel
theorem dX2_valueOf_76 : decode cX2_valueOf 76 = .ok (.iconst 1, 1) := by decide +kernel
theorem dX2_valueOf_77 : decode cX2_valueOf 77 = .ok (.iadd, 1) := by decide +kernel
theorem dX2_valueOf_78 : decode cX2_valueOf 78 = .ok (.goto 4, 3) := by decide +kernel
theorem dX2_valueOf_81 : decode cX2_valueOf 81 = .ok (.iconst 1, 1) := by decide +kernel
theorem dX2_valueOf_82 : decode cX2_valueOf 82 = .ok (.ireturn, 1) := by decide +kernel
theorem dX3_init_0 : decode cX3_init 0 = .ok (.aload_n 0, 1) := by decide +kernel
theorem dX3_init_1 : decode cX3_init 1 = .ok (.invokespecial 3, 3) := by decide +kernel
theorem dX3_init_4 : decode cX3_init 4 = .ok (.aload_n 0, 1) := by decide +kernel
theorem dX3_init_5 : decode cX3_init 5 = .ok (.iconst 4, 1) := by decide +kernel
theorem dX3_init_6 : decode cX3_init 6 = .ok (.newarray .int, 2) := by decide +kernel
theorem dX3_init_8 : decode cX3_init 8 = .ok (.putfield 9, 3) := by decide +kernel
theorem dX3_init_11 : decode cX3_init 11 = .ok (.return_, 1) := by decide +kernel
theorem dX3_classIn_0 : decode cX3_classIn 0 = .ok (.iload_n 0, 1) := by decide +kernel
theorem dX3_classIn_1 : decode cX3_classIn 1 = .ok (.iconst 2, 1) := by decide +kernel
theorem dX3_classIn_2 : decode cX3_classIn 2 = .ok (.iload_n 1, 1) := by decide +kernel
theorem dX3_classIn_3 : decode cX3_classIn 3 = .ok (.imul, 1) := by decide +kernel
theorem dX3_classIn_4 : decode cX3_classIn 4 = .ok (.ishr, 1) := by decide +kernel
theorem dX3_classIn_5 : decode cX3_classIn 5 = .ok (.iconst 3, 1) := by decide +kernel
theorem dX3_classIn_6 : decode cX3_classIn 6 = .ok (.iand, 1) := by decide +kernel
theorem dX3_classIn_7 : decode cX3_classIn 7 = .ok (.ireturn, 1) := by decide +kernel
theorem dX3_toBeAlike_0 : decode cX3_toBeAlike 0 = .ok (.iconst 0, 1) := by decide +kernel
theorem dX3_toBeAlike_1 : decode cX3_toBeAlike 1 = .ok (.istore 4, 2) := by decide +kernel
theorem dX3_toBeAlike_3 : decode cX3_toBeAlike 3 = .ok (.iconst 0, 1) := by decide +kernel
theorem dX3_toBeAlike_4 : decode cX3_toBeAlike 4 = .ok (.istore 5, 2) := by decide +kernel
theorem dX3_toBeAlike_6 : decode cX3_toBeAlike 6 = .ok (.iconst 0, 1) := by decide +kernel
theorem dX3_toBeAlike_7 : decode cX3_toBeAlike 7 = .ok (.istore 6, 2) := by decide +kernel
theorem dX3_toBeAlike_9 : decode cX3_toBeAlike 9 = .ok (.iload 6, 2) := by decide +kernel
theorem dX3_toBeAlike_11 : decode cX3_toBeAlike 11 = .ok (.iload_n 2, 1) := by decide +kernel
theorem dX3_toBeAlike_12 : decode cX3_toBeAlike 12 = .ok (.if_icmp .ge 42, 3) := by decide +kernel
theorem dX3_toBeAlike_15 : decode cX3_toBeAlike 15 = .ok (.iload_n 1, 1) := by decide +kernel
theorem dX3_toBeAlike_16 : decode cX3_toBeAlike 16 = .ok (.iload 6, 2) := by decide +kernel
theorem dX3_toBeAlike_18 : decode cX3_toBeAlike 18 = .ok (.invokestatic 15, 3) := by decide +kernel
theorem dX3_toBeAlike_21 : decode cX3_toBeAlike 21 = .ok (.istore 7, 2) := by decide +kernel
theorem dX3_toBeAlike_23 : decode cX3_toBeAlike 23 = .ok (.iload 7, 2) := by decide +kernel
theorem dX3_toBeAlike_25 : decode cX3_toBeAlike 25 = .ok (.iload 5, 2) := by decide +kernel
theorem dX3_toBeAlike_27 : decode cX3_toBeAlike 27 = .ok (.if_icmp .ne 6, 3) := by decide +kernel
theorem dX3_toBeAlike_30 : decode cX3_toBeAlike 30 = .ok (.goto 18, 3) := by decide +kernel
theorem dX3_toBeAlike_33 : decode cX3_toBeAlike 33 = .ok (.iload 6, 2) := by decide +kernel
theorem dX3_toBeAlike_35 : decode cX3_toBeAlike 35 = .ok (.iload_n 3, 1) := by decide +kernel
theorem dX3_toBeAlike_36 : decode cX3_toBeAlike 36 = .ok (.if_icmp .ge 5, 3) := by decide +kernel
theorem dX3_toBeAlike_39 : decode cX3_toBeAlike 39 = .ok (.iconst (-1), 1) := by decide +kernel
theorem dX3_toBeAlike_40 : decode cX3_toBeAlike 40 = .ok (.ireturn, 1) := by decide +kernel
theorem dX3_toBeAlike_41 : decode cX3_toBeAlike 41 = .ok (.iload 7, 2) := by decide +kernel
theorem dX3_toBeAlike_43 : decode cX3_toBeAlike 43 = .ok (.istore 5, 2) := by decide +kernel
theorem dX3_toBeAlike_45 : decode cX3_toBeAlike 45 = .ok (.iinc 4 1, 3) := by decide +kernel
theorem dX3_toBeAlike_48 : decode cX3_toBeAlike 48 = .ok (.iinc 6 1, 3) := by decide +kernel
theorem dX3_toBeAlike_51 : decode cX3_toBeAlike 51 = .ok (.goto (-42), 3) := by decide +kernel
theorem dX3_toBeAlike_54 : decode cX3_toBeAlike 54 = .ok (.iload 4, 2) := by decide +kernel
theorem dX3_toBeAlike_56 : decode cX3_toBeAlike 56 = .ok (.ireturn, 1) := by decide +kernel
theorem dX3_toBeNeverAlike_0 : decode cX3_toBeNeverAlike 0 = .ok (.iconst 0, 1) := by decide +kernel
theorem dX3_toBeNeverAlike_1 : decode cX3_toBeNeverAlike 1 = .ok (.istore 4, 2) := by decide +kernel
theorem dX3_toBeNeverAlike_3 : decode cX3_toBeNeverAlike 3 = .ok (.iload 4, 2) := by decide +kernel
theorem dX3_toBeNeverAlike_5 : decode cX3_toBeNeverAlike 5 = .ok (.iconst 4, 1) := by decide +kernel
theorem dX3_toBeNeverAlike_6 : decode cX3_toBeNeverAlike 6 = .ok (.if_icmp .ge 27, 3) := by decide +kernel
theorem dX3_toBeNeverAlike_9 : decode cX3_toBeNeverAlike 9 = .ok (.aload_n 0, 1) := by decide +kernel
theorem dX3_toBeNeverAlike_10 : decode cX3_toBeNeverAlike 10 = .ok (.getfield 9, 3) := by decide +kernel
theorem dX3_toBeNeverAlike_13 : decode cX3_toBeNeverAlike 13 = .ok (.iload 4, 2) := by decide +kernel
theorem dX3_toBeNeverAlike_15 : decode cX3_toBeNeverAlike 15 = .ok (.iload 4, 2) := by decide +kernel
theorem dX3_toBeNeverAlike_17 : decode cX3_toBeNeverAlike 17 = .ok (.ifCond .ne 7, 3) := by decide +kernel
theorem dX3_toBeNeverAlike_20 : decode cX3_toBeNeverAlike 20 = .ok (.iconst 0, 1) := by decide +kernel
theorem dX3_toBeNeverAlike_21 : decode cX3_toBeNeverAlike 21 = .ok (.goto 5, 3) := by decide +kernel
theorem dX3_toBeNeverAlike_24 : decode cX3_toBeNeverAlike 24 = .ok (.ldc 19, 2) := by decide +kernel
theorem dX3_toBeNeverAlike_26 : decode cX3_toBeNeverAlike 26 = .ok (.iastore, 1) := by decide +kernel
theorem dX3_toBeNeverAlike_27 : decode cX3_toBeNeverAlike 27 = .ok (.iinc 4 1, 3) := by decide +kernel
theorem dX3_toBeNeverAlike_30 : decode cX3_toBeNeverAlike 30 = .ok (.goto (-27), 3) := by decide +kernel
theorem dX3_toBeNeverAlike_33 : decode cX3_toBeNeverAlike 33 = .ok (.iconst 0, 1) := by decide +kernel
theorem dX3_toBeNeverAlike_34 : decode cX3_toBeNeverAlike 34 = .ok (.istore 4, 2) := by decide +kernel
theorem dX3_toBeNeverAlike_36 : decode cX3_toBeNeverAlike 36 = .ok (.iload 4, 2) := by decide +kernel
theorem dX3_toBeNeverAlike_38 : decode cX3_toBeNeverAlike 38 = .ok (.iload_n 2, 1) := by decide +kernel
theorem dX3_toBeNeverAlike_39 : decode cX3_toBeNeverAlike 39 = .ok (.if_icmp .ge 90, 3) := by decide +kernel
theorem dX3_toBeNeverAlike_42 : decode cX3_toBeNeverAlike 42 = .ok (.iload 4, 2) := by decide +kernel
theorem dX3_toBeNeverAlike_44 : decode cX3_toBeNeverAlike 44 = .ok (.iload_n 3, 1) := by decide +kernel
theorem dX3_toBeNeverAlike_45 : decode cX3_toBeNeverAlike 45 = .ok (.if_icmp .ge 8, 3) := by decide +kernel
theorem dX3_toBeNeverAlike_48 : decode cX3_toBeNeverAlike 48 = .ok (.ldc 19, 2) := by decide +kernel
theorem dX3_toBeNeverAlike_50 : decode cX3_toBeNeverAlike 50 = .ok (.goto 9, 3) := by decide +kernel
theorem dX3_toBeNeverAlike_53 : decode cX3_toBeNeverAlike 53 = .ok (.aload_n 0, 1) := by decide +kernel
theorem dX3_toBeNeverAlike_54 : decode cX3_toBeNeverAlike 54 = .ok (.invokevirtual 20, 3) := by decide +kernel
theorem dX3_toBeNeverAlike_57 : decode cX3_toBeNeverAlike 57 = .ok (.iconst 1, 1) := by decide +kernel
theorem dX3_toBeNeverAlike_58 : decode cX3_toBeNeverAlike 58 = .ok (.iadd, 1) := by decide +kernel
theorem dX3_toBeNeverAlike_59 : decode cX3_toBeNeverAlike 59 = .ok (.istore 5, 2) := by decide +kernel
theorem dX3_toBeNeverAlike_61 : decode cX3_toBeNeverAlike 61 = .ok (.iconst 0, 1) := by decide +kernel
theorem dX3_toBeNeverAlike_62 : decode cX3_toBeNeverAlike 62 = .ok (.istore 6, 2) := by decide +kernel
theorem dX3_toBeNeverAlike_64 : decode cX3_toBeNeverAlike 64 = .ok (.iload 6, 2) := by decide +kernel
theorem dX3_toBeNeverAlike_66 : decode cX3_toBeNeverAlike 66 = .ok (.iconst 4, 1) := by decide +kernel
theorem dX3_toBeNeverAlike_67 : decode cX3_toBeNeverAlike 67 = .ok (.if_icmp .ge 56, 3) := by decide +kernel
theorem dX3_toBeNeverAlike_70 : decode cX3_toBeNeverAlike 70 = .ok (.iload 6, 2) := by decide +kernel
theorem dX3_toBeNeverAlike_72 : decode cX3_toBeNeverAlike 72 = .ok (.iload_n 1, 1) := by decide +kernel
theorem dX3_toBeNeverAlike_73 : decode cX3_toBeNeverAlike 73 = .ok (.iload 4, 2) := by decide +kernel
theorem dX3_toBeNeverAlike_75 : decode cX3_toBeNeverAlike 75 = .ok (.invokestatic 15, 3) := by decide +kernel
theorem dX3_toBeNeverAlike_78 : decode cX3_toBeNeverAlike 78 = .ok (.if_icmp .ne 7, 3) := by decide +kernel
theorem dX3_toBeNeverAlike_81 : decode cX3_toBeNeverAlike 81 = .ok (.iconst 1, 1) := by decide +kernel
theorem dX3_toBeNeverAlike_82 : decode cX3_toBeNeverAlike 82 = .ok (.goto 4, 3) := by decide +kernel
theorem dX3_toBeNeverAlike_85 : decode cX3_toBeNeverAlike 85 = .ok (.iconst 0, 1) := by decide +kernel
theorem dX3_toBeNeverAlike_86 : decode cX3_toBeNeverAlike 86 = .ok (.istore 7, 2) := by decide +kernel
theorem dX3_toBeNeverAlike_88 : decode cX3_toBeNeverAlike 88 = .ok (.aload_n 0, 1) := by decide +kernel
theorem dX3_toBeNeverAlike_89 : decode cX3_toBeNeverAlike 89 = .ok (.getfield 9, 3) := by decide +kernel
theorem dX3_toBeNeverAlike_92 : decode cX3_toBeNeverAlike 92 = .ok (.iload 6, 2) := by decide +kernel
theorem dX3_toBeNeverAlike_94 : decode cX3_toBeNeverAlike 94 = .ok (.iload 7, 2) := by decide +kernel
theorem dX3_toBeNeverAlike_96 : decode cX3_toBeNeverAlike 96 = .ok (.ifCond .eq 8, 3) := by decide +kernel
theorem dX3_toBeNeverAlike_99 : decode cX3_toBeNeverAlike 99 = .ok (.ldc 19, 2) := by decide +kernel
theorem dX3_toBeNeverAlike_101 : decode cX3_toBeNeverAlike 101 = .ok (.goto 15, 3) := by decide +kernel
theorem dX3_toBeNeverAlike_104 : decode cX3_toBeNeverAlike 104 = .ok (.aload_n 0, 1) := by decide +kernel
theorem dX3_toBeNeverAlike_105 : decode cX3_toBeNeverAlike 105 = .ok (.getfield 9, 3) := by decide +kernel
theorem dX3_toBeNeverAlike_108 : decode cX3_toBeNeverAlike 108 = .ok (.iload 6, 2) := by decide +kernel
theorem dX3_toBeNeverAlike_110 : decode cX3_toBeNeverAlike 110 = .ok (.iaload, 1) := by decide +kernel
theorem dX3_toBeNeverAlike_111 : decode cX3_toBeNeverAlike 111 = .ok (.iload 5, 2) := by decide +kernel
theorem dX3_toBeNeverAlike_113 : decode cX3_toBeNeverAlike 113 = .ok (.invokestatic 24, 3) := by decide +kernel
theorem dX3_toBeNeverAlike_116 : decode cX3_toBeNeverAlike 116 = .ok (.iastore, 1) := by decide +kernel
theorem dX3_toBeNeverAlike_117 : decode cX3_toBeNeverAlike 117 = .ok (.iinc 6 1, 3) := by decide +kernel
theorem dX3_toBeNeverAlike_120 : decode cX3_toBeNeverAlike 120 = .ok (.goto (-56), 3) := by decide +kernel
theorem dX3_toBeNeverAlike_123 : decode cX3_toBeNeverAlike 123 = .ok (.iinc 4 1, 3) := by decide +kernel
theorem dX3_toBeNeverAlike_126 : decode cX3_toBeNeverAlike 126 = .ok (.goto (-90), 3) := by decide +kernel
theorem dX3_toBeNeverAlike_129 : decode cX3_toBeNeverAlike 129 = .ok (.aload_n 0, 1) := by decide +kernel
theorem dX3_toBeNeverAlike_130 : decode cX3_toBeNeverAlike 130 = .ok (.invokevirtual 20, 3) := by decide +kernel
theorem dX3_toBeNeverAlike_133 : decode cX3_toBeNeverAlike 133 = .ok (.istore 4, 2) := by decide +kernel
theorem dX3_toBeNeverAlike_135 : decode cX3_toBeNeverAlike 135 = .ok (.iload 4, 2) := by decide +kernel
theorem dX3_toBeNeverAlike_137 : decode cX3_toBeNeverAlike 137 = .ok (.ldc 19, 2) := by decide +kernel
theorem dX3_toBeNeverAlike_139 : decode cX3_toBeNeverAlike 139 = .ok (.if_icmp .ge 8, 3) := by decide +kernel
theorem dX3_toBeNeverAlike_142 : decode cX3_toBeNeverAlike 142 = .ok (.iload 4, 2) := by decide +kernel
theorem dX3_toBeNeverAlike_144 : decode cX3_toBeNeverAlike 144 = .ok (.goto 4, 3) := by decide +kernel
theorem dX3_toBeNeverAlike_147 : decode cX3_toBeNeverAlike 147 = .ok (.iconst (-1), 1) := by decide +kernel
theorem dX3_toBeNeverAlike_148 : decode cX3_toBeNeverAlike 148 = .ok (.ireturn, 1) := by decide +kernel
theorem dX3_leastOfAll_0 : decode cX3_leastOfAll 0 = .ok (.ldc 19, 2) := by decide +kernel
theorem dX3_leastOfAll_2 : decode cX3_leastOfAll 2 = .ok (.istore_n 1, 1) := by decide +kernel
theorem dX3_leastOfAll_3 : decode cX3_leastOfAll 3 = .ok (.iconst 0, 1) := by decide +kernel
theorem dX3_leastOfAll_4 : decode cX3_leastOfAll 4 = .ok (.istore_n 2, 1) := by decide +kernel
theorem dX3_leastOfAll_5 : decode cX3_leastOfAll 5 = .ok (.iload_n 2, 1) := by decide +kernel
theorem dX3_leastOfAll_6 : decode cX3_leastOfAll 6 = .ok (.iconst 4, 1) := by decide +kernel
theorem dX3_leastOfAll_7 : decode cX3_leastOfAll 7 = .ok (.if_icmp .ge 20, 3) := by decide +kernel
theorem dX3_leastOfAll_10 : decode cX3_leastOfAll 10 = .ok (.iload_n 1, 1) := by decide +kernel
theorem dX3_leastOfAll_11 : decode cX3_leastOfAll 11 = .ok (.aload_n 0, 1) := by decide +kernel
theorem dX3_leastOfAll_12 : decode cX3_leastOfAll 12 = .ok (.getfield 9, 3) := by decide +kernel
theorem dX3_leastOfAll_15 : decode cX3_leastOfAll 15 = .ok (.iload_n 2, 1) := by decide +kernel
theorem dX3_leastOfAll_16 : decode cX3_leastOfAll 16 = .ok (.iaload, 1) := by decide +kernel
theorem dX3_leastOfAll_17 : decode cX3_leastOfAll 17 = .ok (.invokestatic 24, 3) := by decide +kernel
theorem dX3_leastOfAll_20 : decode cX3_leastOfAll 20 = .ok (.istore_n 1, 1) := by decide +kernel
theorem dX3_leastOfAll_21 : decode cX3_leastOfAll 21 = .ok (.iinc 2 1, 3) := by decide +kernel
theorem dX3_leastOfAll_24 : decode cX3_leastOfAll 24 = .ok (.goto (-19), 3) := by decide +kernel
theorem dX3_leastOfAll_27 : decode cX3_leastOfAll 27 = .ok (.iload_n 1, 1) := by decide +kernel
theorem dX3_leastOfAll_28 : decode cX3_leastOfAll 28 = .ok (.ireturn, 1) := by decide +kernel
theorem dX4_init_0 : decode cX4_init 0 = .ok (.aload_n 0, 1) := by decide +kernel
theorem dX4_init_1 : decode cX4_init 1 = .ok (.invokespecial 3, 3) := by decide +kernel
theorem dX4_init_4 : decode cX4_init 4 = .ok (.aload_n 0, 1) := by decide +kernel
theorem dX4_init_5 : decode cX4_init 5 = .ok (.bipush 36, 2) := by decide +kernel
theorem dX4_init_7 : decode cX4_init 7 = .ok (.newarray .int, 2) := by decide +kernel
theorem dX4_init_9 : decode cX4_init 9 = .ok (.putfield 9, 3) := by decide +kernel
theorem dX4_init_12 : decode cX4_init 12 = .ok (.aload_n 0, 1) := by decide +kernel
theorem dX4_init_13 : decode cX4_init 13 = .ok (.bipush 64, 2) := by decide +kernel
theorem dX4_init_15 : decode cX4_init 15 = .ok (.newarray .int, 2) := by decide +kernel
theorem dX4_init_17 : decode cX4_init 17 = .ok (.putfield 15, 3) := by decide +kernel
theorem dX4_init_20 : decode cX4_init 20 = .ok (.return_, 1) := by decide +kernel
theorem dX4_changeHarm_0 : decode cX4_changeHarm 0 = .ok (.iload_n 1, 1) := by decide +kernel
theorem dX4_changeHarm_1 : decode cX4_changeHarm 1 = .ok (.bipush 6, 2) := by decide +kernel
theorem dX4_changeHarm_3 : decode cX4_changeHarm 3 = .ok (.imul, 1) := by decide +kernel
theorem dX4_changeHarm_4 : decode cX4_changeHarm 4 = .ok (.iload_n 2, 1) := by decide +kernel
theorem dX4_changeHarm_5 : decode cX4_changeHarm 5 = .ok (.iadd, 1) := by decide +kernel
theorem dX4_changeHarm_6 : decode cX4_changeHarm 6 = .ok (.istore 4, 2) := by decide +kernel
theorem dX4_changeHarm_8 : decode cX4_changeHarm 8 = .ok (.iload 4, 2) := by decide +kernel
theorem dX4_changeHarm_10 : decode cX4_changeHarm 10 = .ok (.iconst 0, 1) := by decide +kernel
theorem dX4_changeHarm_11 : decode cX4_changeHarm 11 = .ok (.aload_n 0, 1) := by decide +kernel
theorem dX4_changeHarm_12 : decode cX4_changeHarm 12 = .ok (.getfield 9, 3) := by decide +kernel
theorem dX4_changeHarm_15 : decode cX4_changeHarm 15 = .ok (.arraylength, 1) := by decide +kernel
theorem dX4_changeHarm_16 : decode cX4_changeHarm 16 = .ok (.iconst 1, 1) := by decide +kernel
theorem dX4_changeHarm_17 : decode cX4_changeHarm 17 = .ok (.isub, 1) := by decide +kernel
theorem dX4_changeHarm_18 : decode cX4_changeHarm 18 = .ok (.invokestatic 18, 3) := by decide +kernel
theorem dX4_changeHarm_21 : decode cX4_changeHarm 21 = .ok (.ifCond .ne 5, 3) := by decide +kernel
theorem dX4_changeHarm_24 : decode cX4_changeHarm 24 = .ok (.iconst 0, 1) := by decide +kernel
theorem dX4_changeHarm_25 : decode cX4_changeHarm 25 = .ok (.ireturn, 1) := by decide +kernel
theorem dX4_changeHarm_26 : decode cX4_changeHarm 26 = .ok (.aload_n 0, 1) := by decide +kernel
theorem dX4_changeHarm_27 : decode cX4_changeHarm 27 = .ok (.getfield 9, 3) := by decide +kernel
theorem dX4_changeHarm_30 : decode cX4_changeHarm 30 = .ok (.iload 4, 2) := by decide +kernel
theorem dX4_changeHarm_32 : decode cX4_changeHarm 32 = .ok (.iaload, 1) := by decide +kernel
theorem dX4_changeHarm_33 : decode cX4_changeHarm 33 = .ok (.istore 5, 2) := by decide +kernel
theorem dX4_changeHarm_35 : decode cX4_changeHarm 35 = .ok (.aload_n 0, 1) := by decide +kernel
theorem dX4_changeHarm_36 : decode cX4_changeHarm 36 = .ok (.getfield 9, 3) := by decide +kernel
theorem dX4_changeHarm_39 : decode cX4_changeHarm 39 = .ok (.iload 4, 2) := by decide +kernel
theorem dX4_changeHarm_41 : decode cX4_changeHarm 41 = .ok (.iload_n 3, 1) := by decide +kernel
theorem dX4_changeHarm_42 : decode cX4_changeHarm 42 = .ok (.iastore, 1) := by decide +kernel
theorem dX4_changeHarm_43 : decode cX4_changeHarm 43 = .ok (.iload 5, 2) := by decide +kernel
theorem dX4_changeHarm_45 : decode cX4_changeHarm 45 = .ok (.ireturn, 1) := by decide +kernel
theorem dX4_leastHarm_0 : decode cX4_leastHarm 0 = .ok (.iconst 1, 1) := by decide +kernel
theorem dX4_leastHarm_1 : decode cX4_leastHarm 1 = .ok (.iload_n 1, 1) := by decide +kernel
theorem dX4_leastHarm_2 : decode cX4_leastHarm 2 = .ok (.ishl, 1) := by decide +kernel
theorem dX4_leastHarm_3 : decode cX4_leastHarm 3 = .ok (.iconst 1, 1) := by decide +kernel
theorem dX4_leastHarm_4 : decode cX4_leastHarm 4 = .ok (.isub, 1) := by decide +kernel
theorem dX4_leastHarm_5 : decode cX4_leastHarm 5 = .ok (.istore 4, 2) := by decide +kernel
theorem dX4_leastHarm_7 : decode cX4_leastHarm 7 = .ok (.iload 4, 2) := by decide +kernel
theorem dX4_leastHarm_9 : decode cX4_leastHarm 9 = .ok (.bipush 63, 2) := by decide +kernel
theorem dX4_leastHarm_11 : decode cX4_leastHarm 11 = .ok (.invokestatic 22, 3) := by decide +kernel
theorem dX4_leastHarm_14 : decode cX4_leastHarm 14 = .ok (.istore 5, 2) := by decide +kernel
theorem dX4_leastHarm_16 : decode cX4_leastHarm 16 = .ok (.iload 5, 2) := by decide +kernel
theorem dX4_leastHarm_18 : decode cX4_leastHarm 18 = .ok (.ifCond .lt 105, 3) := by decide +kernel
theorem dX4_leastHarm_21 : decode cX4_leastHarm 21 = .ok (.iload 5, 2) := by decide +kernel
theorem dX4_leastHarm_23 : decode cX4_leastHarm 23 = .ok (.invokestatic 28, 3) := by decide +kernel
theorem dX4_leastHarm_26 : decode cX4_leastHarm 26 = .ok (.istore 6, 2) := by decide +kernel
theorem dX4_leastHarm_28 : decode cX4_leastHarm 28 = .ok (.iload 5, 2) := by decide +kernel
theorem dX4_leastHarm_30 : decode cX4_leastHarm 30 = .ok (.iload 4, 2) := by decide +kernel
theorem dX4_leastHarm_32 : decode cX4_leastHarm 32 = .ok (.if_icmp .ne 7, 3) := by decide +kernel
theorem dX4_leastHarm_35 : decode cX4_leastHarm 35 = .ok (.iconst 0, 1) := by decide +kernel
theorem dX4_leastHarm_36 : decode cX4_leastHarm 36 = .ok (.goto 5, 3) := by decide +kernel
theorem dX4_leastHarm_39 : decode cX4_leastHarm 39 = .ok (.ldc 34, 2) := by decide +kernel
theorem dX4_leastHarm_41 : decode cX4_leastHarm 41 = .ok (.istore 7, 2) := by decide +kernel
theorem dX4_leastHarm_43 : decode cX4_leastHarm 43 = .ok (.iconst 0, 1) := by decide +kernel
theorem dX4_leastHarm_44 : decode cX4_leastHarm 44 = .ok (.istore 8, 2) := by decide +kernel
theorem dX4_leastHarm_46 : decode cX4_leastHarm 46 = .ok (.iload 8, 2) := by decide +kernel
theorem dX4_leastHarm_48 : decode cX4_leastHarm 48 = .ok (.iload_n 1, 1) := by decide +kernel
theorem dX4_leastHarm_49 : decode cX4_leastHarm 49 = .ok (.if_icmp .ge 59, 3) := by decide +kernel
theorem dX4_leastHarm_52 : decode cX4_leastHarm 52 = .ok (.iload 6, 2) := by decide +kernel
theorem dX4_leastHarm_54 : decode cX4_leastHarm 54 = .ok (.iload_n 2, 1) := by decide +kernel
theorem dX4_leastHarm_55 : decode cX4_leastHarm 55 = .ok (.if_icmp .ne 7, 3) := by decide +kernel
theorem dX4_leastHarm_58 : decode cX4_leastHarm 58 = .ok (.iconst 1, 1) := by decide +kernel
theorem dX4_leastHarm_59 : decode cX4_leastHarm 59 = .ok (.goto 4, 3) := by decide +kernel
theorem dX4_leastHarm_62 : decode cX4_leastHarm 62 = .ok (.iconst 0, 1) := by decide +kernel
theorem dX4_leastHarm_63 : decode cX4_leastHarm 63 = .ok (.istore 9, 2) := by decide +kernel
theorem dX4_leastHarm_65 : decode cX4_leastHarm 65 = .ok (.iload 8, 2) := by decide +kernel
theorem dX4_leastHarm_67 : decode cX4_leastHarm 67 = .ok (.iload_n 3, 1) := by decide +kernel
theorem dX4_leastHarm_68 : decode cX4_leastHarm 68 = .ok (.if_icmp .ne 7, 3) := by decide +kernel
theorem dX4_leastHarm_71 : decode cX4_leastHarm 71 = .ok (.iconst 1, 1) := by decide +kernel
theorem dX4_leastHarm_72 : decode cX4_leastHarm 72 = .ok (.goto 4, 3) := by decide +kernel
theorem dX4_leastHarm_75 : decode cX4_leastHarm 75 = .ok (.iconst 0, 1) := by decide +kernel
theorem dX4_leastHarm_76 : decode cX4_leastHarm 76 = .ok (.istore 10, 2) := by decide +kernel
theorem dX4_leastHarm_78 : decode cX4_leastHarm 78 = .ok (.iload 9, 2) := by decide +kernel
theorem dX4_leastHarm_80 : decode cX4_leastHarm 80 = .ok (.iload 10, 2) := by decide +kernel
theorem dX4_leastHarm_82 : decode cX4_leastHarm 82 = .ok (.if_icmp .ne 20, 3) := by decide +kernel
theorem dX4_leastHarm_85 : decode cX4_leastHarm 85 = .ok (.iload 7, 2) := by decide +kernel
theorem dX4_leastHarm_87 : decode cX4_leastHarm 87 = .ok (.aload_n 0, 1) := by decide +kernel
theorem dX4_leastHarm_88 : decode cX4_leastHarm 88 = .ok (.iload 5, 2) := by decide +kernel
theorem dX4_leastHarm_90 : decode cX4_leastHarm 90 = .ok (.iload 6, 2) := by decide +kernel
theorem dX4_leastHarm_92 : decode cX4_leastHarm 92 = .ok (.iload 8, 2) := by decide +kernel
theorem dX4_leastHarm_94 : decode cX4_leastHarm 94 = .ok (.invokevirtual 35, 3) := by decide +kernel
theorem dX4_leastHarm_97 : decode cX4_leastHarm 97 = .ok (.invokestatic 22, 3) := by decide +kernel
theorem dX4_leastHarm_100 : decode cX4_leastHarm 100 = .ok (.istore 7, 2) := by decide +kernel
theorem dX4_leastHarm_102 : decode cX4_leastHarm 102 = .ok (.iinc 8 1, 3) := by decide +kernel
theorem dX4_leastHarm_105 : decode cX4_leastHarm 105 = .ok (.goto (-59), 3) := by decide +kernel
theorem dX4_leastHarm_108 : decode cX4_leastHarm 108 = .ok (.aload_n 0, 1) := by decide +kernel
theorem dX4_leastHarm_109 : decode cX4_leastHarm 109 = .ok (.getfield 15, 3) := by decide +kernel
theorem dX4_leastHarm_112 : decode cX4_leastHarm 112 = .ok (.iload 5, 2) := by decide +kernel
theorem dX4_leastHarm_114 : decode cX4_leastHarm 114 = .ok (.iload 7, 2) := by decide +kernel
theorem dX4_leastHarm_116 : decode cX4_leastHarm 116 = .ok (.iastore, 1) := by decide +kernel
theorem dX4_leastHarm_117 : decode cX4_leastHarm 117 = .ok (.iinc 5 (-1), 3) := by decide +kernel
theorem dX4_leastHarm_120 : decode cX4_leastHarm 120 = .ok (.goto (-104), 3) := by decide +kernel
theorem dX4_leastHarm_123 : decode cX4_leastHarm 123 = .ok (.aload_n 0, 1) := by decide +kernel
theorem dX4_leastHarm_124 : decode cX4_leastHarm 124 = .ok (.getfield 15, 3) := by decide +kernel
theorem dX4_leastHarm_127 : decode cX4_leastHarm 127 = .ok (.iconst 0, 1) := by decide +kernel
theorem dX4_leastHarm_128 : decode cX4_leastHarm 128 = .ok (.iaload, 1) := by decide +kernel
theorem dX4_leastHarm_129 : decode cX4_leastHarm 129 = .ok (.ireturn, 1) := by decide +kernel
theorem dX4_leastWith_0 : decode cX4_leastWith 0 = .ok (.iload_n 2, 1) := by decide +kernel
theorem dX4_leastWith_1 : decode cX4_leastWith 1 = .ok (.bipush 6, 2) := by decide +kernel
theorem dX4_leastWith_3 : decode cX4_leastWith 3 = .ok (.imul, 1) := by decide +kernel
theorem dX4_leastWith_4 : decode cX4_leastWith 4 = .ok (.iload_n 3, 1) := by decide +kernel
theorem dX4_leastWith_5 : decode cX4_leastWith 5 = .ok (.iadd, 1) := by decide +kernel
theorem dX4_leastWith_6 : decode cX4_leastWith 6 = .ok (.istore 4, 2) := by decide +kernel
theorem dX4_leastWith_8 : decode cX4_leastWith 8 = .ok (.iload_n 1, 1) := by decide +kernel
theorem dX4_leastWith_9 : decode cX4_leastWith 9 = .ok (.iconst 1, 1) := by decide +kernel
theorem dX4_leastWith_10 : decode cX4_leastWith 10 = .ok (.iload_n 3, 1) := by decide +kernel
theorem dX4_leastWith_11 : decode cX4_leastWith 11 = .ok (.ishl, 1) := by decide +kernel
theorem dX4_leastWith_12 : decode cX4_leastWith 12 = .ok (.ior, 1) := by decide +kernel
theorem dX4_leastWith_13 : decode cX4_leastWith 13 = .ok (.istore 5, 2) := by decide +kernel
theorem dX4_leastWith_15 : decode cX4_leastWith 15 = .ok (.iload 5, 2) := by decide +kernel
theorem dX4_leastWith_17 : decode cX4_leastWith 17 = .ok (.iload_n 1, 1) := by decide +kernel
theorem dX4_leastWith_18 : decode cX4_leastWith 18 = .ok (.if_icmp .eq 14, 3) := by decide +kernel
theorem dX4_leastWith_21 : decode cX4_leastWith 21 = .ok (.iload 5, 2) := by decide +kernel
theorem dX4_leastWith_23 : decode cX4_leastWith 23 = .ok (.iconst 0, 1) := by decide +kernel
theorem dX4_leastWith_24 : decode cX4_leastWith 24 = .ok (.bipush 63, 2) := by decide +kernel
theorem dX4_leastWith_26 : decode cX4_leastWith 26 = .ok (.invokestatic 18, 3) := by decide +kernel
theorem dX4_leastWith_29 : decode cX4_leastWith 29 = .ok (.ifCond .ne 6, 3) := by decide +kernel
theorem dX4_leastWith_32 : decode cX4_leastWith 32 = .ok (.ldc 34, 2) := by decide +kernel
theorem dX4_leastWith_34 : decode cX4_leastWith 34 = .ok (.ireturn, 1) := by decide +kernel
theorem dX4_leastWith_35 : decode cX4_leastWith 35 = .ok (.iload 4, 2) := by decide +kernel
theorem dX4_leastWith_37 : decode cX4_leastWith 37 = .ok (.iconst 0, 1) := by decide +kernel
theorem dX4_leastWith_38 : decode cX4_leastWith 38 = .ok (.aload_n 0, 1) := by decide +kernel
theorem dX4_leastWith_39 : decode cX4_leastWith 39 = .ok (.getfield 9, 3) := by decide +kernel
theorem dX4_leastWith_42 : decode cX4_leastWith 42 = .ok (.arraylength, 1) := by decide +kernel
theorem dX4_leastWith_43 : decode cX4_leastWith 43 = .ok (.iconst 1, 1) := by decide +kernel
theorem dX4_leastWith_44 : decode cX4_leastWith 44 = .ok (.isub, 1) := by decide +kernel
theorem dX4_leastWith_45 : decode cX4_leastWith 45 = .ok (.invokestatic 18, 3) := by decide +kernel
theorem dX4_leastWith_48 : decode cX4_leastWith 48 = .ok (.ifCond .ne 6, 3) := by decide +kernel
theorem dX4_leastWith_51 : decode cX4_leastWith 51 = .ok (.ldc 34, 2) := by decide +kernel
theorem dX4_leastWith_53 : decode cX4_leastWith 53 = .ok (.ireturn, 1) := by decide +kernel
theorem dX4_leastWith_54 : decode cX4_leastWith 54 = .ok (.aload_n 0, 1) := by decide +kernel
theorem dX4_leastWith_55 : decode cX4_leastWith 55 = .ok (.getfield 9, 3) := by decide +kernel
theorem dX4_leastWith_58 : decode cX4_leastWith 58 = .ok (.iload 4, 2) := by decide +kernel
theorem dX4_leastWith_60 : decode cX4_leastWith 60 = .ok (.iaload, 1) := by decide +kernel
theorem dX4_leastWith_61 : decode cX4_leastWith 61 = .ok (.aload_n 0, 1) := by decide +kernel
theorem dX4_leastWith_62 : decode cX4_leastWith 62 = .ok (.getfield 15, 3) := by decide +kernel
theorem dX4_leastWith_65 : decode cX4_leastWith 65 = .ok (.iload 5, 2) := by decide +kernel
theorem dX4_leastWith_67 : decode cX4_leastWith 67 = .ok (.iaload, 1) := by decide +kernel
theorem dX4_leastWith_68 : decode cX4_leastWith 68 = .ok (.iadd, 1) := by decide +kernel
theorem dX4_leastWith_69 : decode cX4_leastWith 69 = .ok (.ldc 34, 2) := by decide +kernel
theorem dX4_leastWith_71 : decode cX4_leastWith 71 = .ok (.invokestatic 22, 3) := by decide +kernel
theorem dX4_leastWith_74 : decode cX4_leastWith 74 = .ok (.ireturn, 1) := by decide +kernel
theorem dX4_partnerOf_0 : decode cX4_partnerOf 0 = .ok (.aload_n 0, 1) := by decide +kernel
theorem dX4_partnerOf_1 : decode cX4_partnerOf 1 = .ok (.iload_n 1, 1) := by decide +kernel
theorem dX4_partnerOf_2 : decode cX4_partnerOf 2 = .ok (.iconst (-1), 1) := by decide +kernel
theorem dX4_partnerOf_3 : decode cX4_partnerOf 3 = .ok (.iconst (-1), 1) := by decide +kernel
theorem dX4_partnerOf_4 : decode cX4_partnerOf 4 = .ok (.invokevirtual 39, 3) := by decide +kernel
theorem dX4_partnerOf_7 : decode cX4_partnerOf 7 = .ok (.pop, 1) := by decide +kernel
theorem dX4_partnerOf_8 : decode cX4_partnerOf 8 = .ok (.iconst 0, 1) := by decide +kernel
theorem dX4_partnerOf_9 : decode cX4_partnerOf 9 = .ok (.istore_n 3, 1) := by decide +kernel
theorem dX4_partnerOf_10 : decode cX4_partnerOf 10 = .ok (.iconst (-1), 1) := by decide +kernel
theorem dX4_partnerOf_11 : decode cX4_partnerOf 11 = .ok (.istore 4, 2) := by decide +kernel
theorem dX4_partnerOf_13 : decode cX4_partnerOf 13 = .ok (.iconst 0, 1) := by decide +kernel
theorem dX4_partnerOf_14 : decode cX4_partnerOf 14 = .ok (.istore 5, 2) := by decide +kernel
theorem dX4_partnerOf_16 : decode cX4_partnerOf 16 = .ok (.iload 5, 2) := by decide +kernel
theorem dX4_partnerOf_18 : decode cX4_partnerOf 18 = .ok (.iload_n 2, 1) := by decide +kernel
theorem dX4_partnerOf_19 : decode cX4_partnerOf 19 = .ok (.if_icmp .gt 26, 3) := by decide +kernel
theorem dX4_partnerOf_22 : decode cX4_partnerOf 22 = .ok (.aload_n 0, 1) := by decide +kernel
theorem dX4_partnerOf_23 : decode cX4_partnerOf 23 = .ok (.iload_n 1, 1) := by decide +kernel
theorem dX4_partnerOf_24 : decode cX4_partnerOf 24 = .ok (.iload_n 3, 1) := by decide +kernel
theorem dX4_partnerOf_25 : decode cX4_partnerOf 25 = .ok (.iload 5, 2) := by decide +kernel
theorem dX4_partnerOf_27 : decode cX4_partnerOf 27 = .ok (.invokevirtual 42, 3) := by decide +kernel
theorem dX4_partnerOf_30 : decode cX4_partnerOf 30 = .ok (.istore 4, 2) := by decide +kernel
theorem dX4_partnerOf_32 : decode cX4_partnerOf 32 = .ok (.iload_n 3, 1) := by decide +kernel
theorem dX4_partnerOf_33 : decode cX4_partnerOf 33 = .ok (.iconst 1, 1) := by decide +kernel
theorem dX4_partnerOf_34 : decode cX4_partnerOf 34 = .ok (.iload 4, 2) := by decide +kernel
theorem dX4_partnerOf_36 : decode cX4_partnerOf 36 = .ok (.ishl, 1) := by decide +kernel
theorem dX4_partnerOf_37 : decode cX4_partnerOf 37 = .ok (.ior, 1) := by decide +kernel
theorem dX4_partnerOf_38 : decode cX4_partnerOf 38 = .ok (.istore_n 3, 1) := by decide +kernel
theorem dX4_partnerOf_39 : decode cX4_partnerOf 39 = .ok (.iinc 5 1, 3) := by decide +kernel
theorem dX4_partnerOf_42 : decode cX4_partnerOf 42 = .ok (.goto (-26), 3) := by decide +kernel
theorem dX4_partnerOf_45 : decode cX4_partnerOf 45 = .ok (.iload 4, 2) := by decide +kernel
theorem dX4_partnerOf_47 : decode cX4_partnerOf 47 = .ok (.ireturn, 1) := by decide +kernel
theorem dX4_firstBest_0 : decode cX4_firstBest 0 = .ok (.iconst 0, 1) := by decide +kernel
theorem dX4_firstBest_1 : decode cX4_firstBest 1 = .ok (.istore 4, 2) := by decide +kernel
theorem dX4_firstBest_3 : decode cX4_firstBest 3 = .ok (.iload 4, 2) := by decide +kernel
theorem dX4_firstBest_5 : decode cX4_firstBest 5 = .ok (.iload_n 1, 1) := by decide +kernel
theorem dX4_firstBest_6 : decode cX4_firstBest 6 = .ok (.if_icmp .ge 43, 3) := by decide +kernel
theorem dX4_firstBest_9 : decode cX4_firstBest 9 = .ok (.iload_n 2, 1) := by decide +kernel
theorem dX4_firstBest_10 : decode cX4_firstBest 10 = .ok (.iconst 0, 1) := by decide +kernel
theorem dX4_firstBest_11 : decode cX4_firstBest 11 = .ok (.bipush 63, 2) := by decide +kernel
theorem dX4_firstBest_13 : decode cX4_firstBest 13 = .ok (.invokestatic 18, 3) := by decide +kernel
theorem dX4_firstBest_16 : decode cX4_firstBest 16 = .ok (.istore 5, 2) := by decide +kernel
theorem dX4_firstBest_18 : decode cX4_firstBest 18 = .ok (.iload 5, 2) := by decide +kernel
theorem dX4_firstBest_20 : decode cX4_firstBest 20 = .ok (.ifCond .eq 23, 3) := by decide +kernel
theorem dX4_firstBest_23 : decode cX4_firstBest 23 = .ok (.aload_n 0, 1) := by decide +kernel
theorem dX4_firstBest_24 : decode cX4_firstBest 24 = .ok (.iload_n 2, 1) := by decide +kernel
theorem dX4_firstBest_25 : decode cX4_firstBest 25 = .ok (.iload_n 3, 1) := by decide +kernel
theorem dX4_firstBest_26 : decode cX4_firstBest 26 = .ok (.iload 4, 2) := by decide +kernel
theorem dX4_firstBest_28 : decode cX4_firstBest 28 = .ok (.invokevirtual 35, 3) := by decide +kernel
theorem dX4_firstBest_31 : decode cX4_firstBest 31 = .ok (.aload_n 0, 1) := by decide +kernel
theorem dX4_firstBest_32 : decode cX4_firstBest 32 = .ok (.getfield 15, 3) := by decide +kernel
theorem dX4_firstBest_35 : decode cX4_firstBest 35 = .ok (.iload_n 2, 1) := by decide +kernel
theorem dX4_firstBest_36 : decode cX4_firstBest 36 = .ok (.iaload, 1) := by decide +kernel
theorem dX4_firstBest_37 : decode cX4_firstBest 37 = .ok (.if_icmp .ne 6, 3) := by decide +kernel
theorem dX4_firstBest_40 : decode cX4_firstBest 40 = .ok (.iload 4, 2) := by decide +kernel
theorem dX4_firstBest_42 : decode cX4_firstBest 42 = .ok (.ireturn, 1) := by decide +kernel
theorem dX4_firstBest_43 : decode cX4_firstBest 43 = .ok (.iinc 4 1, 3) := by decide +kernel
theorem dX4_firstBest_46 : decode cX4_firstBest 46 = .ok (.goto (-43), 3) := by decide +kernel
theorem dX4_firstBest_49 : decode cX4_firstBest 49 = .ok (.iconst 0, 1) := by decide +kernel
theorem dX4_firstBest_50 : decode cX4_firstBest 50 = .ok (.ireturn, 1) := by decide +kernel
theorem dX5_init_0 : decode cX5_init 0 = .ok (.aload_n 0, 1) := by decide +kernel
theorem dX5_init_1 : decode cX5_init 1 = .ok (.invokespecial 3, 3) := by decide +kernel
theorem dX5_init_4 : decode cX5_init 4 = .ok (.aload_n 0, 1) := by decide +kernel
theorem dX5_init_5 : decode cX5_init 5 = .ok (.sipush 10050, 3) := by decide +kernel
theorem dX5_init_8 : decode cX5_init 8 = .ok (.newarray .int, 2) := by decide +kernel
theorem dX5_init_10 : decode cX5_init 10 = .ok (.putfield 11, 3) := by decide +kernel
theorem dX5_init_13 : decode cX5_init 13 = .ok (.aload_n 0, 1) := by decide +kernel
theorem dX5_init_14 : decode cX5_init 14 = .ok (.bipush 41, 2) := by decide +kernel
theorem dX5_init_16 : decode cX5_init 16 = .ok (.newarray .int, 2) := by decide +kernel
theorem dX5_init_18 : decode cX5_init 18 = .ok (.putfield 15, 3) := by decide +kernel
theorem dX5_init_21 : decode cX5_init 21 = .ok (.aload_n 0, 1) := by decide +kernel
theorem dX5_init_22 : decode cX5_init 22 = .ok (.iconst 2, 1) := by decide +kernel
theorem dX5_init_23 : decode cX5_init 23 = .ok (.newarray .boolean, 2) := by decide +kernel
theorem dX5_init_25 : decode cX5_init 25 = .ok (.putfield 18, 3) := by decide +kernel
theorem dX5_init_28 : decode cX5_init 28 = .ok (.aload_n 0, 1) := by decide +kernel
theorem dX5_init_29 : decode cX5_init 29 = .ok (.aload_n 1, 1) := by decide +kernel
theorem dX5_init_30 : decode cX5_init 30 = .ok (.putfield 22, 3) := by decide +kernel
theorem dX5_init_33 : decode cX5_init 33 = .ok (.return_, 1) := by decide +kernel
theorem dX5_forget_0 : decode cX5_forget 0 = .ok (.aload_n 0, 1) := by decide +kernel
theorem dX5_forget_1 : decode cX5_forget 1 = .ok (.getfield 18, 3) := by decide +kernel
theorem dX5_forget_4 : decode cX5_forget 4 = .ok (.iconst 0, 1) := by decide +kernel
theorem dX5_forget_5 : decode cX5_forget 5 = .ok (.iconst 0, 1) := by decide +kernel
theorem dX5_forget_6 : decode cX5_forget 6 = .ok (.bastore, 1) := by decide +kernel
theorem dX5_forget_7 : decode cX5_forget 7 = .ok (.aload_n 0, 1) := by decide +kernel
theorem dX5_forget_8 : decode cX5_forget 8 = .ok (.getfield 18, 3) := by decide +kernel
theorem dX5_forget_11 : decode cX5_forget 11 = .ok (.iconst 1, 1) := by decide +kernel
theorem dX5_forget_12 : decode cX5_forget 12 = .ok (.iconst 0, 1) := by decide +kernel
theorem dX5_forget_13 : decode cX5_forget 13 = .ok (.bastore, 1) := by decide +kernel
theorem dX5_forget_14 : decode cX5_forget 14 = .ok (.return_, 1) := by decide +kernel
theorem dX5_greatestWorth_0 : decode cX5_greatestWorth 0 = .ok (.iload_n 1, 1) := by decide +kernel
theorem dX5_greatestWorth_1 : decode cX5_greatestWorth 1 = .ok (.iconst 0, 1) := by decide +kernel
theorem dX5_greatestWorth_2 : decode cX5_greatestWorth 2 = .ok (.iconst 1, 1) := by decide +kernel
theorem dX5_greatestWorth_3 : decode cX5_greatestWorth 3 = .ok (.invokestatic 26, 3) := by decide +kernel
theorem dX5_greatestWorth_6 : decode cX5_greatestWorth 6 = .ok (.ifCond .ne 5, 3) := by decide +kernel
theorem dX5_greatestWorth_9 : decode cX5_greatestWorth 9 = .ok (.iconst (-1), 1) := by decide +kernel
theorem dX5_greatestWorth_10 : decode cX5_greatestWorth 10 = .ok (.ireturn, 1) := by decide +kernel
theorem dX5_greatestWorth_11 : decode cX5_greatestWorth 11 = .ok (.aload_n 0, 1) := by decide +kernel
theorem dX5_greatestWorth_12 : decode cX5_greatestWorth 12 = .ok (.getfield 18, 3) := by decide +kernel
theorem dX5_greatestWorth_15 : decode cX5_greatestWorth 15 = .ok (.iload_n 1, 1) := by decide +kernel
theorem dX5_greatestWorth_16 : decode cX5_greatestWorth 16 = .ok (.baload, 1) := by decide +kernel
theorem dX5_greatestWorth_17 : decode cX5_greatestWorth 17 = .ok (.ifCond .ne 8, 3) := by decide +kernel
theorem dX5_greatestWorth_20 : decode cX5_greatestWorth 20 = .ok (.aload_n 0, 1) := by decide +kernel
theorem dX5_greatestWorth_21 : decode cX5_greatestWorth 21 = .ok (.iload_n 1, 1) := by decide +kernel
theorem dX5_greatestWorth_22 : decode cX5_greatestWorth 22 = .ok (.invokevirtual 30, 3) := by decide +kernel
theorem dX5_greatestWorth_25 : decode cX5_greatestWorth 25 = .ok (.aload_n 0, 1) := by decide +kernel
theorem dX5_greatestWorth_26 : decode cX5_greatestWorth 26 = .ok (.getfield 18, 3) := by decide +kernel
theorem dX5_greatestWorth_29 : decode cX5_greatestWorth 29 = .ok (.iload_n 1, 1) := by decide +kernel
theorem dX5_greatestWorth_30 : decode cX5_greatestWorth 30 = .ok (.iconst 1, 1) := by decide +kernel
theorem dX5_greatestWorth_31 : decode cX5_greatestWorth 31 = .ok (.bastore, 1) := by decide +kernel
theorem dX5_greatestWorth_32 : decode cX5_greatestWorth 32 = .ok (.aload_n 0, 1) := by decide +kernel
theorem dX5_greatestWorth_33 : decode cX5_greatestWorth 33 = .ok (.aload_n 0, 1) := by decide +kernel
theorem dX5_greatestWorth_34 : decode cX5_greatestWorth 34 = .ok (.iload_n 1, 1) := by decide +kernel
theorem dX5_greatestWorth_35 : decode cX5_greatestWorth 35 = .ok (.iconst 0, 1) := by decide +kernel
theorem dX5_greatestWorth_36 : decode cX5_greatestWorth 36 = .ok (.iconst 0, 1) := by decide +kernel
theorem dX5_greatestWorth_37 : decode cX5_greatestWorth 37 = .ok (.invokevirtual 34, 3) := by decide +kernel
theorem dX5_greatestWorth_40 : decode cX5_greatestWorth 40 = .ok (.iload_n 2, 1) := by decide +kernel
theorem dX5_greatestWorth_41 : decode cX5_greatestWorth 41 = .ok (.invokevirtual 38, 3) := by decide +kernel
theorem dX5_greatestWorth_44 : decode cX5_greatestWorth 44 = .ok (.ireturn, 1) := by decide +kernel
theorem dX5_rowOf_0 : decode cX5_rowOf 0 = .ok (.iload_n 1, 1) := by decide +kernel
theorem dX5_rowOf_1 : decode cX5_rowOf 1 = .ok (.bipush 25, 2) := by decide +kernel
theorem dX5_rowOf_3 : decode cX5_rowOf 3 = .ok (.imul, 1) := by decide +kernel
theorem dX5_rowOf_4 : decode cX5_rowOf 4 = .ok (.iload_n 2, 1) := by decide +kernel
theorem dX5_rowOf_5 : decode cX5_rowOf 5 = .ok (.aload_n 0, 1) := by decide +kernel
theorem dX5_rowOf_6 : decode cX5_rowOf 6 = .ok (.getfield 22, 3) := by decide +kernel
theorem dX5_rowOf_9 : decode cX5_rowOf 9 = .ok (.getfield 42, 3) := by decide +kernel
theorem dX5_rowOf_12 : decode cX5_rowOf 12 = .ok (.imul, 1) := by decide +kernel
theorem dX5_rowOf_13 : decode cX5_rowOf 13 = .ok (.iadd, 1) := by decide +kernel
theorem dX5_rowOf_14 : decode cX5_rowOf 14 = .ok (.iload_n 3, 1) := by decide +kernel
theorem dX5_rowOf_15 : decode cX5_rowOf 15 = .ok (.iadd, 1) := by decide +kernel
theorem dX5_rowOf_16 : decode cX5_rowOf 16 = .ok (.sipush 201, 3) := by decide +kernel
theorem dX5_rowOf_19 : decode cX5_rowOf 19 = .ok (.imul, 1) := by decide +kernel
theorem dX5_rowOf_20 : decode cX5_rowOf 20 = .ok (.ireturn, 1) := by decide +kernel
theorem dX5_bestFrom_0 : decode cX5_bestFrom 0 = .ok (.iload_n 1, 1) := by decide +kernel
theorem dX5_bestFrom_1 : decode cX5_bestFrom 1 = .ok (.iload_n 2, 1) := by decide +kernel
theorem dX5_bestFrom_2 : decode cX5_bestFrom 2 = .ok (.iconst 0, 1) := by decide +kernel
theorem dX5_bestFrom_3 : decode cX5_bestFrom 3 = .ok (.invokestatic 48, 3) := by decide +kernel
theorem dX5_bestFrom_6 : decode cX5_bestFrom 6 = .ok (.iadd, 1) := by decide +kernel
theorem dX5_bestFrom_7 : decode cX5_bestFrom 7 = .ok (.istore_n 3, 1) := by decide +kernel
theorem dX5_bestFrom_8 : decode cX5_bestFrom 8 = .ok (.iload_n 3, 1) := by decide +kernel
theorem dX5_bestFrom_9 : decode cX5_bestFrom 9 = .ok (.iconst 0, 1) := by decide +kernel
theorem dX5_bestFrom_10 : decode cX5_bestFrom 10 = .ok (.aload_n 0, 1) := by decide +kernel
theorem dX5_bestFrom_11 : decode cX5_bestFrom 11 = .ok (.getfield 11, 3) := by decide +kernel
theorem dX5_bestFrom_14 : decode cX5_bestFrom 14 = .ok (.arraylength, 1) := by decide +kernel
theorem dX5_bestFrom_15 : decode cX5_bestFrom 15 = .ok (.iconst 1, 1) := by decide +kernel
theorem dX5_bestFrom_16 : decode cX5_bestFrom 16 = .ok (.isub, 1) := by decide +kernel
theorem dX5_bestFrom_17 : decode cX5_bestFrom 17 = .ok (.invokestatic 26, 3) := by decide +kernel
theorem dX5_bestFrom_20 : decode cX5_bestFrom 20 = .ok (.ifCond .eq 12, 3) := by decide +kernel
theorem dX5_bestFrom_23 : decode cX5_bestFrom 23 = .ok (.aload_n 0, 1) := by decide +kernel
theorem dX5_bestFrom_24 : decode cX5_bestFrom 24 = .ok (.getfield 11, 3) := by decide +kernel
theorem dX5_bestFrom_27 : decode cX5_bestFrom 27 = .ok (.iload_n 3, 1) := by decide +kernel
theorem dX5_bestFrom_28 : decode cX5_bestFrom 28 = .ok (.iaload, 1) := by decide +kernel
theorem dX5_bestFrom_29 : decode cX5_bestFrom 29 = .ok (.goto 4, 3) := by decide +kernel
theorem dX5_bestFrom_32 : decode cX5_bestFrom 32 = .ok (.iconst (-1), 1) := by decide +kernel
theorem dX5_bestFrom_33 : decode cX5_bestFrom 33 = .ok (.ireturn, 1) := by decide +kernel
theorem dX5_reckon_0 : decode cX5_reckon 0 = .ok (.aload_n 0, 1) := by decide +kernel
theorem dX5_reckon_1 : decode cX5_reckon 1 = .ok (.aload_n 0, 1) := by decide +kernel
theorem dX5_reckon_2 : decode cX5_reckon 2 = .ok (.iload_n 1, 1) := by decide +kernel
theorem dX5_reckon_3 : decode cX5_reckon 3 = .ok (.aload_n 0, 1) := by decide +kernel
theorem dX5_reckon_4 : decode cX5_reckon 4 = .ok (.getfield 22, 3) := by decide +kernel
theorem dX5_reckon_7 : decode cX5_reckon 7 = .ok (.getfield 53, 3) := by decide +kernel
theorem dX5_reckon_10 : decode cX5_reckon 10 = .ok (.iconst 0, 1) := by decide +kernel
theorem dX5_reckon_11 : decode cX5_reckon 11 = .ok (.invokevirtual 34, 3) := by decide +kernel
theorem dX5_reckon_14 : decode cX5_reckon 14 = .ok (.invokevirtual 56, 3) := by decide +kernel
theorem dX5_reckon_17 : decode cX5_reckon 17 = .ok (.aload_n 0, 1) := by decide +kernel
theorem dX5_reckon_18 : decode cX5_reckon 18 = .ok (.aload_n 0, 1) := by decide +kernel
theorem dX5_reckon_19 : decode cX5_reckon 19 = .ok (.iload_n 1, 1) := by decide +kernel
theorem dX5_reckon_20 : decode cX5_reckon 20 = .ok (.aload_n 0, 1) := by decide +kernel
theorem dX5_reckon_21 : decode cX5_reckon 21 = .ok (.getfield 22, 3) := by decide +kernel
theorem dX5_reckon_24 : decode cX5_reckon 24 = .ok (.getfield 53, 3) := by decide +kernel
theorem dX5_reckon_27 : decode cX5_reckon 27 = .ok (.iconst 0, 1) := by decide +kernel
theorem dX5_reckon_28 : decode cX5_reckon 28 = .ok (.invokevirtual 34, 3) := by decide +kernel
theorem dX5_reckon_31 : decode cX5_reckon 31 = .ok (.iconst 0, 1) := by decide +kernel
theorem dX5_reckon_32 : decode cX5_reckon 32 = .ok (.iconst 0, 1) := by decide +kernel
theorem dX5_reckon_33 : decode cX5_reckon 33 = .ok (.invokevirtual 59, 3) := by decide +kernel
theorem dX5_reckon_36 : decode cX5_reckon 36 = .ok (.aload_n 0, 1) := by decide +kernel
theorem dX5_reckon_37 : decode cX5_reckon 37 = .ok (.getfield 22, 3) := by decide +kernel
theorem dX5_reckon_40 : decode cX5_reckon 40 = .ok (.getfield 53, 3) := by decide +kernel
theorem dX5_reckon_43 : decode cX5_reckon 43 = .ok (.iconst 1, 1) := by decide +kernel
theorem dX5_reckon_44 : decode cX5_reckon 44 = .ok (.isub, 1) := by decide +kernel
theorem dX5_reckon_45 : decode cX5_reckon 45 = .ok (.istore_n 2, 1) := by decide +kernel
theorem dX5_reckon_46 : decode cX5_reckon 46 = .ok (.iload_n 2, 1) := by decide +kernel
theorem dX5_reckon_47 : decode cX5_reckon 47 = .ok (.ifCond .lt 47, 3) := by decide +kernel
theorem dX5_reckon_50 : decode cX5_reckon 50 = .ok (.aload_n 0, 1) := by decide +kernel
theorem dX5_reckon_51 : decode cX5_reckon 51 = .ok (.getfield 22, 3) := by decide +kernel
theorem dX5_reckon_54 : decode cX5_reckon 54 = .ok (.getfield 42, 3) := by decide +kernel
theorem dX5_reckon_57 : decode cX5_reckon 57 = .ok (.iconst 1, 1) := by decide +kernel
theorem dX5_reckon_58 : decode cX5_reckon 58 = .ok (.isub, 1) := by decide +kernel
theorem dX5_reckon_59 : decode cX5_reckon 59 = .ok (.istore_n 3, 1) := by decide +kernel
theorem dX5_reckon_60 : decode cX5_reckon 60 = .ok (.iload_n 3, 1) := by decide +kernel
theorem dX5_reckon_61 : decode cX5_reckon 61 = .ok (.ifCond .lt 27, 3) := by decide +kernel
theorem dX5_reckon_64 : decode cX5_reckon 64 = .ok (.aload_n 0, 1) := by decide +kernel
theorem dX5_reckon_65 : decode cX5_reckon 65 = .ok (.iload_n 1, 1) := by decide +kernel
theorem dX5_reckon_66 : decode cX5_reckon 66 = .ok (.iload_n 2, 1) := by decide +kernel
theorem dX5_reckon_67 : decode cX5_reckon 67 = .ok (.iload_n 3, 1) := by decide +kernel
theorem dX5_reckon_68 : decode cX5_reckon 68 = .ok (.invokevirtual 63, 3) := by decide +kernel
theorem dX5_reckon_71 : decode cX5_reckon 71 = .ok (.aload_n 0, 1) := by decide +kernel
theorem dX5_reckon_72 : decode cX5_reckon 72 = .ok (.aload_n 0, 1) := by decide +kernel
theorem dX5_reckon_73 : decode cX5_reckon 73 = .ok (.iload_n 1, 1) := by decide +kernel
theorem dX5_reckon_74 : decode cX5_reckon 74 = .ok (.iload_n 2, 1) := by decide +kernel
theorem dX5_reckon_75 : decode cX5_reckon 75 = .ok (.iload_n 3, 1) := by decide +kernel
theorem dX5_reckon_76 : decode cX5_reckon 76 = .ok (.invokevirtual 34, 3) := by decide +kernel
theorem dX5_reckon_79 : decode cX5_reckon 79 = .ok (.invokevirtual 66, 3) := by decide +kernel
theorem dX5_reckon_82 : decode cX5_reckon 82 = .ok (.iinc 3 (-1), 3) := by decide +kernel
theorem dX5_reckon_85 : decode cX5_reckon 85 = .ok (.goto (-25), 3) := by decide +kernel
theorem dX5_reckon_88 : decode cX5_reckon 88 = .ok (.iinc 2 (-1), 3) := by decide +kernel
theorem dX5_reckon_91 : decode cX5_reckon 91 = .ok (.goto (-45), 3) := by decide +kernel
theorem dX5_reckon_94 : decode cX5_reckon 94 = .ok (.return_, 1) := by decide +kernel
theorem dX5_reckonRow_0 : decode cX5_reckonRow 0 = .ok (.iconst (-1), 1) := by decide +kernel
theorem dX5_reckonRow_1 : decode cX5_reckonRow 1 = .ok (.istore_n 2, 1) := by decide +kernel
theorem dX5_reckonRow_2 : decode cX5_reckonRow 2 = .ok (.aload_n 0, 1) := by decide +kernel
theorem dX5_reckonRow_3 : decode cX5_reckonRow 3 = .ok (.iload_n 1, 1) := by decide +kernel
theorem dX5_reckonRow_4 : decode cX5_reckonRow 4 = .ok (.invokevirtual 56, 3) := by decide +kernel
theorem dX5_reckonRow_7 : decode cX5_reckonRow 7 = .ok (.bipush 40, 2) := by decide +kernel
theorem dX5_reckonRow_9 : decode cX5_reckonRow 9 = .ok (.istore_n 3, 1) := by decide +kernel
theorem dX5_reckonRow_10 : decode cX5_reckonRow 10 = .ok (.iload_n 3, 1) := by decide +kernel
theorem dX5_reckonRow_11 : decode cX5_reckonRow 11 = .ok (.ifCond .lt 36, 3) := by decide +kernel
theorem dX5_reckonRow_14 : decode cX5_reckonRow 14 = .ok (.aload_n 0, 1) := by decide +kernel
theorem dX5_reckonRow_15 : decode cX5_reckonRow 15 = .ok (.getfield 15, 3) := by decide +kernel
theorem dX5_reckonRow_18 : decode cX5_reckonRow 18 = .ok (.iload_n 3, 1) := by decide +kernel
theorem dX5_reckonRow_19 : decode cX5_reckonRow 19 = .ok (.iaload, 1) := by decide +kernel
theorem dX5_reckonRow_20 : decode cX5_reckonRow 20 = .ok (.iload_n 2, 1) := by decide +kernel
theorem dX5_reckonRow_21 : decode cX5_reckonRow 21 = .ok (.if_icmp .gt 6, 3) := by decide +kernel
theorem dX5_reckonRow_24 : decode cX5_reckonRow 24 = .ok (.goto 17, 3) := by decide +kernel
theorem dX5_reckonRow_27 : decode cX5_reckonRow 27 = .ok (.aload_n 0, 1) := by decide +kernel
theorem dX5_reckonRow_28 : decode cX5_reckonRow 28 = .ok (.getfield 15, 3) := by decide +kernel
theorem dX5_reckonRow_31 : decode cX5_reckonRow 31 = .ok (.iload_n 3, 1) := by decide +kernel
theorem dX5_reckonRow_32 : decode cX5_reckonRow 32 = .ok (.iaload, 1) := by decide +kernel
theorem dX5_reckonRow_33 : decode cX5_reckonRow 33 = .ok (.istore_n 2, 1) := by decide +kernel
theorem dX5_reckonRow_34 : decode cX5_reckonRow 34 = .ok (.aload_n 0, 1) := by decide +kernel
theorem dX5_reckonRow_35 : decode cX5_reckonRow 35 = .ok (.iload_n 1, 1) := by decide +kernel
theorem dX5_reckonRow_36 : decode cX5_reckonRow 36 = .ok (.iload_n 3, 1) := by decide +kernel
theorem dX5_reckonRow_37 : decode cX5_reckonRow 37 = .ok (.iload_n 2, 1) := by decide +kernel
theorem dX5_reckonRow_38 : decode cX5_reckonRow 38 = .ok (.invokevirtual 69, 3) := by decide +kernel
theorem dX5_reckonRow_41 : decode cX5_reckonRow 41 = .ok (.iinc 3 (-1), 3) := by decide +kernel
theorem dX5_reckonRow_44 : decode cX5_reckonRow 44 = .ok (.goto (-34), 3) := by decide +kernel
theorem dX5_reckonRow_47 : decode cX5_reckonRow 47 = .ok (.return_, 1) := by decide +kernel
theorem dX5_findWorths_0 : decode cX5_findWorths 0 = .ok (.aload_n 0, 1) := by decide +kernel
theorem dX5_findWorths_1 : decode cX5_findWorths 1 = .ok (.getfield 15, 3) := by decide +kernel
theorem dX5_findWorths_4 : decode cX5_findWorths 4 = .ok (.iconst (-1), 1) := by decide +kernel
theorem dX5_findWorths_5 : decode cX5_findWorths 5 = .ok (.invokestatic 72, 3) := by decide +kernel
theorem dX5_findWorths_8 : decode cX5_findWorths 8 = .ok (.iconst 0, 1) := by decide +kernel
theorem dX5_findWorths_9 : decode cX5_findWorths 9 = .ok (.istore 4, 2) := by decide +kernel
theorem dX5_findWorths_11 : decode cX5_findWorths 11 = .ok (.iload 4, 2) := by decide +kernel
theorem dX5_findWorths_13 : decode cX5_findWorths 13 = .ok (.iconst 5, 1) := by decide +kernel
theorem dX5_findWorths_14 : decode cX5_findWorths 14 = .ok (.if_icmp .gt 91, 3) := by decide +kernel
theorem dX5_findWorths_17 : decode cX5_findWorths 17 = .ok (.iconst 0, 1) := by decide +kernel
theorem dX5_findWorths_18 : decode cX5_findWorths 18 = .ok (.istore 5, 2) := by decide +kernel
theorem dX5_findWorths_20 : decode cX5_findWorths 20 = .ok (.iload 5, 2) := by decide +kernel
theorem dX5_findWorths_22 : decode cX5_findWorths 22 = .ok (.iconst 5, 1) := by decide +kernel
theorem dX5_findWorths_23 : decode cX5_findWorths 23 = .ok (.if_icmp .gt 76, 3) := by decide +kernel
theorem dX5_findWorths_26 : decode cX5_findWorths 26 = .ok (.aload_n 0, 1) := by decide +kernel
theorem dX5_findWorths_27 : decode cX5_findWorths 27 = .ok (.iload_n 1, 1) := by decide +kernel
theorem dX5_findWorths_28 : decode cX5_findWorths 28 = .ok (.iload_n 2, 1) := by decide +kernel
theorem dX5_findWorths_29 : decode cX5_findWorths 29 = .ok (.iload_n 3, 1) := by decide +kernel
theorem dX5_findWorths_30 : decode cX5_findWorths 30 = .ok (.iload 4, 2) := by decide +kernel
theorem dX5_findWorths_32 : decode cX5_findWorths 32 = .ok (.iload 5, 2) := by decide +kernel
theorem dX5_findWorths_34 : decode cX5_findWorths 34 = .ok (.invokevirtual 78, 3) := by decide +kernel
theorem dX5_findWorths_37 : decode cX5_findWorths 37 = .ok (.ifCond .ne 6, 3) := by decide +kernel
theorem dX5_findWorths_40 : decode cX5_findWorths 40 = .ok (.goto 53, 3) := by decide +kernel
theorem dX5_findWorths_43 : decode cX5_findWorths 43 = .ok (.aload_n 0, 1) := by decide +kernel
theorem dX5_findWorths_44 : decode cX5_findWorths 44 = .ok (.iload_n 2, 1) := by decide +kernel
theorem dX5_findWorths_45 : decode cX5_findWorths 45 = .ok (.iload 4, 2) := by decide +kernel
theorem dX5_findWorths_47 : decode cX5_findWorths 47 = .ok (.iload 5, 2) := by decide +kernel
theorem dX5_findWorths_49 : decode cX5_findWorths 49 = .ok (.invokevirtual 82, 3) := by decide +kernel
theorem dX5_findWorths_52 : decode cX5_findWorths 52 = .ok (.istore 6, 2) := by decide +kernel
theorem dX5_findWorths_54 : decode cX5_findWorths 54 = .ok (.iload 6, 2) := by decide +kernel
theorem dX5_findWorths_56 : decode cX5_findWorths 56 = .ok (.iconst 0, 1) := by decide +kernel
theorem dX5_findWorths_57 : decode cX5_findWorths 57 = .ok (.bipush 40, 2) := by decide +kernel
theorem dX5_findWorths_59 : decode cX5_findWorths 59 = .ok (.invokestatic 26, 3) := by decide +kernel
theorem dX5_findWorths_62 : decode cX5_findWorths 62 = .ok (.ifCond .ne 6, 3) := by decide +kernel
theorem dX5_findWorths_65 : decode cX5_findWorths 65 = .ok (.goto 28, 3) := by decide +kernel
theorem dX5_findWorths_68 : decode cX5_findWorths 68 = .ok (.aload_n 0, 1) := by decide +kernel
theorem dX5_findWorths_69 : decode cX5_findWorths 69 = .ok (.getfield 15, 3) := by decide +kernel
theorem dX5_findWorths_72 : decode cX5_findWorths 72 = .ok (.iload 6, 2) := by decide +kernel
theorem dX5_findWorths_74 : decode cX5_findWorths 74 = .ok (.aload_n 0, 1) := by decide +kernel
theorem dX5_findWorths_75 : decode cX5_findWorths 75 = .ok (.getfield 15, 3) := by decide +kernel
theorem dX5_findWorths_78 : decode cX5_findWorths 78 = .ok (.iload 6, 2) := by decide +kernel
theorem dX5_findWorths_80 : decode cX5_findWorths 80 = .ok (.iaload, 1) := by decide +kernel
theorem dX5_findWorths_81 : decode cX5_findWorths 81 = .ok (.aload_n 0, 1) := by decide +kernel
theorem dX5_findWorths_82 : decode cX5_findWorths 82 = .ok (.iload 4, 2) := by decide +kernel
theorem dX5_findWorths_84 : decode cX5_findWorths 84 = .ok (.iload 5, 2) := by decide +kernel
theorem dX5_findWorths_86 : decode cX5_findWorths 86 = .ok (.invokevirtual 85, 3) := by decide +kernel
theorem dX5_findWorths_89 : decode cX5_findWorths 89 = .ok (.invokestatic 48, 3) := by decide +kernel
theorem dX5_findWorths_92 : decode cX5_findWorths 92 = .ok (.iastore, 1) := by decide +kernel
theorem dX5_findWorths_93 : decode cX5_findWorths 93 = .ok (.iinc 5 1, 3) := by decide +kernel
theorem dX5_findWorths_96 : decode cX5_findWorths 96 = .ok (.goto (-76), 3) := by decide +kernel
theorem dX5_findWorths_99 : decode cX5_findWorths 99 = .ok (.iinc 4 1, 3) := by decide +kernel
theorem dX5_findWorths_102 : decode cX5_findWorths 102 = .ok (.goto (-91), 3) := by decide +kernel
theorem dX5_findWorths_105 : decode cX5_findWorths 105 = .ok (.return_, 1) := by decide +kernel
theorem dX5_offerAll_0 : decode cX5_offerAll 0 = .ok (.iconst 0, 1) := by decide +kernel
theorem dX5_offerAll_1 : decode cX5_offerAll 1 = .ok (.istore 4, 2) := by decide +kernel
theorem dX5_offerAll_3 : decode cX5_offerAll 3 = .ok (.iload 4, 2) := by decide +kernel
theorem dX5_offerAll_5 : decode cX5_offerAll 5 = .ok (.sipush 201, 3) := by decide +kernel
theorem dX5_offerAll_8 : decode cX5_offerAll 8 = .ok (.if_icmp .ge 42, 3) := by decide +kernel
theorem dX5_offerAll_11 : decode cX5_offerAll 11 = .ok (.aload_n 0, 1) := by decide +kernel
theorem dX5_offerAll_12 : decode cX5_offerAll 12 = .ok (.iload_n 1, 1) := by decide +kernel
theorem dX5_offerAll_13 : decode cX5_offerAll 13 = .ok (.sipush 201, 3) := by decide +kernel
theorem dX5_offerAll_16 : decode cX5_offerAll 16 = .ok (.iadd, 1) := by decide +kernel
theorem dX5_offerAll_17 : decode cX5_offerAll 17 = .ok (.iload 4, 2) := by decide +kernel
theorem dX5_offerAll_19 : decode cX5_offerAll 19 = .ok (.iload_n 2, 1) := by decide +kernel
theorem dX5_offerAll_20 : decode cX5_offerAll 20 = .ok (.isub, 1) := by decide +kernel
theorem dX5_offerAll_21 : decode cX5_offerAll 21 = .ok (.invokevirtual 38, 3) := by decide +kernel
theorem dX5_offerAll_24 : decode cX5_offerAll 24 = .ok (.istore 5, 2) := by decide +kernel
theorem dX5_offerAll_26 : decode cX5_offerAll 26 = .ok (.iload 5, 2) := by decide +kernel
theorem dX5_offerAll_28 : decode cX5_offerAll 28 = .ok (.iconst (-1), 1) := by decide +kernel
theorem dX5_offerAll_29 : decode cX5_offerAll 29 = .ok (.if_icmp .ne 4, 3) := by decide +kernel
theorem dX5_offerAll_32 : decode cX5_offerAll 32 = .ok (.return_, 1) := by decide +kernel
theorem dX5_offerAll_33 : decode cX5_offerAll 33 = .ok (.aload_n 0, 1) := by decide +kernel
theorem dX5_offerAll_34 : decode cX5_offerAll 34 = .ok (.iload_n 1, 1) := by decide +kernel
theorem dX5_offerAll_35 : decode cX5_offerAll 35 = .ok (.iload 4, 2) := by decide +kernel
theorem dX5_offerAll_37 : decode cX5_offerAll 37 = .ok (.iload 5, 2) := by decide +kernel
theorem dX5_offerAll_39 : decode cX5_offerAll 39 = .ok (.iload_n 3, 1) := by decide +kernel
theorem dX5_offerAll_40 : decode cX5_offerAll 40 = .ok (.iadd, 1) := by decide +kernel
theorem dX5_offerAll_41 : decode cX5_offerAll 41 = .ok (.invokevirtual 59, 3) := by decide +kernel
theorem dX5_offerAll_44 : decode cX5_offerAll 44 = .ok (.iinc 4 1, 3) := by decide +kernel
theorem dX5_offerAll_47 : decode cX5_offerAll 47 = .ok (.goto (-44), 3) := by decide +kernel
theorem dX5_offerAll_50 : decode cX5_offerAll 50 = .ok (.return_, 1) := by decide +kernel
theorem dX5_clearRow_0 : decode cX5_clearRow 0 = .ok (.iconst 0, 1) := by decide +kernel
theorem dX5_clearRow_1 : decode cX5_clearRow 1 = .ok (.istore_n 2, 1) := by decide +kernel
theorem dX5_clearRow_2 : decode cX5_clearRow 2 = .ok (.iload_n 2, 1) := by decide +kernel
theorem dX5_clearRow_3 : decode cX5_clearRow 3 = .ok (.sipush 201, 3) := by decide +kernel
theorem dX5_clearRow_6 : decode cX5_clearRow 6 = .ok (.if_icmp .ge 35, 3) := by decide +kernel
theorem dX5_clearRow_9 : decode cX5_clearRow 9 = .ok (.iload_n 1, 1) := by decide +kernel
theorem dX5_clearRow_10 : decode cX5_clearRow 10 = .ok (.iload_n 2, 1) := by decide +kernel
theorem dX5_clearRow_11 : decode cX5_clearRow 11 = .ok (.iadd, 1) := by decide +kernel
theorem dX5_clearRow_12 : decode cX5_clearRow 12 = .ok (.istore_n 3, 1) := by decide +kernel
theorem dX5_clearRow_13 : decode cX5_clearRow 13 = .ok (.iload_n 3, 1) := by decide +kernel
theorem dX5_clearRow_14 : decode cX5_clearRow 14 = .ok (.iconst 0, 1) := by decide +kernel
theorem dX5_clearRow_15 : decode cX5_clearRow 15 = .ok (.aload_n 0, 1) := by decide +kernel
theorem dX5_clearRow_16 : decode cX5_clearRow 16 = .ok (.getfield 11, 3) := by decide +kernel
theorem dX5_clearRow_19 : decode cX5_clearRow 19 = .ok (.arraylength, 1) := by decide +kernel
theorem dX5_clearRow_20 : decode cX5_clearRow 20 = .ok (.iconst 1, 1) := by decide +kernel
theorem dX5_clearRow_21 : decode cX5_clearRow 21 = .ok (.isub, 1) := by decide +kernel
theorem dX5_clearRow_22 : decode cX5_clearRow 22 = .ok (.invokestatic 26, 3) := by decide +kernel
theorem dX5_clearRow_25 : decode cX5_clearRow 25 = .ok (.ifCond .eq 10, 3) := by decide +kernel
theorem dX5_clearRow_28 : decode cX5_clearRow 28 = .ok (.aload_n 0, 1) := by decide +kernel
theorem dX5_clearRow_29 : decode cX5_clearRow 29 = .ok (.getfield 11, 3) := by decide +kernel
theorem dX5_clearRow_32 : decode cX5_clearRow 32 = .ok (.iload_n 3, 1) := by decide +kernel
theorem dX5_clearRow_33 : decode cX5_clearRow 33 = .ok (.iconst (-1), 1) := by decide +kernel
theorem dX5_clearRow_34 : decode cX5_clearRow 34 = .ok (.iastore, 1) := by decide +kernel
theorem dX5_clearRow_35 : decode cX5_clearRow 35 = .ok (.iinc 2 1, 3) := by decide +kernel
theorem dX5_clearRow_38 : decode cX5_clearRow 38 = .ok (.goto (-36), 3) := by decide +kernel
theorem dX5_clearRow_41 : decode cX5_clearRow 41 = .ok (.return_, 1) := by decide +kernel
theorem dX5_offer_0 : decode cX5_offer 0 = .ok (.iload_n 1, 1) := by decide +kernel
theorem dX5_offer_1 : decode cX5_offer 1 = .ok (.iload_n 2, 1) := by decide +kernel
theorem dX5_offer_2 : decode cX5_offer 2 = .ok (.iadd, 1) := by decide +kernel
theorem dX5_offer_3 : decode cX5_offer 3 = .ok (.istore 4, 2) := by decide +kernel
theorem dX5_offer_5 : decode cX5_offer 5 = .ok (.iload 4, 2) := by decide +kernel
theorem dX5_offer_7 : decode cX5_offer 7 = .ok (.iconst 0, 1) := by decide +kernel
theorem dX5_offer_8 : decode cX5_offer 8 = .ok (.aload_n 0, 1) := by decide +kernel
theorem dX5_offer_9 : decode cX5_offer 9 = .ok (.getfield 11, 3) := by decide +kernel
theorem dX5_offer_12 : decode cX5_offer 12 = .ok (.arraylength, 1) := by decide +kernel
theorem dX5_offer_13 : decode cX5_offer 13 = .ok (.iconst 1, 1) := by decide +kernel
theorem dX5_offer_14 : decode cX5_offer 14 = .ok (.isub, 1) := by decide +kernel
theorem dX5_offer_15 : decode cX5_offer 15 = .ok (.invokestatic 26, 3) := by decide +kernel
theorem dX5_offer_18 : decode cX5_offer 18 = .ok (.ifCond .eq 22, 3) := by decide +kernel
theorem dX5_offer_21 : decode cX5_offer 21 = .ok (.aload_n 0, 1) := by decide +kernel
theorem dX5_offer_22 : decode cX5_offer 22 = .ok (.getfield 11, 3) := by decide +kernel
theorem dX5_offer_25 : decode cX5_offer 25 = .ok (.iload 4, 2) := by decide +kernel
theorem dX5_offer_27 : decode cX5_offer 27 = .ok (.iaload, 1) := by decide +kernel
theorem dX5_offer_28 : decode cX5_offer 28 = .ok (.iload_n 3, 1) := by decide +kernel
theorem dX5_offer_29 : decode cX5_offer 29 = .ok (.if_icmp .ge 11, 3) := by decide +kernel
theorem dX5_offer_32 : decode cX5_offer 32 = .ok (.aload_n 0, 1) := by decide +kernel
theorem dX5_offer_33 : decode cX5_offer 33 = .ok (.getfield 11, 3) := by decide +kernel
theorem dX5_offer_36 : decode cX5_offer 36 = .ok (.iload 4, 2) := by decide +kernel
theorem dX5_offer_38 : decode cX5_offer 38 = .ok (.iload_n 3, 1) := by decide +kernel
theorem dX5_offer_39 : decode cX5_offer 39 = .ok (.iastore, 1) := by decide +kernel
theorem dX5_offer_40 : decode cX5_offer 40 = .ok (.return_, 1) := by decide +kernel
theorem dX5_isAllowed_0 : decode cX5_isAllowed 0 = .ok (.aload_n 0, 1) := by decide +kernel
theorem dX5_isAllowed_1 : decode cX5_isAllowed 1 = .ok (.getfield 22, 3) := by decide +kernel
theorem dX5_isAllowed_4 : decode cX5_isAllowed 4 = .ok (.iconst 0, 1) := by decide +kernel
theorem dX5_isAllowed_5 : decode cX5_isAllowed 5 = .ok (.iload_n 2, 1) := by decide +kernel
theorem dX5_isAllowed_6 : decode cX5_isAllowed 6 = .ok (.iload_n 3, 1) := by decide +kernel
theorem dX5_isAllowed_7 : decode cX5_isAllowed 7 = .ok (.iload 4, 2) := by decide +kernel
theorem dX5_isAllowed_9 : decode cX5_isAllowed 9 = .ok (.invokevirtual 88, 3) := by decide +kernel
theorem dX5_isAllowed_12 : decode cX5_isAllowed 12 = .ok (.ifCond .eq 38, 3) := by decide +kernel
theorem dX5_isAllowed_15 : decode cX5_isAllowed 15 = .ok (.aload_n 0, 1) := by decide +kernel
theorem dX5_isAllowed_16 : decode cX5_isAllowed 16 = .ok (.getfield 22, 3) := by decide +kernel
theorem dX5_isAllowed_19 : decode cX5_isAllowed 19 = .ok (.iconst 1, 1) := by decide +kernel
theorem dX5_isAllowed_20 : decode cX5_isAllowed 20 = .ok (.iload_n 2, 1) := by decide +kernel
theorem dX5_isAllowed_21 : decode cX5_isAllowed 21 = .ok (.iload_n 3, 1) := by decide +kernel
theorem dX5_isAllowed_22 : decode cX5_isAllowed 22 = .ok (.iload 5, 2) := by decide +kernel
theorem dX5_isAllowed_24 : decode cX5_isAllowed 24 = .ok (.invokevirtual 88, 3) := by decide +kernel
theorem dX5_isAllowed_27 : decode cX5_isAllowed 27 = .ok (.ifCond .eq 23, 3) := by decide +kernel
theorem dX5_isAllowed_30 : decode cX5_isAllowed 30 = .ok (.aload_n 0, 1) := by decide +kernel
theorem dX5_isAllowed_31 : decode cX5_isAllowed 31 = .ok (.getfield 22, 3) := by decide +kernel
theorem dX5_isAllowed_34 : decode cX5_isAllowed 34 = .ok (.iload_n 1, 1) := by decide +kernel
theorem dX5_isAllowed_35 : decode cX5_isAllowed 35 = .ok (.iload_n 2, 1) := by decide +kernel
theorem dX5_isAllowed_36 : decode cX5_isAllowed 36 = .ok (.iload 4, 2) := by decide +kernel
theorem dX5_isAllowed_38 : decode cX5_isAllowed 38 = .ok (.iload 5, 2) := by decide +kernel
theorem dX5_isAllowed_40 : decode cX5_isAllowed 40 = .ok (.invokevirtual 92, 3) := by decide +kernel
theorem dX5_isAllowed_43 : decode cX5_isAllowed 43 = .ok (.ifCond .eq 7, 3) := by decide +kernel
theorem dX5_isAllowed_46 : decode cX5_isAllowed 46 = .ok (.iconst 1, 1) := by decide +kernel
theorem dX5_isAllowed_47 : decode cX5_isAllowed 47 = .ok (.goto 4, 3) := by decide +kernel
theorem dX5_isAllowed_50 : decode cX5_isAllowed 50 = .ok (.iconst 0, 1) := by decide +kernel
theorem dX5_isAllowed_51 : decode cX5_isAllowed 51 = .ok (.ireturn, 1) := by decide +kernel
theorem dX5_madeBy_0 : decode cX5_madeBy 0 = .ok (.aload_n 0, 1) := by decide +kernel
theorem dX5_madeBy_1 : decode cX5_madeBy 1 = .ok (.getfield 22, 3) := by decide +kernel
theorem dX5_madeBy_4 : decode cX5_madeBy 4 = .ok (.iconst 0, 1) := by decide +kernel
theorem dX5_madeBy_5 : decode cX5_madeBy 5 = .ok (.iload_n 1, 1) := by decide +kernel
theorem dX5_madeBy_6 : decode cX5_madeBy 6 = .ok (.iload_n 2, 1) := by decide +kernel
theorem dX5_madeBy_7 : decode cX5_madeBy 7 = .ok (.invokevirtual 95, 3) := by decide +kernel
theorem dX5_madeBy_10 : decode cX5_madeBy 10 = .ok (.aload_n 0, 1) := by decide +kernel
theorem dX5_madeBy_11 : decode cX5_madeBy 11 = .ok (.getfield 22, 3) := by decide +kernel
theorem dX5_madeBy_14 : decode cX5_madeBy 14 = .ok (.iconst 1, 1) := by decide +kernel
theorem dX5_madeBy_15 : decode cX5_madeBy 15 = .ok (.iload_n 1, 1) := by decide +kernel
theorem dX5_madeBy_16 : decode cX5_madeBy 16 = .ok (.iload_n 3, 1) := by decide +kernel
theorem dX5_madeBy_17 : decode cX5_madeBy 17 = .ok (.invokevirtual 95, 3) := by decide +kernel
theorem dX5_madeBy_20 : decode cX5_madeBy 20 = .ok (.iadd, 1) := by decide +kernel
theorem dX5_madeBy_21 : decode cX5_madeBy 21 = .ok (.ireturn, 1) := by decide +kernel
theorem dX5_worthOf_0 : decode cX5_worthOf 0 = .ok (.aload_n 0, 1) := by decide +kernel
theorem dX5_worthOf_1 : decode cX5_worthOf 1 = .ok (.getfield 22, 3) := by decide +kernel
theorem dX5_worthOf_4 : decode cX5_worthOf 4 = .ok (.iload_n 1, 1) := by decide +kernel
theorem dX5_worthOf_5 : decode cX5_worthOf 5 = .ok (.invokevirtual 98, 3) := by decide +kernel
theorem dX5_worthOf_8 : decode cX5_worthOf 8 = .ok (.aload_n 0, 1) := by decide +kernel
theorem dX5_worthOf_9 : decode cX5_worthOf 9 = .ok (.getfield 22, 3) := by decide +kernel
theorem dX5_worthOf_12 : decode cX5_worthOf 12 = .ok (.iload_n 2, 1) := by decide +kernel
theorem dX5_worthOf_13 : decode cX5_worthOf 13 = .ok (.invokevirtual 98, 3) := by decide +kernel
theorem dX5_worthOf_16 : decode cX5_worthOf 16 = .ok (.iadd, 1) := by decide +kernel
theorem dX5_worthOf_17 : decode cX5_worthOf 17 = .ok (.ireturn, 1) := by decide +kernel
theorem dX5_follow_0 : decode cX5_follow 0 = .ok (.iconst 0, 1) := by decide +kernel
theorem dX5_follow_1 : decode cX5_follow 1 = .ok (.istore 5, 2) := by decide +kernel
theorem dX5_follow_3 : decode cX5_follow 3 = .ok (.iconst 0, 1) := by decide +kernel
theorem dX5_follow_4 : decode cX5_follow 4 = .ok (.istore 6, 2) := by decide +kernel
theorem dX5_follow_6 : decode cX5_follow 6 = .ok (.iload 6, 2) := by decide +kernel
theorem dX5_follow_8 : decode cX5_follow 8 = .ok (.iload_n 3, 1) := by decide +kernel
theorem dX5_follow_9 : decode cX5_follow 9 = .ok (.if_icmp .gt 83, 3) := by decide +kernel
theorem dX5_follow_12 : decode cX5_follow 12 = .ok (.iload 6, 2) := by decide +kernel
theorem dX5_follow_14 : decode cX5_follow 14 = .ok (.iload_n 3, 1) := by decide +kernel
theorem dX5_follow_15 : decode cX5_follow 15 = .ok (.if_icmp .ne 10, 3) := by decide +kernel
theorem dX5_follow_18 : decode cX5_follow 18 = .ok (.iload 4, 2) := by decide +kernel
theorem dX5_follow_20 : decode cX5_follow 20 = .ok (.iconst 1, 1) := by decide +kernel
theorem dX5_follow_21 : decode cX5_follow 21 = .ok (.iadd, 1) := by decide +kernel
theorem dX5_follow_22 : decode cX5_follow 22 = .ok (.goto 10, 3) := by decide +kernel
theorem dX5_follow_25 : decode cX5_follow 25 = .ok (.aload_n 0, 1) := by decide +kernel
theorem dX5_follow_26 : decode cX5_follow 26 = .ok (.getfield 22, 3) := by decide +kernel
theorem dX5_follow_29 : decode cX5_follow 29 = .ok (.getfield 42, 3) := by decide +kernel
theorem dX5_follow_32 : decode cX5_follow 32 = .ok (.istore 7, 2) := by decide +kernel
theorem dX5_follow_34 : decode cX5_follow 34 = .ok (.iconst 0, 1) := by decide +kernel
theorem dX5_follow_35 : decode cX5_follow 35 = .ok (.istore 8, 2) := by decide +kernel
theorem dX5_follow_37 : decode cX5_follow 37 = .ok (.iload 8, 2) := by decide +kernel
theorem dX5_follow_39 : decode cX5_follow 39 = .ok (.iload 7, 2) := by decide +kernel
theorem dX5_follow_41 : decode cX5_follow 41 = .ok (.if_icmp .ge 45, 3) := by decide +kernel
theorem dX5_follow_44 : decode cX5_follow 44 = .ok (.aload_n 0, 1) := by decide +kernel
theorem dX5_follow_45 : decode cX5_follow 45 = .ok (.iload_n 1, 1) := by decide +kernel
theorem dX5_follow_46 : decode cX5_follow 46 = .ok (.iload 6, 2) := by decide +kernel
theorem dX5_follow_48 : decode cX5_follow 48 = .ok (.iload 8, 2) := by decide +kernel
theorem dX5_follow_50 : decode cX5_follow 50 = .ok (.iload_n 2, 1) := by decide +kernel
theorem dX5_follow_51 : decode cX5_follow 51 = .ok (.iload 5, 2) := by decide +kernel
theorem dX5_follow_53 : decode cX5_follow 53 = .ok (.isub, 1) := by decide +kernel
theorem dX5_follow_54 : decode cX5_follow 54 = .ok (.iconst 0, 1) := by decide +kernel
theorem dX5_follow_55 : decode cX5_follow 55 = .ok (.invokestatic 48, 3) := by decide +kernel
theorem dX5_follow_58 : decode cX5_follow 58 = .ok (.invokevirtual 101, 3) := by decide +kernel
theorem dX5_follow_61 : decode cX5_follow 61 = .ok (.iload 5, 2) := by decide +kernel
theorem dX5_follow_63 : decode cX5_follow 63 = .ok (.aload_n 0, 1) := by decide +kernel
theorem dX5_follow_64 : decode cX5_follow 64 = .ok (.iload 6, 2) := by decide +kernel
theorem dX5_follow_66 : decode cX5_follow 66 = .ok (.aload_n 0, 1) := by decide +kernel
theorem dX5_follow_67 : decode cX5_follow 67 = .ok (.getfield 105, 3) := by decide +kernel
theorem dX5_follow_70 : decode cX5_follow 70 = .ok (.aload_n 0, 1) := by decide +kernel
theorem dX5_follow_71 : decode cX5_follow 71 = .ok (.getfield 108, 3) := by decide +kernel
theorem dX5_follow_74 : decode cX5_follow 74 = .ok (.invokevirtual 82, 3) := by decide +kernel
theorem dX5_follow_77 : decode cX5_follow 77 = .ok (.iadd, 1) := by decide +kernel
theorem dX5_follow_78 : decode cX5_follow 78 = .ok (.istore 5, 2) := by decide +kernel
theorem dX5_follow_80 : decode cX5_follow 80 = .ok (.iinc 8 1, 3) := by decide +kernel
theorem dX5_follow_83 : decode cX5_follow 83 = .ok (.goto (-46), 3) := by decide +kernel
theorem dX5_follow_86 : decode cX5_follow 86 = .ok (.iinc 6 1, 3) := by decide +kernel
theorem dX5_follow_89 : decode cX5_follow 89 = .ok (.goto (-83), 3) := by decide +kernel
theorem dX5_follow_92 : decode cX5_follow 92 = .ok (.iload 5, 2) := by decide +kernel
theorem dX5_follow_94 : decode cX5_follow 94 = .ok (.ireturn, 1) := by decide +kernel
theorem dX5_choose_0 : decode cX5_choose 0 = .ok (.aload_n 0, 1) := by decide +kernel
theorem dX5_choose_1 : decode cX5_choose 1 = .ok (.iload_n 1, 1) := by decide +kernel
theorem dX5_choose_2 : decode cX5_choose 2 = .ok (.iload_n 2, 1) := by decide +kernel
theorem dX5_choose_3 : decode cX5_choose 3 = .ok (.iload_n 3, 1) := by decide +kernel
theorem dX5_choose_4 : decode cX5_choose 4 = .ok (.invokevirtual 34, 3) := by decide +kernel
theorem dX5_choose_7 : decode cX5_choose 7 = .ok (.istore 5, 2) := by decide +kernel
theorem dX5_choose_9 : decode cX5_choose 9 = .ok (.aload_n 0, 1) := by decide +kernel
theorem dX5_choose_10 : decode cX5_choose 10 = .ok (.iload 5, 2) := by decide +kernel
theorem dX5_choose_12 : decode cX5_choose 12 = .ok (.iload 4, 2) := by decide +kernel
theorem dX5_choose_14 : decode cX5_choose 14 = .ok (.invokevirtual 38, 3) := by decide +kernel
theorem dX5_choose_17 : decode cX5_choose 17 = .ok (.istore 6, 2) := by decide +kernel
theorem dX5_choose_19 : decode cX5_choose 19 = .ok (.iconst 0, 1) := by decide +kernel
theorem dX5_choose_20 : decode cX5_choose 20 = .ok (.istore 7, 2) := by decide +kernel
theorem dX5_choose_22 : decode cX5_choose 22 = .ok (.iload 7, 2) := by decide +kernel
theorem dX5_choose_24 : decode cX5_choose 24 = .ok (.iconst 5, 1) := by decide +kernel
theorem dX5_choose_25 : decode cX5_choose 25 = .ok (.if_icmp .gt 103, 3) := by decide +kernel
theorem dX5_choose_28 : decode cX5_choose 28 = .ok (.iconst 0, 1) := by decide +kernel
theorem dX5_choose_29 : decode cX5_choose 29 = .ok (.istore 8, 2) := by decide +kernel
theorem dX5_choose_31 : decode cX5_choose 31 = .ok (.iload 8, 2) := by decide +kernel
theorem dX5_choose_33 : decode cX5_choose 33 = .ok (.iconst 5, 1) := by decide +kernel
theorem dX5_choose_34 : decode cX5_choose 34 = .ok (.if_icmp .gt 88, 3) := by decide +kernel
theorem dX5_choose_37 : decode cX5_choose 37 = .ok (.aload_n 0, 1) := by decide +kernel
theorem dX5_choose_38 : decode cX5_choose 38 = .ok (.iload_n 1, 1) := by decide +kernel
theorem dX5_choose_39 : decode cX5_choose 39 = .ok (.iload_n 2, 1) := by decide +kernel
theorem dX5_choose_40 : decode cX5_choose 40 = .ok (.iload_n 3, 1) := by decide +kernel
theorem dX5_choose_41 : decode cX5_choose 41 = .ok (.iload 7, 2) := by decide +kernel
theorem dX5_choose_43 : decode cX5_choose 43 = .ok (.iload 8, 2) := by decide +kernel
theorem dX5_choose_45 : decode cX5_choose 45 = .ok (.invokevirtual 78, 3) := by decide +kernel
theorem dX5_choose_48 : decode cX5_choose 48 = .ok (.ifCond .ne 6, 3) := by decide +kernel
theorem dX5_choose_51 : decode cX5_choose 51 = .ok (.goto 65, 3) := by decide +kernel
theorem dX5_choose_54 : decode cX5_choose 54 = .ok (.aload_n 0, 1) := by decide +kernel
theorem dX5_choose_55 : decode cX5_choose 55 = .ok (.iload 5, 2) := by decide +kernel
theorem dX5_choose_57 : decode cX5_choose 57 = .ok (.sipush 201, 3) := by decide +kernel
theorem dX5_choose_60 : decode cX5_choose 60 = .ok (.iadd, 1) := by decide +kernel
theorem dX5_choose_61 : decode cX5_choose 61 = .ok (.iload 4, 2) := by decide +kernel
theorem dX5_choose_63 : decode cX5_choose 63 = .ok (.aload_n 0, 1) := by decide +kernel
theorem dX5_choose_64 : decode cX5_choose 64 = .ok (.iload_n 2, 1) := by decide +kernel
theorem dX5_choose_65 : decode cX5_choose 65 = .ok (.iload 7, 2) := by decide +kernel
theorem dX5_choose_67 : decode cX5_choose 67 = .ok (.iload 8, 2) := by decide +kernel
theorem dX5_choose_69 : decode cX5_choose 69 = .ok (.invokevirtual 82, 3) := by decide +kernel
theorem dX5_choose_72 : decode cX5_choose 72 = .ok (.isub, 1) := by decide +kernel
theorem dX5_choose_73 : decode cX5_choose 73 = .ok (.invokevirtual 38, 3) := by decide +kernel
theorem dX5_choose_76 : decode cX5_choose 76 = .ok (.istore 9, 2) := by decide +kernel
theorem dX5_choose_78 : decode cX5_choose 78 = .ok (.iload 9, 2) := by decide +kernel
theorem dX5_choose_80 : decode cX5_choose 80 = .ok (.iconst (-1), 1) := by decide +kernel
theorem dX5_choose_81 : decode cX5_choose 81 = .ok (.if_icmp .eq 35, 3) := by decide +kernel
theorem dX5_choose_84 : decode cX5_choose 84 = .ok (.iload 9, 2) := by decide +kernel
theorem dX5_choose_86 : decode cX5_choose 86 = .ok (.aload_n 0, 1) := by decide +kernel
theorem dX5_choose_87 : decode cX5_choose 87 = .ok (.iload 7, 2) := by decide +kernel
theorem dX5_choose_89 : decode cX5_choose 89 = .ok (.iload 8, 2) := by decide +kernel
theorem dX5_choose_91 : decode cX5_choose 91 = .ok (.invokevirtual 85, 3) := by decide +kernel
theorem dX5_choose_94 : decode cX5_choose 94 = .ok (.iadd, 1) := by decide +kernel
theorem dX5_choose_95 : decode cX5_choose 95 = .ok (.iload 6, 2) := by decide +kernel
theorem dX5_choose_97 : decode cX5_choose 97 = .ok (.if_icmp .eq 6, 3) := by decide +kernel
theorem dX5_choose_100 : decode cX5_choose 100 = .ok (.goto 16, 3) := by decide +kernel
theorem dX5_choose_103 : decode cX5_choose 103 = .ok (.aload_n 0, 1) := by decide +kernel
theorem dX5_choose_104 : decode cX5_choose 104 = .ok (.iload 7, 2) := by decide +kernel
theorem dX5_choose_106 : decode cX5_choose 106 = .ok (.putfield 105, 3) := by decide +kernel
theorem dX5_choose_109 : decode cX5_choose 109 = .ok (.aload_n 0, 1) := by decide +kernel
theorem dX5_choose_110 : decode cX5_choose 110 = .ok (.iload 8, 2) := by decide +kernel
theorem dX5_choose_112 : decode cX5_choose 112 = .ok (.putfield 108, 3) := by decide +kernel
theorem dX5_choose_115 : decode cX5_choose 115 = .ok (.return_, 1) := by decide +kernel
theorem dX5_choose_116 : decode cX5_choose 116 = .ok (.iinc 8 1, 3) := by decide +kernel
theorem dX5_choose_119 : decode cX5_choose 119 = .ok (.goto (-88), 3) := by decide +kernel
theorem dX5_choose_122 : decode cX5_choose 122 = .ok (.iinc 7 1, 3) := by decide +kernel
theorem dX5_choose_125 : decode cX5_choose 125 = .ok (.goto (-103), 3) := by decide +kernel
theorem dX5_choose_128 : decode cX5_choose 128 = .ok (.return_, 1) := by decide +kernel
theorem dX6_init_0 : decode cX6_init 0 = .ok (.aload_n 0, 1) := by decide +kernel
theorem dX6_init_1 : decode cX6_init 1 = .ok (.invokespecial 3, 3) := by decide +kernel
theorem dX6_init_4 : decode cX6_init 4 = .ok (.aload_n 0, 1) := by decide +kernel
theorem dX6_init_5 : decode cX6_init 5 = .ok (.bipush 40, 2) := by decide +kernel
theorem dX6_init_7 : decode cX6_init 7 = .ok (.newarray .boolean, 2) := by decide +kernel
theorem dX6_init_9 : decode cX6_init 9 = .ok (.putfield 9, 3) := by decide +kernel
theorem dX6_init_12 : decode cX6_init 12 = .ok (.aload_n 0, 1) := by decide +kernel
theorem dX6_init_13 : decode cX6_init 13 = .ok (.bipush 82, 2) := by decide +kernel
theorem dX6_init_15 : decode cX6_init 15 = .ok (.newarray .int, 2) := by decide +kernel
theorem dX6_init_17 : decode cX6_init 17 = .ok (.putfield 15, 3) := by decide +kernel
theorem dX6_init_20 : decode cX6_init 20 = .ok (.return_, 1) := by decide +kernel
theorem dX6_append_0 : decode cX6_append 0 = .ok (.aload_n 0, 1) := by decide +kernel
theorem dX6_append_1 : decode cX6_append 1 = .ok (.getfield 19, 3) := by decide +kernel
theorem dX6_append_4 : decode cX6_append 4 = .ok (.ifCond .lt 12, 3) := by decide +kernel
theorem dX6_append_7 : decode cX6_append 7 = .ok (.aload_n 0, 1) := by decide +kernel
theorem dX6_append_8 : decode cX6_append 8 = .ok (.getfield 19, 3) := by decide +kernel
theorem dX6_append_11 : decode cX6_append 11 = .ok (.bipush 40, 2) := by decide +kernel
theorem dX6_append_13 : decode cX6_append 13 = .ok (.if_icmp .lt 4, 3) := by decide +kernel
theorem dX6_append_16 : decode cX6_append 16 = .ok (.return_, 1) := by decide +kernel
theorem dX6_append_17 : decode cX6_append 17 = .ok (.aload_n 0, 1) := by decide +kernel
theorem dX6_append_18 : decode cX6_append 18 = .ok (.getfield 9, 3) := by decide +kernel
theorem dX6_append_21 : decode cX6_append 21 = .ok (.aload_n 0, 1) := by decide +kernel
theorem dX6_append_22 : decode cX6_append 22 = .ok (.getfield 19, 3) := by decide +kernel
theorem dX6_append_25 : decode cX6_append 25 = .ok (.iload_n 1, 1) := by decide +kernel
theorem dX6_append_26 : decode cX6_append 26 = .ok (.bastore, 1) := by decide +kernel
theorem dX6_append_27 : decode cX6_append 27 = .ok (.aload_n 0, 1) := by decide +kernel
theorem dX6_append_28 : decode cX6_append 28 = .ok (.dup, 1) := by decide +kernel
theorem dX6_append_29 : decode cX6_append 29 = .ok (.getfield 19, 3) := by decide +kernel
theorem dX6_append_32 : decode cX6_append 32 = .ok (.iconst 1, 1) := by decide +kernel
theorem dX6_append_33 : decode cX6_append 33 = .ok (.iadd, 1) := by decide +kernel
theorem dX6_append_34 : decode cX6_append 34 = .ok (.putfield 19, 3) := by decide +kernel
theorem dX6_append_37 : decode cX6_append 37 = .ok (.return_, 1) := by decide +kernel
theorem dX6_leastCost_0 : decode cX6_leastCost 0 = .ok (.aload_n 0, 1) := by decide +kernel
theorem dX6_leastCost_1 : decode cX6_leastCost 1 = .ok (.iload_n 1, 1) := by decide +kernel
theorem dX6_leastCost_2 : decode cX6_leastCost 2 = .ok (.iload_n 2, 1) := by decide +kernel
theorem dX6_leastCost_3 : decode cX6_leastCost 3 = .ok (.invokevirtual 23, 3) := by decide +kernel
theorem dX6_leastCost_6 : decode cX6_leastCost 6 = .ok (.bipush 64, 2) := by decide +kernel
theorem dX6_leastCost_8 : decode cX6_leastCost 8 = .ok (.idiv, 1) := by decide +kernel
theorem dX6_leastCost_9 : decode cX6_leastCost 9 = .ok (.ireturn, 1) := by decide +kernel
theorem dX6_fewestSlips_0 : decode cX6_fewestSlips 0 = .ok (.aload_n 0, 1) := by decide +kernel
theorem dX6_fewestSlips_1 : decode cX6_fewestSlips 1 = .ok (.iload_n 1, 1) := by decide +kernel
theorem dX6_fewestSlips_2 : decode cX6_fewestSlips 2 = .ok (.iload_n 2, 1) := by decide +kernel
theorem dX6_fewestSlips_3 : decode cX6_fewestSlips 3 = .ok (.invokevirtual 23, 3) := by decide +kernel
theorem dX6_fewestSlips_6 : decode cX6_fewestSlips 6 = .ok (.bipush 64, 2) := by decide +kernel
theorem dX6_fewestSlips_8 : decode cX6_fewestSlips 8 = .ok (.irem, 1) := by decide +kernel
theorem dX6_fewestSlips_9 : decode cX6_fewestSlips 9 = .ok (.ireturn, 1) := by decide +kernel
theorem dX6_firstSlip_0 : decode cX6_firstSlip 0 = .ok (.aload_n 0, 1) := by decide +kernel
theorem dX6_firstSlip_1 : decode cX6_firstSlip 1 = .ok (.iload_n 1, 1) := by decide +kernel
theorem dX6_firstSlip_2 : decode cX6_firstSlip 2 = .ok (.iload_n 2, 1) := by decide +kernel
theorem dX6_firstSlip_3 : decode cX6_firstSlip 3 = .ok (.invokevirtual 23, 3) := by decide +kernel
theorem dX6_firstSlip_6 : decode cX6_firstSlip 6 = .ok (.istore_n 3, 1) := by decide +kernel
theorem dX6_firstSlip_7 : decode cX6_firstSlip 7 = .ok (.iconst 0, 1) := by decide +kernel
theorem dX6_firstSlip_8 : decode cX6_firstSlip 8 = .ok (.istore 4, 2) := by decide +kernel
theorem dX6_firstSlip_10 : decode cX6_firstSlip 10 = .ok (.iconst (-1), 1) := by decide +kernel
theorem dX6_firstSlip_11 : decode cX6_firstSlip 11 = .ok (.istore 5, 2) := by decide +kernel
theorem dX6_firstSlip_13 : decode cX6_firstSlip 13 = .ok (.iconst 1, 1) := by decide +kernel
theorem dX6_firstSlip_14 : decode cX6_firstSlip 14 = .ok (.istore 6, 2) := by decide +kernel
theorem dX6_firstSlip_16 : decode cX6_firstSlip 16 = .ok (.iload 6, 2) := by decide +kernel
theorem dX6_firstSlip_18 : decode cX6_firstSlip 18 = .ok (.aload_n 0, 1) := by decide +kernel
theorem dX6_firstSlip_19 : decode cX6_firstSlip 19 = .ok (.getfield 19, 3) := by decide +kernel
theorem dX6_firstSlip_22 : decode cX6_firstSlip 22 = .ok (.if_icmp .ge 43, 3) := by decide +kernel
theorem dX6_firstSlip_25 : decode cX6_firstSlip 25 = .ok (.iload 4, 2) := by decide +kernel
theorem dX6_firstSlip_27 : decode cX6_firstSlip 27 = .ok (.aload_n 0, 1) := by decide +kernel
theorem dX6_firstSlip_28 : decode cX6_firstSlip 28 = .ok (.iload 6, 2) := by decide +kernel
theorem dX6_firstSlip_30 : decode cX6_firstSlip 30 = .ok (.iconst 1, 1) := by decide +kernel
theorem dX6_firstSlip_31 : decode cX6_firstSlip 31 = .ok (.isub, 1) := by decide +kernel
theorem dX6_firstSlip_32 : decode cX6_firstSlip 32 = .ok (.iconst 0, 1) := by decide +kernel
theorem dX6_firstSlip_33 : decode cX6_firstSlip 33 = .ok (.iload_n 2, 1) := by decide +kernel
theorem dX6_firstSlip_34 : decode cX6_firstSlip 34 = .ok (.invokevirtual 27, 3) := by decide +kernel
theorem dX6_firstSlip_37 : decode cX6_firstSlip 37 = .ok (.iadd, 1) := by decide +kernel
theorem dX6_firstSlip_38 : decode cX6_firstSlip 38 = .ok (.istore 4, 2) := by decide +kernel
theorem dX6_firstSlip_40 : decode cX6_firstSlip 40 = .ok (.iload 4, 2) := by decide +kernel
theorem dX6_firstSlip_42 : decode cX6_firstSlip 42 = .ok (.aload_n 0, 1) := by decide +kernel
theorem dX6_firstSlip_43 : decode cX6_firstSlip 43 = .ok (.iload 6, 2) := by decide +kernel
theorem dX6_firstSlip_45 : decode cX6_firstSlip 45 = .ok (.iconst 1, 1) := by decide +kernel
theorem dX6_firstSlip_46 : decode cX6_firstSlip 46 = .ok (.iload_n 1, 1) := by decide +kernel
theorem dX6_firstSlip_47 : decode cX6_firstSlip 47 = .ok (.invokevirtual 31, 3) := by decide +kernel
theorem dX6_firstSlip_50 : decode cX6_firstSlip 50 = .ok (.iadd, 1) := by decide +kernel
theorem dX6_firstSlip_51 : decode cX6_firstSlip 51 = .ok (.iload_n 3, 1) := by decide +kernel
theorem dX6_firstSlip_52 : decode cX6_firstSlip 52 = .ok (.if_icmp .ne 7, 3) := by decide +kernel
theorem dX6_firstSlip_55 : decode cX6_firstSlip 55 = .ok (.iload 6, 2) := by decide +kernel
theorem dX6_firstSlip_57 : decode cX6_firstSlip 57 = .ok (.istore 5, 2) := by decide +kernel
theorem dX6_firstSlip_59 : decode cX6_firstSlip 59 = .ok (.iinc 6 1, 3) := by decide +kernel
theorem dX6_firstSlip_62 : decode cX6_firstSlip 62 = .ok (.goto (-46), 3) := by decide +kernel
theorem dX6_firstSlip_65 : decode cX6_firstSlip 65 = .ok (.iload 5, 2) := by decide +kernel
theorem dX6_firstSlip_67 : decode cX6_firstSlip 67 = .ok (.ireturn, 1) := by decide +kernel
theorem dX6_reckon_0 : decode cX6_reckon 0 = .ok (.aload_n 0, 1) := by decide +kernel
theorem dX6_reckon_1 : decode cX6_reckon 1 = .ok (.getfield 15, 3) := by decide +kernel
theorem dX6_reckon_4 : decode cX6_reckon 4 = .ok (.iconst 0, 1) := by decide +kernel
theorem dX6_reckon_5 : decode cX6_reckon 5 = .ok (.invokestatic 34, 3) := by decide +kernel
theorem dX6_reckon_8 : decode cX6_reckon 8 = .ok (.aload_n 0, 1) := by decide +kernel
theorem dX6_reckon_9 : decode cX6_reckon 9 = .ok (.getfield 19, 3) := by decide +kernel
theorem dX6_reckon_12 : decode cX6_reckon 12 = .ok (.iconst 1, 1) := by decide +kernel
theorem dX6_reckon_13 : decode cX6_reckon 13 = .ok (.isub, 1) := by decide +kernel
theorem dX6_reckon_14 : decode cX6_reckon 14 = .ok (.istore_n 3, 1) := by decide +kernel
theorem dX6_reckon_15 : decode cX6_reckon 15 = .ok (.iload_n 3, 1) := by decide +kernel
theorem dX6_reckon_16 : decode cX6_reckon 16 = .ok (.ifCond .lt 92, 3) := by decide +kernel
theorem dX6_reckon_19 : decode cX6_reckon 19 = .ok (.iconst 0, 1) := by decide +kernel
theorem dX6_reckon_20 : decode cX6_reckon 20 = .ok (.istore 4, 2) := by decide +kernel
theorem dX6_reckon_22 : decode cX6_reckon 22 = .ok (.iload 4, 2) := by decide +kernel
theorem dX6_reckon_24 : decode cX6_reckon 24 = .ok (.iconst 2, 1) := by decide +kernel
theorem dX6_reckon_25 : decode cX6_reckon 25 = .ok (.if_icmp .ge 77, 3) := by decide +kernel
theorem dX6_reckon_28 : decode cX6_reckon 28 = .ok (.aload_n 0, 1) := by decide +kernel
theorem dX6_reckon_29 : decode cX6_reckon 29 = .ok (.iload_n 3, 1) := by decide +kernel
theorem dX6_reckon_30 : decode cX6_reckon 30 = .ok (.iconst 1, 1) := by decide +kernel
theorem dX6_reckon_31 : decode cX6_reckon 31 = .ok (.iadd, 1) := by decide +kernel
theorem dX6_reckon_32 : decode cX6_reckon 32 = .ok (.iload 4, 2) := by decide +kernel
theorem dX6_reckon_34 : decode cX6_reckon 34 = .ok (.invokevirtual 40, 3) := by decide +kernel
theorem dX6_reckon_37 : decode cX6_reckon 37 = .ok (.aload_n 0, 1) := by decide +kernel
theorem dX6_reckon_38 : decode cX6_reckon 38 = .ok (.iload_n 3, 1) := by decide +kernel
theorem dX6_reckon_39 : decode cX6_reckon 39 = .ok (.iconst 1, 1) := by decide +kernel
theorem dX6_reckon_40 : decode cX6_reckon 40 = .ok (.iadd, 1) := by decide +kernel
theorem dX6_reckon_41 : decode cX6_reckon 41 = .ok (.iconst 1, 1) := by decide +kernel
theorem dX6_reckon_42 : decode cX6_reckon 42 = .ok (.iload 4, 2) := by decide +kernel
theorem dX6_reckon_44 : decode cX6_reckon 44 = .ok (.isub, 1) := by decide +kernel
theorem dX6_reckon_45 : decode cX6_reckon 45 = .ok (.iload_n 1, 1) := by decide +kernel
theorem dX6_reckon_46 : decode cX6_reckon 46 = .ok (.invokevirtual 31, 3) := by decide +kernel
theorem dX6_reckon_49 : decode cX6_reckon 49 = .ok (.invokestatic 43, 3) := by decide +kernel
theorem dX6_reckon_52 : decode cX6_reckon 52 = .ok (.istore 5, 2) := by decide +kernel
theorem dX6_reckon_54 : decode cX6_reckon 54 = .ok (.iconst 2, 1) := by decide +kernel
theorem dX6_reckon_55 : decode cX6_reckon 55 = .ok (.iload_n 3, 1) := by decide +kernel
theorem dX6_reckon_56 : decode cX6_reckon 56 = .ok (.imul, 1) := by decide +kernel
theorem dX6_reckon_57 : decode cX6_reckon 57 = .ok (.iload 4, 2) := by decide +kernel
theorem dX6_reckon_59 : decode cX6_reckon 59 = .ok (.iadd, 1) := by decide +kernel
theorem dX6_reckon_60 : decode cX6_reckon 60 = .ok (.istore 6, 2) := by decide +kernel
theorem dX6_reckon_62 : decode cX6_reckon 62 = .ok (.iload 6, 2) := by decide +kernel
theorem dX6_reckon_64 : decode cX6_reckon 64 = .ok (.iconst 0, 1) := by decide +kernel
theorem dX6_reckon_65 : decode cX6_reckon 65 = .ok (.aload_n 0, 1) := by decide +kernel
theorem dX6_reckon_66 : decode cX6_reckon 66 = .ok (.getfield 15, 3) := by decide +kernel
theorem dX6_reckon_69 : decode cX6_reckon 69 = .ok (.arraylength, 1) := by decide +kernel
theorem dX6_reckon_70 : decode cX6_reckon 70 = .ok (.iconst 1, 1) := by decide +kernel
theorem dX6_reckon_71 : decode cX6_reckon 71 = .ok (.isub, 1) := by decide +kernel
theorem dX6_reckon_72 : decode cX6_reckon 72 = .ok (.invokestatic 48, 3) := by decide +kernel
theorem dX6_reckon_75 : decode cX6_reckon 75 = .ok (.ifCond .eq 21, 3) := by decide +kernel
theorem dX6_reckon_78 : decode cX6_reckon 78 = .ok (.aload_n 0, 1) := by decide +kernel
theorem dX6_reckon_79 : decode cX6_reckon 79 = .ok (.getfield 15, 3) := by decide +kernel
theorem dX6_reckon_82 : decode cX6_reckon 82 = .ok (.iload 6, 2) := by decide +kernel
theorem dX6_reckon_84 : decode cX6_reckon 84 = .ok (.aload_n 0, 1) := by decide +kernel
theorem dX6_reckon_85 : decode cX6_reckon 85 = .ok (.iload_n 3, 1) := by decide +kernel
theorem dX6_reckon_86 : decode cX6_reckon 86 = .ok (.iload 4, 2) := by decide +kernel
theorem dX6_reckon_88 : decode cX6_reckon 88 = .ok (.iload_n 2, 1) := by decide +kernel
theorem dX6_reckon_89 : decode cX6_reckon 89 = .ok (.invokevirtual 27, 3) := by decide +kernel
theorem dX6_reckon_92 : decode cX6_reckon 92 = .ok (.iload 5, 2) := by decide +kernel
theorem dX6_reckon_94 : decode cX6_reckon 94 = .ok (.iadd, 1) := by decide +kernel
theorem dX6_reckon_95 : decode cX6_reckon 95 = .ok (.iastore, 1) := by decide +kernel
theorem dX6_reckon_96 : decode cX6_reckon 96 = .ok (.iinc 4 1, 3) := by decide +kernel
theorem dX6_reckon_99 : decode cX6_reckon 99 = .ok (.goto (-77), 3) := by decide +kernel
theorem dX6_reckon_102 : decode cX6_reckon 102 = .ok (.iinc 3 (-1), 3) := by decide +kernel
theorem dX6_reckon_105 : decode cX6_reckon 105 = .ok (.goto (-90), 3) := by decide +kernel
theorem dX6_reckon_108 : decode cX6_reckon 108 = .ok (.aload_n 0, 1) := by decide +kernel
theorem dX6_reckon_109 : decode cX6_reckon 109 = .ok (.iconst 0, 1) := by decide +kernel
theorem dX6_reckon_110 : decode cX6_reckon 110 = .ok (.iconst 0, 1) := by decide +kernel
theorem dX6_reckon_111 : decode cX6_reckon 111 = .ok (.invokevirtual 40, 3) := by decide +kernel
theorem dX6_reckon_114 : decode cX6_reckon 114 = .ok (.ireturn, 1) := by decide +kernel
theorem dX6_leastFrom_0 : decode cX6_leastFrom 0 = .ok (.iconst 2, 1) := by decide +kernel
theorem dX6_leastFrom_1 : decode cX6_leastFrom 1 = .ok (.iload_n 1, 1) := by decide +kernel
theorem dX6_leastFrom_2 : decode cX6_leastFrom 2 = .ok (.imul, 1) := by decide +kernel
theorem dX6_leastFrom_3 : decode cX6_leastFrom 3 = .ok (.iload_n 2, 1) := by decide +kernel
theorem dX6_leastFrom_4 : decode cX6_leastFrom 4 = .ok (.iadd, 1) := by decide +kernel
theorem dX6_leastFrom_5 : decode cX6_leastFrom 5 = .ok (.istore_n 3, 1) := by decide +kernel
theorem dX6_leastFrom_6 : decode cX6_leastFrom 6 = .ok (.iload_n 3, 1) := by decide +kernel
theorem dX6_leastFrom_7 : decode cX6_leastFrom 7 = .ok (.iconst 0, 1) := by decide +kernel
theorem dX6_leastFrom_8 : decode cX6_leastFrom 8 = .ok (.aload_n 0, 1) := by decide +kernel
theorem dX6_leastFrom_9 : decode cX6_leastFrom 9 = .ok (.getfield 15, 3) := by decide +kernel
theorem dX6_leastFrom_12 : decode cX6_leastFrom 12 = .ok (.arraylength, 1) := by decide +kernel
theorem dX6_leastFrom_13 : decode cX6_leastFrom 13 = .ok (.iconst 1, 1) := by decide +kernel
theorem dX6_leastFrom_14 : decode cX6_leastFrom 14 = .ok (.isub, 1) := by decide +kernel
theorem dX6_leastFrom_15 : decode cX6_leastFrom 15 = .ok (.invokestatic 48, 3) := by decide +kernel
theorem dX6_leastFrom_18 : decode cX6_leastFrom 18 = .ok (.ifCond .eq 12, 3) := by decide +kernel
theorem dX6_leastFrom_21 : decode cX6_leastFrom 21 = .ok (.aload_n 0, 1) := by decide +kernel
theorem dX6_leastFrom_22 : decode cX6_leastFrom 22 = .ok (.getfield 15, 3) := by decide +kernel
theorem dX6_leastFrom_25 : decode cX6_leastFrom 25 = .ok (.iload_n 3, 1) := by decide +kernel
theorem dX6_leastFrom_26 : decode cX6_leastFrom 26 = .ok (.iaload, 1) := by decide +kernel
theorem dX6_leastFrom_27 : decode cX6_leastFrom 27 = .ok (.goto 4, 3) := by decide +kernel
theorem dX6_leastFrom_30 : decode cX6_leastFrom 30 = .ok (.iconst 0, 1) := by decide +kernel
theorem dX6_leastFrom_31 : decode cX6_leastFrom 31 = .ok (.ireturn, 1) := by decide +kernel
theorem dX6_slipTo_0 : decode cX6_slipTo 0 = .ok (.iload_n 3, 1) := by decide +kernel
theorem dX6_slipTo_1 : decode cX6_slipTo 1 = .ok (.bipush 64, 2) := by decide +kernel
theorem dX6_slipTo_3 : decode cX6_slipTo 3 = .ok (.imul, 1) := by decide +kernel
theorem dX6_slipTo_4 : decode cX6_slipTo 4 = .ok (.iconst 1, 1) := by decide +kernel
theorem dX6_slipTo_5 : decode cX6_slipTo 5 = .ok (.iadd, 1) := by decide +kernel
theorem dX6_slipTo_6 : decode cX6_slipTo 6 = .ok (.aload_n 0, 1) := by decide +kernel
theorem dX6_slipTo_7 : decode cX6_slipTo 7 = .ok (.iload_n 1, 1) := by decide +kernel
theorem dX6_slipTo_8 : decode cX6_slipTo 8 = .ok (.iload_n 2, 1) := by decide +kernel
theorem dX6_slipTo_9 : decode cX6_slipTo 9 = .ok (.invokevirtual 40, 3) := by decide +kernel
theorem dX6_slipTo_12 : decode cX6_slipTo 12 = .ok (.iadd, 1) := by decide +kernel
theorem dX6_slipTo_13 : decode cX6_slipTo 13 = .ok (.ireturn, 1) := by decide +kernel
theorem dX6_costOf_0 : decode cX6_costOf 0 = .ok (.iload_n 1, 1) := by decide +kernel
theorem dX6_costOf_1 : decode cX6_costOf 1 = .ok (.iload_n 2, 1) := by decide +kernel
theorem dX6_costOf_2 : decode cX6_costOf 2 = .ok (.iadd, 1) := by decide +kernel
theorem dX6_costOf_3 : decode cX6_costOf 3 = .ok (.iconst 2, 1) := by decide +kernel
theorem dX6_costOf_4 : decode cX6_costOf 4 = .ok (.irem, 1) := by decide +kernel
theorem dX6_costOf_5 : decode cX6_costOf 5 = .ok (.ifCond .ne 7, 3) := by decide +kernel
theorem dX6_costOf_8 : decode cX6_costOf 8 = .ok (.iconst 1, 1) := by decide +kernel
theorem dX6_costOf_9 : decode cX6_costOf 9 = .ok (.goto 4, 3) := by decide +kernel
theorem dX6_costOf_12 : decode cX6_costOf 12 = .ok (.iconst 0, 1) := by decide +kernel
theorem dX6_costOf_13 : decode cX6_costOf 13 = .ok (.istore 4, 2) := by decide +kernel
theorem dX6_costOf_15 : decode cX6_costOf 15 = .ok (.iload_n 1, 1) := by decide +kernel
theorem dX6_costOf_16 : decode cX6_costOf 16 = .ok (.ifCond .lt 30, 3) := by decide +kernel
theorem dX6_costOf_19 : decode cX6_costOf 19 = .ok (.iload_n 1, 1) := by decide +kernel
theorem dX6_costOf_20 : decode cX6_costOf 20 = .ok (.aload_n 0, 1) := by decide +kernel
theorem dX6_costOf_21 : decode cX6_costOf 21 = .ok (.getfield 19, 3) := by decide +kernel
theorem dX6_costOf_24 : decode cX6_costOf 24 = .ok (.if_icmp .ge 22, 3) := by decide +kernel
theorem dX6_costOf_27 : decode cX6_costOf 27 = .ok (.iload_n 1, 1) := by decide +kernel
theorem dX6_costOf_28 : decode cX6_costOf 28 = .ok (.bipush 40, 2) := by decide +kernel
theorem dX6_costOf_30 : decode cX6_costOf 30 = .ok (.if_icmp .ge 16, 3) := by decide +kernel
theorem dX6_costOf_33 : decode cX6_costOf 33 = .ok (.aload_n 0, 1) := by decide +kernel
theorem dX6_costOf_34 : decode cX6_costOf 34 = .ok (.getfield 9, 3) := by decide +kernel
theorem dX6_costOf_37 : decode cX6_costOf 37 = .ok (.iload_n 1, 1) := by decide +kernel
theorem dX6_costOf_38 : decode cX6_costOf 38 = .ok (.baload, 1) := by decide +kernel
theorem dX6_costOf_39 : decode cX6_costOf 39 = .ok (.ifCond .eq 7, 3) := by decide +kernel
theorem dX6_costOf_42 : decode cX6_costOf 42 = .ok (.iconst 1, 1) := by decide +kernel
theorem dX6_costOf_43 : decode cX6_costOf 43 = .ok (.goto 4, 3) := by decide +kernel
theorem dX6_costOf_46 : decode cX6_costOf 46 = .ok (.iconst 0, 1) := by decide +kernel
theorem dX6_costOf_47 : decode cX6_costOf 47 = .ok (.istore 5, 2) := by decide +kernel
theorem dX6_costOf_49 : decode cX6_costOf 49 = .ok (.iload 5, 2) := by decide +kernel
theorem dX6_costOf_51 : decode cX6_costOf 51 = .ok (.iload 4, 2) := by decide +kernel
theorem dX6_costOf_53 : decode cX6_costOf 53 = .ok (.if_icmp .ne 7, 3) := by decide +kernel
theorem dX6_costOf_56 : decode cX6_costOf 56 = .ok (.iconst 0, 1) := by decide +kernel
theorem dX6_costOf_57 : decode cX6_costOf 57 = .ok (.goto 7, 3) := by decide +kernel
theorem dX6_costOf_60 : decode cX6_costOf 60 = .ok (.iload_n 3, 1) := by decide +kernel
theorem dX6_costOf_61 : decode cX6_costOf 61 = .ok (.bipush 64, 2) := by decide +kernel
theorem dX6_costOf_63 : decode cX6_costOf 63 = .ok (.imul, 1) := by decide +kernel
theorem dX6_costOf_64 : decode cX6_costOf 64 = .ok (.ireturn, 1) := by decide +kernel
theorem dX7_init_0 : decode cX7_init 0 = .ok (.aload_n 0, 1) := by decide +kernel
theorem dX7_init_1 : decode cX7_init 1 = .ok (.invokespecial 3, 3) := by decide +kernel
theorem dX7_init_4 : decode cX7_init 4 = .ok (.aload_n 0, 1) := by decide +kernel
theorem dX7_init_5 : decode cX7_init 5 = .ok (.sipush 200, 3) := by decide +kernel
theorem dX7_init_8 : decode cX7_init 8 = .ok (.newarray .int, 2) := by decide +kernel
theorem dX7_init_10 : decode cX7_init 10 = .ok (.putfield 9, 3) := by decide +kernel
theorem dX7_init_13 : decode cX7_init 13 = .ok (.return_, 1) := by decide +kernel
theorem dX7_append_0 : decode cX7_append 0 = .ok (.iconst 0, 1) := by decide +kernel
theorem dX7_append_1 : decode cX7_append 1 = .ok (.istore 4, 2) := by decide +kernel
theorem dX7_append_3 : decode cX7_append 3 = .ok (.iload 4, 2) := by decide +kernel
theorem dX7_append_5 : decode cX7_append 5 = .ok (.iload_n 3, 1) := by decide +kernel
theorem dX7_append_6 : decode cX7_append 6 = .ok (.if_icmp .ge 54, 3) := by decide +kernel
theorem dX7_append_9 : decode cX7_append 9 = .ok (.aload_n 0, 1) := by decide +kernel
theorem dX7_append_10 : decode cX7_append 10 = .ok (.getfield 15, 3) := by decide +kernel
theorem dX7_append_13 : decode cX7_append 13 = .ok (.iconst 0, 1) := by decide +kernel
theorem dX7_append_14 : decode cX7_append 14 = .ok (.sipush 199, 3) := by decide +kernel
theorem dX7_append_17 : decode cX7_append 17 = .ok (.invokestatic 19, 3) := by decide +kernel
theorem dX7_append_20 : decode cX7_append 20 = .ok (.ifCond .eq 40, 3) := by decide +kernel
theorem dX7_append_23 : decode cX7_append 23 = .ok (.aload_n 0, 1) := by decide +kernel
theorem dX7_append_24 : decode cX7_append 24 = .ok (.getfield 9, 3) := by decide +kernel
theorem dX7_append_27 : decode cX7_append 27 = .ok (.aload_n 0, 1) := by decide +kernel
theorem dX7_append_28 : decode cX7_append 28 = .ok (.getfield 15, 3) := by decide +kernel
theorem dX7_append_31 : decode cX7_append 31 = .ok (.lload_n 1, 1) := by decide +kernel
theorem dX7_append_32 : decode cX7_append 32 = .ok (.bipush 8, 2) := by decide +kernel
theorem dX7_append_34 : decode cX7_append 34 = .ok (.iload 4, 2) := by decide +kernel
theorem dX7_append_36 : decode cX7_append 36 = .ok (.imul, 1) := by decide +kernel
theorem dX7_append_37 : decode cX7_append 37 = .ok (.lshr, 1) := by decide +kernel
theorem dX7_append_38 : decode cX7_append 38 = .ok (.ldc2_w 23, 3) := by decide +kernel
theorem dX7_append_41 : decode cX7_append 41 = .ok (.land, 1) := by decide +kernel
theorem dX7_append_42 : decode cX7_append 42 = .ok (.l2i, 1) := by decide +kernel
theorem dX7_append_43 : decode cX7_append 43 = .ok (.iastore, 1) := by decide +kernel
theorem dX7_append_44 : decode cX7_append 44 = .ok (.aload_n 0, 1) := by decide +kernel
theorem dX7_append_45 : decode cX7_append 45 = .ok (.dup, 1) := by decide +kernel
theorem dX7_append_46 : decode cX7_append 46 = .ok (.getfield 15, 3) := by decide +kernel
theorem dX7_append_49 : decode cX7_append 49 = .ok (.iconst 1, 1) := by decide +kernel
theorem dX7_append_50 : decode cX7_append 50 = .ok (.iadd, 1) := by decide +kernel
theorem dX7_append_51 : decode cX7_append 51 = .ok (.putfield 15, 3) := by decide +kernel
theorem dX7_append_54 : decode cX7_append 54 = .ok (.iinc 4 1, 3) := by decide +kernel
theorem dX7_append_57 : decode cX7_append 57 = .ok (.goto (-54), 3) := by decide +kernel
theorem dX7_append_60 : decode cX7_append 60 = .ok (.return_, 1) := by decide +kernel
theorem dX7_signAt_0 : decode cX7_signAt 0 = .ok (.iload_n 1, 1) := by decide +kernel
theorem dX7_signAt_1 : decode cX7_signAt 1 = .ok (.ifCond .lt 27, 3) := by decide +kernel
theorem dX7_signAt_4 : decode cX7_signAt 4 = .ok (.iload_n 1, 1) := by decide +kernel
theorem dX7_signAt_5 : decode cX7_signAt 5 = .ok (.aload_n 0, 1) := by decide +kernel
theorem dX7_signAt_6 : decode cX7_signAt 6 = .ok (.getfield 15, 3) := by decide +kernel
theorem dX7_signAt_9 : decode cX7_signAt 9 = .ok (.if_icmp .ge 19, 3) := by decide +kernel
theorem dX7_signAt_12 : decode cX7_signAt 12 = .ok (.iload_n 1, 1) := by decide +kernel
theorem dX7_signAt_13 : decode cX7_signAt 13 = .ok (.sipush 200, 3) := by decide +kernel
theorem dX7_signAt_16 : decode cX7_signAt 16 = .ok (.if_icmp .ge 12, 3) := by decide +kernel
theorem dX7_signAt_19 : decode cX7_signAt 19 = .ok (.aload_n 0, 1) := by decide +kernel
theorem dX7_signAt_20 : decode cX7_signAt 20 = .ok (.getfield 9, 3) := by decide +kernel
theorem dX7_signAt_23 : decode cX7_signAt 23 = .ok (.iload_n 1, 1) := by decide +kernel
theorem dX7_signAt_24 : decode cX7_signAt 24 = .ok (.iaload, 1) := by decide +kernel
theorem dX7_signAt_25 : decode cX7_signAt 25 = .ok (.goto 4, 3) := by decide +kernel
theorem dX7_signAt_28 : decode cX7_signAt 28 = .ok (.iconst (-1), 1) := by decide +kernel
theorem dX7_signAt_29 : decode cX7_signAt 29 = .ok (.ireturn, 1) := by decide +kernel
theorem dX8_init_0 : decode cX8_init 0 = .ok (.aload_n 0, 1) := by decide +kernel
theorem dX8_init_1 : decode cX8_init 1 = .ok (.invokespecial 3, 3) := by decide +kernel
theorem dX8_init_4 : decode cX8_init 4 = .ok (.aload_n 0, 1) := by decide +kernel
theorem dX8_init_5 : decode cX8_init 5 = .ok (.aload_n 1, 1) := by decide +kernel
theorem dX8_init_6 : decode cX8_init 6 = .ok (.putfield 9, 3) := by decide +kernel
theorem dX8_init_9 : decode cX8_init 9 = .ok (.return_, 1) := by decide +kernel
theorem dX8_rewind_0 : decode cX8_rewind 0 = .ok (.aload_n 0, 1) := by decide +kernel
theorem dX8_rewind_1 : decode cX8_rewind 1 = .ok (.iconst 0, 1) := by decide +kernel
theorem dX8_rewind_2 : decode cX8_rewind 2 = .ok (.putfield 15, 3) := by decide +kernel
theorem dX8_rewind_5 : decode cX8_rewind 5 = .ok (.aload_n 0, 1) := by decide +kernel
theorem dX8_rewind_6 : decode cX8_rewind 6 = .ok (.invokevirtual 19, 3) := by decide +kernel
theorem dX8_rewind_9 : decode cX8_rewind 9 = .ok (.return_, 1) := by decide +kernel
theorem dX8_advance_0 : decode cX8_advance 0 = .ok (.aload_n 0, 1) := by decide +kernel
theorem dX8_advance_1 : decode cX8_advance 1 = .ok (.aload_n 0, 1) := by decide +kernel
theorem dX8_advance_2 : decode cX8_advance 2 = .ok (.getfield 15, 3) := by decide +kernel
theorem dX8_advance_5 : decode cX8_advance 5 = .ok (.putfield 22, 3) := by decide +kernel
theorem dX8_advance_8 : decode cX8_advance 8 = .ok (.aload_n 0, 1) := by decide +kernel
theorem dX8_advance_9 : decode cX8_advance 9 = .ok (.getfield 22, 3) := by decide +kernel
theorem dX8_advance_12 : decode cX8_advance 12 = .ok (.aload_n 0, 1) := by decide +kernel
theorem dX8_advance_13 : decode cX8_advance 13 = .ok (.getfield 9, 3) := by decide +kernel
theorem dX8_advance_16 : decode cX8_advance 16 = .ok (.getfield 25, 3) := by decide +kernel
theorem dX8_advance_19 : decode cX8_advance 19 = .ok (.if_icmp .ge 32, 3) := by decide +kernel
theorem dX8_advance_22 : decode cX8_advance 22 = .ok (.aload_n 0, 1) := by decide +kernel
theorem dX8_advance_23 : decode cX8_advance 23 = .ok (.getfield 9, 3) := by decide +kernel
theorem dX8_advance_26 : decode cX8_advance 26 = .ok (.aload_n 0, 1) := by decide +kernel
theorem dX8_advance_27 : decode cX8_advance 27 = .ok (.getfield 22, 3) := by decide +kernel
theorem dX8_advance_30 : decode cX8_advance 30 = .ok (.invokevirtual 30, 3) := by decide +kernel
theorem dX8_advance_33 : decode cX8_advance 33 = .ok (.bipush 32, 2) := by decide +kernel
theorem dX8_advance_35 : decode cX8_advance 35 = .ok (.if_icmp .ne 16, 3) := by decide +kernel
theorem dX8_advance_38 : decode cX8_advance 38 = .ok (.aload_n 0, 1) := by decide +kernel
theorem dX8_advance_39 : decode cX8_advance 39 = .ok (.dup, 1) := by decide +kernel
theorem dX8_advance_40 : decode cX8_advance 40 = .ok (.getfield 22, 3) := by decide +kernel
theorem dX8_advance_43 : decode cX8_advance 43 = .ok (.iconst 1, 1) := by decide +kernel
theorem dX8_advance_44 : decode cX8_advance 44 = .ok (.iadd, 1) := by decide +kernel
theorem dX8_advance_45 : decode cX8_advance 45 = .ok (.putfield 22, 3) := by decide +kernel
theorem dX8_advance_48 : decode cX8_advance 48 = .ok (.goto (-40), 3) := by decide +kernel
theorem dX8_advance_51 : decode cX8_advance 51 = .ok (.aload_n 0, 1) := by decide +kernel
theorem dX8_advance_52 : decode cX8_advance 52 = .ok (.aload_n 0, 1) := by decide +kernel
theorem dX8_advance_53 : decode cX8_advance 53 = .ok (.getfield 9, 3) := by decide +kernel
theorem dX8_advance_56 : decode cX8_advance 56 = .ok (.aload_n 0, 1) := by decide +kernel
theorem dX8_advance_57 : decode cX8_advance 57 = .ok (.getfield 22, 3) := by decide +kernel
theorem dX8_advance_60 : decode cX8_advance 60 = .ok (.invokevirtual 30, 3) := by decide +kernel
theorem dX8_advance_63 : decode cX8_advance 63 = .ok (.invokestatic 34, 3) := by decide +kernel
theorem dX8_advance_66 : decode cX8_advance 66 = .ok (.putfield 37, 3) := by decide +kernel
theorem dX8_advance_69 : decode cX8_advance 69 = .ok (.aload_n 0, 1) := by decide +kernel
theorem dX8_advance_70 : decode cX8_advance 70 = .ok (.aload_n 0, 1) := by decide +kernel
theorem dX8_advance_71 : decode cX8_advance 71 = .ok (.getfield 22, 3) := by decide +kernel
theorem dX8_advance_74 : decode cX8_advance 74 = .ok (.putfield 15, 3) := by decide +kernel
theorem dX8_advance_77 : decode cX8_advance 77 = .ok (.aload_n 0, 1) := by decide +kernel
theorem dX8_advance_78 : decode cX8_advance 78 = .ok (.getfield 37, 3) := by decide +kernel
theorem dX8_advance_81 : decode cX8_advance 81 = .ok (.ifCond .ne 4, 3) := by decide +kernel
theorem dX8_advance_84 : decode cX8_advance 84 = .ok (.return_, 1) := by decide +kernel
theorem dX8_advance_85 : decode cX8_advance 85 = .ok (.aload_n 0, 1) := by decide +kernel
theorem dX8_advance_86 : decode cX8_advance 86 = .ok (.dup, 1) := by decide +kernel
theorem dX8_advance_87 : decode cX8_advance 87 = .ok (.getfield 15, 3) := by decide +kernel
theorem dX8_advance_90 : decode cX8_advance 90 = .ok (.iconst 1, 1) := by decide +kernel
theorem dX8_advance_91 : decode cX8_advance 91 = .ok (.iadd, 1) := by decide +kernel
theorem dX8_advance_92 : decode cX8_advance 92 = .ok (.putfield 15, 3) := by decide +kernel
theorem dX8_advance_95 : decode cX8_advance 95 = .ok (.aload_n 0, 1) := by decide +kernel
theorem dX8_advance_96 : decode cX8_advance 96 = .ok (.getfield 37, 3) := by decide +kernel
theorem dX8_advance_99 : decode cX8_advance 99 = .ok (.iconst 3, 1) := by decide +kernel
theorem dX8_advance_100 : decode cX8_advance 100 = .ok (.if_icmp .ne 4, 3) := by decide +kernel
theorem dX8_advance_103 : decode cX8_advance 103 = .ok (.return_, 1) := by decide +kernel
theorem dX8_advance_104 : decode cX8_advance 104 = .ok (.aload_n 0, 1) := by decide +kernel
theorem dX8_advance_105 : decode cX8_advance 105 = .ok (.getfield 15, 3) := by decide +kernel
theorem dX8_advance_108 : decode cX8_advance 108 = .ok (.aload_n 0, 1) := by decide +kernel
theorem dX8_advance_109 : decode cX8_advance 109 = .ok (.getfield 9, 3) := by decide +kernel
theorem dX8_advance_112 : decode cX8_advance 112 = .ok (.getfield 25, 3) := by decide +kernel
theorem dX8_advance_115 : decode cX8_advance 115 = .ok (.if_icmp .ge 37, 3) := by decide +kernel
theorem dX8_advance_118 : decode cX8_advance 118 = .ok (.aload_n 0, 1) := by decide +kernel
theorem dX8_advance_119 : decode cX8_advance 119 = .ok (.getfield 9, 3) := by decide +kernel
theorem dX8_advance_122 : decode cX8_advance 122 = .ok (.aload_n 0, 1) := by decide +kernel
theorem dX8_advance_123 : decode cX8_advance 123 = .ok (.getfield 15, 3) := by decide +kernel
theorem dX8_advance_126 : decode cX8_advance 126 = .ok (.invokevirtual 30, 3) := by decide +kernel
theorem dX8_advance_129 : decode cX8_advance 129 = .ok (.invokestatic 34, 3) := by decide +kernel
theorem dX8_advance_132 : decode cX8_advance 132 = .ok (.aload_n 0, 1) := by decide +kernel
theorem dX8_advance_133 : decode cX8_advance 133 = .ok (.getfield 37, 3) := by decide +kernel
theorem dX8_advance_136 : decode cX8_advance 136 = .ok (.if_icmp .ne 16, 3) := by decide +kernel
theorem dX8_advance_139 : decode cX8_advance 139 = .ok (.aload_n 0, 1) := by decide +kernel
theorem dX8_advance_140 : decode cX8_advance 140 = .ok (.dup, 1) := by decide +kernel
theorem dX8_advance_141 : decode cX8_advance 141 = .ok (.getfield 15, 3) := by decide +kernel
theorem dX8_advance_144 : decode cX8_advance 144 = .ok (.iconst 1, 1) := by decide +kernel
theorem dX8_advance_145 : decode cX8_advance 145 = .ok (.iadd, 1) := by decide +kernel
theorem dX8_advance_146 : decode cX8_advance 146 = .ok (.putfield 15, 3) := by decide +kernel
theorem dX8_advance_149 : decode cX8_advance 149 = .ok (.goto (-45), 3) := by decide +kernel
theorem dX8_advance_152 : decode cX8_advance 152 = .ok (.return_, 1) := by decide +kernel
theorem dX8_kindOfSign_0 : decode cX8_kindOfSign 0 = .ok (.iload_n 0, 1) := by decide +kernel
theorem dX8_kindOfSign_1 : decode cX8_kindOfSign 1 = .ok (.iconst (-1), 1) := by decide +kernel
theorem dX8_kindOfSign_2 : decode cX8_kindOfSign 2 = .ok (.if_icmp .ne 5, 3) := by decide +kernel
theorem dX8_kindOfSign_5 : decode cX8_kindOfSign 5 = .ok (.iconst 0, 1) := by decide +kernel
theorem dX8_kindOfSign_6 : decode cX8_kindOfSign 6 = .ok (.ireturn, 1) := by decide +kernel
theorem dX8_kindOfSign_7 : decode cX8_kindOfSign 7 = .ok (.iload_n 0, 1) := by decide +kernel
theorem dX8_kindOfSign_8 : decode cX8_kindOfSign 8 = .ok (.bipush 97, 2) := by decide +kernel
theorem dX8_kindOfSign_10 : decode cX8_kindOfSign 10 = .ok (.if_icmp .lt 11, 3) := by decide +kernel
theorem dX8_kindOfSign_13 : decode cX8_kindOfSign 13 = .ok (.iload_n 0, 1) := by decide +kernel
theorem dX8_kindOfSign_14 : decode cX8_kindOfSign 14 = .ok (.bipush 122, 2) := by decide +kernel
theorem dX8_kindOfSign_16 : decode cX8_kindOfSign 16 = .ok (.if_icmp .gt 5, 3) := by decide +kernel
theorem dX8_kindOfSign_19 : decode cX8_kindOfSign 19 = .ok (.iconst 1, 1) := by decide +kernel
theorem dX8_kindOfSign_20 : decode cX8_kindOfSign 20 = .ok (.ireturn, 1) := by decide +kernel
theorem dX8_kindOfSign_21 : decode cX8_kindOfSign 21 = .ok (.iload_n 0, 1) := by decide +kernel
theorem dX8_kindOfSign_22 : decode cX8_kindOfSign 22 = .ok (.bipush 48, 2) := by decide +kernel
theorem dX8_kindOfSign_24 : decode cX8_kindOfSign 24 = .ok (.if_icmp .lt 11, 3) := by decide +kernel
theorem dX8_kindOfSign_27 : decode cX8_kindOfSign 27 = .ok (.iload_n 0, 1) := by decide +kernel
theorem dX8_kindOfSign_28 : decode cX8_kindOfSign 28 = .ok (.bipush 57, 2) := by decide +kernel
theorem dX8_kindOfSign_30 : decode cX8_kindOfSign 30 = .ok (.if_icmp .gt 5, 3) := by decide +kernel
theorem dX8_kindOfSign_33 : decode cX8_kindOfSign 33 = .ok (.iconst 2, 1) := by decide +kernel
theorem dX8_kindOfSign_34 : decode cX8_kindOfSign 34 = .ok (.ireturn, 1) := by decide +kernel
theorem dX8_kindOfSign_35 : decode cX8_kindOfSign 35 = .ok (.iconst 3, 1) := by decide +kernel
theorem dX8_kindOfSign_36 : decode cX8_kindOfSign 36 = .ok (.ireturn, 1) := by decide +kernel
theorem dX8_isEnd_0 : decode cX8_isEnd 0 = .ok (.aload_n 0, 1) := by decide +kernel
theorem dX8_isEnd_1 : decode cX8_isEnd 1 = .ok (.getfield 37, 3) := by decide +kernel
theorem dX8_isEnd_4 : decode cX8_isEnd 4 = .ok (.ifCond .ne 7, 3) := by decide +kernel
theorem dX8_isEnd_7 : decode cX8_isEnd 7 = .ok (.iconst 1, 1) := by decide +kernel
theorem dX8_isEnd_8 : decode cX8_isEnd 8 = .ok (.goto 4, 3) := by decide +kernel
theorem dX8_isEnd_11 : decode cX8_isEnd 11 = .ok (.iconst 0, 1) := by decide +kernel
theorem dX8_isEnd_12 : decode cX8_isEnd 12 = .ok (.ireturn, 1) := by decide +kernel
theorem dX8_isSign_0 : decode cX8_isSign 0 = .ok (.aload_n 0, 1) := by decide +kernel
theorem dX8_isSign_1 : decode cX8_isSign 1 = .ok (.getfield 37, 3) := by decide +kernel
theorem dX8_isSign_4 : decode cX8_isSign 4 = .ok (.iconst 3, 1) := by decide +kernel
theorem dX8_isSign_5 : decode cX8_isSign 5 = .ok (.if_icmp .ne 22, 3) := by decide +kernel
theorem dX8_isSign_8 : decode cX8_isSign 8 = .ok (.aload_n 0, 1) := by decide +kernel
theorem dX8_isSign_9 : decode cX8_isSign 9 = .ok (.getfield 9, 3) := by decide +kernel
theorem dX8_isSign_12 : decode cX8_isSign 12 = .ok (.aload_n 0, 1) := by decide +kernel
theorem dX8_isSign_13 : decode cX8_isSign 13 = .ok (.getfield 22, 3) := by decide +kernel
theorem dX8_isSign_16 : decode cX8_isSign 16 = .ok (.invokevirtual 30, 3) := by decide +kernel
theorem dX8_isSign_19 : decode cX8_isSign 19 = .ok (.iload_n 1, 1) := by decide +kernel
theorem dX8_isSign_20 : decode cX8_isSign 20 = .ok (.if_icmp .ne 7, 3) := by decide +kernel
theorem dX8_isSign_23 : decode cX8_isSign 23 = .ok (.iconst 1, 1) := by decide +kernel
theorem dX8_isSign_24 : decode cX8_isSign 24 = .ok (.goto 4, 3) := by decide +kernel
theorem dX8_isSign_27 : decode cX8_isSign 27 = .ok (.iconst 0, 1) := by decide +kernel
theorem dX8_isSign_28 : decode cX8_isSign 28 = .ok (.ireturn, 1) := by decide +kernel
theorem dX8_isWord_0 : decode cX8_isWord 0 = .ok (.aload_n 0, 1) := by decide +kernel
theorem dX8_isWord_1 : decode cX8_isWord 1 = .ok (.getfield 37, 3) := by decide +kernel
theorem dX8_isWord_4 : decode cX8_isWord 4 = .ok (.iconst 1, 1) := by decide +kernel
theorem dX8_isWord_5 : decode cX8_isWord 5 = .ok (.if_icmp .ne 19, 3) := by decide +kernel
theorem dX8_isWord_8 : decode cX8_isWord 8 = .ok (.aload_n 0, 1) := by decide +kernel
theorem dX8_isWord_9 : decode cX8_isWord 9 = .ok (.getfield 15, 3) := by decide +kernel
theorem dX8_isWord_12 : decode cX8_isWord 12 = .ok (.aload_n 0, 1) := by decide +kernel
theorem dX8_isWord_13 : decode cX8_isWord 13 = .ok (.getfield 22, 3) := by decide +kernel
theorem dX8_isWord_16 : decode cX8_isWord 16 = .ok (.isub, 1) := by decide +kernel
theorem dX8_isWord_17 : decode cX8_isWord 17 = .ok (.aload_n 1, 1) := by decide +kernel
theorem dX8_isWord_18 : decode cX8_isWord 18 = .ok (.invokevirtual 40, 3) := by decide +kernel
theorem dX8_isWord_21 : decode cX8_isWord 21 = .ok (.if_icmp .eq 5, 3) := by decide +kernel
theorem dX8_isWord_24 : decode cX8_isWord 24 = .ok (.iconst 0, 1) := by decide +kernel
theorem dX8_isWord_25 : decode cX8_isWord 25 = .ok (.ireturn, 1) := by decide +kernel
theorem dX8_isWord_26 : decode cX8_isWord 26 = .ok (.iconst 0, 1) := by decide +kernel
theorem dX8_isWord_27 : decode cX8_isWord 27 = .ok (.istore_n 2, 1) := by decide +kernel
theorem dX8_isWord_28 : decode cX8_isWord 28 = .ok (.iload_n 2, 1) := by decide +kernel
theorem dX8_isWord_29 : decode cX8_isWord 29 = .ok (.aload_n 1, 1) := by decide +kernel
theorem dX8_isWord_30 : decode cX8_isWord 30 = .ok (.invokevirtual 40, 3) := by decide +kernel
theorem dX8_isWord_33 : decode cX8_isWord 33 = .ok (.if_icmp .ge 32, 3) := by decide +kernel
theorem dX8_isWord_36 : decode cX8_isWord 36 = .ok (.aload_n 0, 1) := by decide +kernel
theorem dX8_isWord_37 : decode cX8_isWord 37 = .ok (.getfield 9, 3) := by decide +kernel
theorem dX8_isWord_40 : decode cX8_isWord 40 = .ok (.aload_n 0, 1) := by decide +kernel
theorem dX8_isWord_41 : decode cX8_isWord 41 = .ok (.getfield 22, 3) := by decide +kernel
theorem dX8_isWord_44 : decode cX8_isWord 44 = .ok (.iload_n 2, 1) := by decide +kernel
theorem dX8_isWord_45 : decode cX8_isWord 45 = .ok (.iadd, 1) := by decide +kernel
theorem dX8_isWord_46 : decode cX8_isWord 46 = .ok (.invokevirtual 30, 3) := by decide +kernel
theorem dX8_isWord_49 : decode cX8_isWord 49 = .ok (.aload_n 1, 1) := by decide +kernel
theorem dX8_isWord_50 : decode cX8_isWord 50 = .ok (.iload_n 2, 1) := by decide +kernel
theorem dX8_isWord_51 : decode cX8_isWord 51 = .ok (.invokevirtual 45, 3) := by decide +kernel
theorem dX8_isWord_54 : decode cX8_isWord 54 = .ok (.if_icmp .eq 5, 3) := by decide +kernel
theorem dX8_isWord_57 : decode cX8_isWord 57 = .ok (.iconst 0, 1) := by decide +kernel
theorem dX8_isWord_58 : decode cX8_isWord 58 = .ok (.ireturn, 1) := by decide +kernel
theorem dX8_isWord_59 : decode cX8_isWord 59 = .ok (.iinc 2 1, 3) := by decide +kernel
theorem dX8_isWord_62 : decode cX8_isWord 62 = .ok (.goto (-34), 3) := by decide +kernel
theorem dX8_isWord_65 : decode cX8_isWord 65 = .ok (.iconst 1, 1) := by decide +kernel
theorem dX8_isWord_66 : decode cX8_isWord 66 = .ok (.ireturn, 1) := by decide +kernel
theorem dX8_number_0 : decode cX8_number 0 = .ok (.aload_n 0, 1) := by decide +kernel
theorem dX8_number_1 : decode cX8_number 1 = .ok (.getfield 37, 3) := by decide +kernel
theorem dX8_number_4 : decode cX8_number 4 = .ok (.iconst 3, 1) := by decide +kernel
theorem dX8_number_5 : decode cX8_number 5 = .ok (.if_icmp .ne 21, 3) := by decide +kernel
theorem dX8_number_8 : decode cX8_number 8 = .ok (.aload_n 0, 1) := by decide +kernel
theorem dX8_number_9 : decode cX8_number 9 = .ok (.getfield 9, 3) := by decide +kernel
theorem dX8_number_12 : decode cX8_number 12 = .ok (.aload_n 0, 1) := by decide +kernel
theorem dX8_number_13 : decode cX8_number 13 = .ok (.getfield 22, 3) := by decide +kernel
theorem dX8_number_16 : decode cX8_number 16 = .ok (.invokevirtual 30, 3) := by decide +kernel
theorem dX8_number_19 : decode cX8_number 19 = .ok (.bipush 45, 2) := by decide +kernel
theorem dX8_number_21 : decode cX8_number 21 = .ok (.if_icmp .ne 5, 3) := by decide +kernel
theorem dX8_number_24 : decode cX8_number 24 = .ok (.iconst (-1), 1) := by decide +kernel
theorem dX8_number_25 : decode cX8_number 25 = .ok (.ireturn, 1) := by decide +kernel
theorem dX8_number_26 : decode cX8_number 26 = .ok (.aload_n 0, 1) := by decide +kernel
theorem dX8_number_27 : decode cX8_number 27 = .ok (.getfield 37, 3) := by decide +kernel
theorem dX8_number_30 : decode cX8_number 30 = .ok (.iconst 2, 1) := by decide +kernel
theorem dX8_number_31 : decode cX8_number 31 = .ok (.if_icmp .ne 16, 3) := by decide +kernel
theorem dX8_number_34 : decode cX8_number 34 = .ok (.aload_n 0, 1) := by decide +kernel
theorem dX8_number_35 : decode cX8_number 35 = .ok (.getfield 15, 3) := by decide +kernel
theorem dX8_number_38 : decode cX8_number 38 = .ok (.aload_n 0, 1) := by decide +kernel
theorem dX8_number_39 : decode cX8_number 39 = .ok (.getfield 22, 3) := by decide +kernel
theorem dX8_number_42 : decode cX8_number 42 = .ok (.isub, 1) := by decide +kernel
theorem dX8_number_43 : decode cX8_number 43 = .ok (.iconst 2, 1) := by decide +kernel
theorem dX8_number_44 : decode cX8_number 44 = .ok (.if_icmp .le 6, 3) := by decide +kernel
theorem dX8_number_47 : decode cX8_number 47 = .ok (.ldc 49, 2) := by decide +kernel
theorem dX8_number_49 : decode cX8_number 49 = .ok (.ireturn, 1) := by decide +kernel
theorem dX8_number_50 : decode cX8_number 50 = .ok (.iconst 0, 1) := by decide +kernel
theorem dX8_number_51 : decode cX8_number 51 = .ok (.istore_n 1, 1) := by decide +kernel
theorem dX8_number_52 : decode cX8_number 52 = .ok (.aload_n 0, 1) := by decide +kernel
theorem dX8_number_53 : decode cX8_number 53 = .ok (.getfield 22, 3) := by decide +kernel
theorem dX8_number_56 : decode cX8_number 56 = .ok (.istore_n 2, 1) := by decide +kernel
theorem dX8_number_57 : decode cX8_number 57 = .ok (.iload_n 2, 1) := by decide +kernel
theorem dX8_number_58 : decode cX8_number 58 = .ok (.aload_n 0, 1) := by decide +kernel
theorem dX8_number_59 : decode cX8_number 59 = .ok (.getfield 15, 3) := by decide +kernel
theorem dX8_number_62 : decode cX8_number 62 = .ok (.if_icmp .ge 26, 3) := by decide +kernel
theorem dX8_number_65 : decode cX8_number 65 = .ok (.iload_n 1, 1) := by decide +kernel
theorem dX8_number_66 : decode cX8_number 66 = .ok (.bipush 10, 2) := by decide +kernel
theorem dX8_number_68 : decode cX8_number 68 = .ok (.imul, 1) := by decide +kernel
theorem dX8_number_69 : decode cX8_number 69 = .ok (.aload_n 0, 1) := by decide +kernel
theorem dX8_number_70 : decode cX8_number 70 = .ok (.getfield 9, 3) := by decide +kernel
theorem dX8_number_73 : decode cX8_number 73 = .ok (.iload_n 2, 1) := by decide +kernel
theorem dX8_number_74 : decode cX8_number 74 = .ok (.invokevirtual 30, 3) := by decide +kernel
theorem dX8_number_77 : decode cX8_number 77 = .ok (.iadd, 1) := by decide +kernel
theorem dX8_number_78 : decode cX8_number 78 = .ok (.bipush 48, 2) := by decide +kernel
theorem dX8_number_80 : decode cX8_number 80 = .ok (.isub, 1) := by decide +kernel
theorem dX8_number_81 : decode cX8_number 81 = .ok (.istore_n 1, 1) := by decide +kernel
theorem dX8_number_82 : decode cX8_number 82 = .ok (.iinc 2 1, 3) := by decide +kernel
theorem dX8_number_85 : decode cX8_number 85 = .ok (.goto (-28), 3) := by decide +kernel
theorem dX8_number_88 : decode cX8_number 88 = .ok (.iload_n 1, 1) := by decide +kernel
theorem dX8_number_89 : decode cX8_number 89 = .ok (.ireturn, 1) := by decide +kernel
theorem dX9_init_0 : decode cX9_init 0 = .ok (.aload_n 0, 1) := by decide +kernel
theorem dX9_init_1 : decode cX9_init 1 = .ok (.invokespecial 3, 3) := by decide +kernel
theorem dX9_init_4 : decode cX9_init 4 = .ok (.aload_n 0, 1) := by decide +kernel
theorem dX9_init_5 : decode cX9_init 5 = .ok (.bipush 6, 2) := by decide +kernel
theorem dX9_init_7 : decode cX9_init 7 = .ok (.newarray .int, 2) := by decide +kernel
theorem dX9_init_9 : decode cX9_init 9 = .ok (.putfield 9, 3) := by decide +kernel
theorem dX9_init_12 : decode cX9_init 12 = .ok (.aload_n 0, 1) := by decide +kernel
theorem dX9_init_13 : decode cX9_init 13 = .ok (.iconst 5, 1) := by decide +kernel
theorem dX9_init_14 : decode cX9_init 14 = .ok (.newarray .int, 2) := by decide +kernel
theorem dX9_init_16 : decode cX9_init 16 = .ok (.putfield 15, 3) := by decide +kernel
theorem dX9_init_19 : decode cX9_init 19 = .ok (.aload_n 0, 1) := by decide +kernel
theorem dX9_init_20 : decode cX9_init 20 = .ok (.bipush 10, 2) := by decide +kernel
theorem dX9_init_22 : decode cX9_init 22 = .ok (.newarray .int, 2) := by decide +kernel
theorem dX9_init_24 : decode cX9_init 24 = .ok (.putfield 18, 3) := by decide +kernel
theorem dX9_init_27 : decode cX9_init 27 = .ok (.aload_n 0, 1) := by decide +kernel
theorem dX9_init_28 : decode cX9_init 28 = .ok (.iconst 5, 1) := by decide +kernel
theorem dX9_init_29 : decode cX9_init 29 = .ok (.newarray .int, 2) := by decide +kernel
theorem dX9_init_31 : decode cX9_init 31 = .ok (.putfield 21, 3) := by decide +kernel
theorem dX9_init_34 : decode cX9_init 34 = .ok (.aload_n 0, 1) := by decide +kernel
theorem dX9_init_35 : decode cX9_init 35 = .ok (.bipush 96, 2) := by decide +kernel
theorem dX9_init_37 : decode cX9_init 37 = .ok (.newarray .int, 2) := by decide +kernel
theorem dX9_init_39 : decode cX9_init 39 = .ok (.putfield 24, 3) := by decide +kernel
theorem dX9_init_42 : decode cX9_init 42 = .ok (.aload_n 0, 1) := by decide +kernel
theorem dX9_init_43 : decode cX9_init 43 = .ok (.iconst 1, 1) := by decide +kernel
theorem dX9_init_44 : decode cX9_init 44 = .ok (.putfield 27, 3) := by decide +kernel
theorem dX9_init_47 : decode cX9_init 47 = .ok (.aload_n 0, 1) := by decide +kernel
theorem dX9_init_48 : decode cX9_init 48 = .ok (.iconst 2, 1) := by decide +kernel
theorem dX9_init_49 : decode cX9_init 49 = .ok (.iconst 2, 1) := by decide +kernel
theorem dX9_init_50 : decode cX9_init 50 = .ok (.invokevirtual 31, 3) := by decide +kernel
theorem dX9_init_53 : decode cX9_init 53 = .ok (.return_, 1) := by decide +kernel
theorem dX9_settle_0 : decode cX9_settle 0 = .ok (.aload_n 0, 1) := by decide +kernel
theorem dX9_settle_1 : decode cX9_settle 1 = .ok (.iload_n 1, 1) := by decide +kernel
theorem dX9_settle_2 : decode cX9_settle 2 = .ok (.putfield 35, 3) := by decide +kernel
theorem dX9_settle_5 : decode cX9_settle 5 = .ok (.aload_n 0, 1) := by decide +kernel
theorem dX9_settle_6 : decode cX9_settle 6 = .ok (.iload_n 2, 1) := by decide +kernel
theorem dX9_settle_7 : decode cX9_settle 7 = .ok (.putfield 38, 3) := by decide +kernel
theorem dX9_settle_10 : decode cX9_settle 10 = .ok (.aload_n 0, 1) := by decide +kernel
theorem dX9_settle_11 : decode cX9_settle 11 = .ok (.getfield 9, 3) := by decide +kernel
theorem dX9_settle_14 : decode cX9_settle 14 = .ok (.iconst 0, 1) := by decide +kernel
theorem dX9_settle_15 : decode cX9_settle 15 = .ok (.invokestatic 41, 3) := by decide +kernel
theorem dX9_settle_18 : decode cX9_settle 18 = .ok (.aload_n 0, 1) := by decide +kernel
theorem dX9_settle_19 : decode cX9_settle 19 = .ok (.getfield 24, 3) := by decide +kernel
theorem dX9_settle_22 : decode cX9_settle 22 = .ok (.iconst 5, 1) := by decide +kernel
theorem dX9_settle_23 : decode cX9_settle 23 = .ok (.invokestatic 41, 3) := by decide +kernel
theorem dX9_settle_26 : decode cX9_settle 26 = .ok (.return_, 1) := by decide +kernel
theorem dX9_becomeLike_0 : decode cX9_becomeLike 0 = .ok (.aload_n 0, 1) := by decide +kernel
theorem dX9_becomeLike_1 : decode cX9_becomeLike 1 = .ok (.aload_n 1, 1) := by decide +kernel
theorem dX9_becomeLike_2 : decode cX9_becomeLike 2 = .ok (.getfield 35, 3) := by decide +kernel
theorem dX9_becomeLike_5 : decode cX9_becomeLike 5 = .ok (.putfield 35, 3) := by decide +kernel
theorem dX9_becomeLike_8 : decode cX9_becomeLike 8 = .ok (.aload_n 0, 1) := by decide +kernel
theorem dX9_becomeLike_9 : decode cX9_becomeLike 9 = .ok (.aload_n 1, 1) := by decide +kernel
theorem dX9_becomeLike_10 : decode cX9_becomeLike 10 = .ok (.getfield 38, 3) := by decide +kernel
theorem dX9_becomeLike_13 : decode cX9_becomeLike 13 = .ok (.putfield 38, 3) := by decide +kernel
theorem dX9_becomeLike_16 : decode cX9_becomeLike 16 = .ok (.aload_n 0, 1) := by decide +kernel
theorem dX9_becomeLike_17 : decode cX9_becomeLike 17 = .ok (.aload_n 1, 1) := by decide +kernel
theorem dX9_becomeLike_18 : decode cX9_becomeLike 18 = .ok (.getfield 47, 3) := by decide +kernel
theorem dX9_becomeLike_21 : decode cX9_becomeLike 21 = .ok (.putfield 47, 3) := by decide +kernel
theorem dX9_becomeLike_24 : decode cX9_becomeLike 24 = .ok (.aload_n 0, 1) := by decide +kernel
theorem dX9_becomeLike_25 : decode cX9_becomeLike 25 = .ok (.aload_n 1, 1) := by decide +kernel
theorem dX9_becomeLike_26 : decode cX9_becomeLike 26 = .ok (.getfield 27, 3) := by decide +kernel
theorem dX9_becomeLike_29 : decode cX9_becomeLike 29 = .ok (.putfield 27, 3) := by decide +kernel
theorem dX9_becomeLike_32 : decode cX9_becomeLike 32 = .ok (.iconst 0, 1) := by decide +kernel
theorem dX9_becomeLike_33 : decode cX9_becomeLike 33 = .ok (.istore_n 2, 1) := by decide +kernel
theorem dX9_becomeLike_34 : decode cX9_becomeLike 34 = .ok (.iload_n 2, 1) := by decide +kernel
theorem dX9_becomeLike_35 : decode cX9_becomeLike 35 = .ok (.bipush 6, 2) := by decide +kernel
theorem dX9_becomeLike_37 : decode cX9_becomeLike 37 = .ok (.if_icmp .ge 21, 3) := by decide +kernel
theorem dX9_becomeLike_40 : decode cX9_becomeLike 40 = .ok (.aload_n 0, 1) := by decide +kernel
theorem dX9_becomeLike_41 : decode cX9_becomeLike 41 = .ok (.getfield 9, 3) := by decide +kernel
theorem dX9_becomeLike_44 : decode cX9_becomeLike 44 = .ok (.iload_n 2, 1) := by decide +kernel
theorem dX9_becomeLike_45 : decode cX9_becomeLike 45 = .ok (.aload_n 1, 1) := by decide +kernel
theorem dX9_becomeLike_46 : decode cX9_becomeLike 46 = .ok (.getfield 9, 3) := by decide +kernel
theorem dX9_becomeLike_49 : decode cX9_becomeLike 49 = .ok (.iload_n 2, 1) := by decide +kernel
theorem dX9_becomeLike_50 : decode cX9_becomeLike 50 = .ok (.iaload, 1) := by decide +kernel
theorem dX9_becomeLike_51 : decode cX9_becomeLike 51 = .ok (.iastore, 1) := by decide +kernel
theorem dX9_becomeLike_52 : decode cX9_becomeLike 52 = .ok (.iinc 2 1, 3) := by decide +kernel
theorem dX9_becomeLike_55 : decode cX9_becomeLike 55 = .ok (.goto (-21), 3) := by decide +kernel
theorem dX9_becomeLike_58 : decode cX9_becomeLike 58 = .ok (.iconst 0, 1) := by decide +kernel
theorem dX9_becomeLike_59 : decode cX9_becomeLike 59 = .ok (.istore_n 2, 1) := by decide +kernel
theorem dX9_becomeLike_60 : decode cX9_becomeLike 60 = .ok (.iload_n 2, 1) := by decide +kernel
theorem dX9_becomeLike_61 : decode cX9_becomeLike 61 = .ok (.iconst 5, 1) := by decide +kernel
theorem dX9_becomeLike_62 : decode cX9_becomeLike 62 = .ok (.if_icmp .ge 33, 3) := by decide +kernel
theorem dX9_becomeLike_65 : decode cX9_becomeLike 65 = .ok (.aload_n 0, 1) := by decide +kernel
theorem dX9_becomeLike_66 : decode cX9_becomeLike 66 = .ok (.getfield 15, 3) := by decide +kernel
theorem dX9_becomeLike_69 : decode cX9_becomeLike 69 = .ok (.iload_n 2, 1) := by decide +kernel
theorem dX9_becomeLike_70 : decode cX9_becomeLike 70 = .ok (.aload_n 1, 1) := by decide +kernel
theorem dX9_becomeLike_71 : decode cX9_becomeLike 71 = .ok (.getfield 15, 3) := by decide +kernel
theorem dX9_becomeLike_74 : decode cX9_becomeLike 74 = .ok (.iload_n 2, 1) := by decide +kernel
theorem dX9_becomeLike_75 : decode cX9_becomeLike 75 = .ok (.iaload, 1) := by decide +kernel
theorem dX9_becomeLike_76 : decode cX9_becomeLike 76 = .ok (.iastore, 1) := by decide +kernel
theorem dX9_becomeLike_77 : decode cX9_becomeLike 77 = .ok (.aload_n 0, 1) := by decide +kernel
theorem dX9_becomeLike_78 : decode cX9_becomeLike 78 = .ok (.getfield 21, 3) := by decide +kernel
theorem dX9_becomeLike_81 : decode cX9_becomeLike 81 = .ok (.iload_n 2, 1) := by decide +kernel
theorem dX9_becomeLike_82 : decode cX9_becomeLike 82 = .ok (.aload_n 1, 1) := by decide +kernel
theorem dX9_becomeLike_83 : decode cX9_becomeLike 83 = .ok (.getfield 21, 3) := by decide +kernel
theorem dX9_becomeLike_86 : decode cX9_becomeLike 86 = .ok (.iload_n 2, 1) := by decide +kernel
theorem dX9_becomeLike_87 : decode cX9_becomeLike 87 = .ok (.iaload, 1) := by decide +kernel
theorem dX9_becomeLike_88 : decode cX9_becomeLike 88 = .ok (.iastore, 1) := by decide +kernel
theorem dX9_becomeLike_89 : decode cX9_becomeLike 89 = .ok (.iinc 2 1, 3) := by decide +kernel
theorem dX9_becomeLike_92 : decode cX9_becomeLike 92 = .ok (.goto (-32), 3) := by decide +kernel
theorem dX9_becomeLike_95 : decode cX9_becomeLike 95 = .ok (.iconst 0, 1) := by decide +kernel
theorem dX9_becomeLike_96 : decode cX9_becomeLike 96 = .ok (.istore_n 2, 1) := by decide +kernel
theorem dX9_becomeLike_97 : decode cX9_becomeLike 97 = .ok (.iload_n 2, 1) := by decide +kernel
theorem dX9_becomeLike_98 : decode cX9_becomeLike 98 = .ok (.bipush 10, 2) := by decide +kernel
theorem dX9_becomeLike_100 : decode cX9_becomeLike 100 = .ok (.if_icmp .ge 21, 3) := by decide +kernel
theorem dX9_becomeLike_103 : decode cX9_becomeLike 103 = .ok (.aload_n 0, 1) := by decide +kernel
theorem dX9_becomeLike_104 : decode cX9_becomeLike 104 = .ok (.getfield 18, 3) := by decide +kernel
theorem dX9_becomeLike_107 : decode cX9_becomeLike 107 = .ok (.iload_n 2, 1) := by decide +kernel
theorem dX9_becomeLike_108 : decode cX9_becomeLike 108 = .ok (.aload_n 1, 1) := by decide +kernel
theorem dX9_becomeLike_109 : decode cX9_becomeLike 109 = .ok (.getfield 18, 3) := by decide +kernel
theorem dX9_becomeLike_112 : decode cX9_becomeLike 112 = .ok (.iload_n 2, 1) := by decide +kernel
theorem dX9_becomeLike_113 : decode cX9_becomeLike 113 = .ok (.iaload, 1) := by decide +kernel
theorem dX9_becomeLike_114 : decode cX9_becomeLike 114 = .ok (.iastore, 1) := by decide +kernel
theorem dX9_becomeLike_115 : decode cX9_becomeLike 115 = .ok (.iinc 2 1, 3) := by decide +kernel
theorem dX9_becomeLike_118 : decode cX9_becomeLike 118 = .ok (.goto (-21), 3) := by decide +kernel
theorem dX9_becomeLike_121 : decode cX9_becomeLike 121 = .ok (.iconst 0, 1) := by decide +kernel
theorem dX9_becomeLike_122 : decode cX9_becomeLike 122 = .ok (.istore_n 2, 1) := by decide +kernel
theorem dX9_becomeLike_123 : decode cX9_becomeLike 123 = .ok (.iload_n 2, 1) := by decide +kernel
theorem dX9_becomeLike_124 : decode cX9_becomeLike 124 = .ok (.bipush 96, 2) := by decide +kernel
theorem dX9_becomeLike_126 : decode cX9_becomeLike 126 = .ok (.if_icmp .ge 21, 3) := by decide +kernel
theorem dX9_becomeLike_129 : decode cX9_becomeLike 129 = .ok (.aload_n 0, 1) := by decide +kernel
theorem dX9_becomeLike_130 : decode cX9_becomeLike 130 = .ok (.getfield 24, 3) := by decide +kernel
theorem dX9_becomeLike_133 : decode cX9_becomeLike 133 = .ok (.iload_n 2, 1) := by decide +kernel
theorem dX9_becomeLike_134 : decode cX9_becomeLike 134 = .ok (.aload_n 1, 1) := by decide +kernel
theorem dX9_becomeLike_135 : decode cX9_becomeLike 135 = .ok (.getfield 24, 3) := by decide +kernel
theorem dX9_becomeLike_138 : decode cX9_becomeLike 138 = .ok (.iload_n 2, 1) := by decide +kernel
theorem dX9_becomeLike_139 : decode cX9_becomeLike 139 = .ok (.iaload, 1) := by decide +kernel
theorem dX9_becomeLike_140 : decode cX9_becomeLike 140 = .ok (.iastore, 1) := by decide +kernel
theorem dX9_becomeLike_141 : decode cX9_becomeLike 141 = .ok (.iinc 2 1, 3) := by decide +kernel
theorem dX9_becomeLike_144 : decode cX9_becomeLike 144 = .ok (.goto (-21), 3) := by decide +kernel
theorem dX9_becomeLike_147 : decode cX9_becomeLike 147 = .ok (.return_, 1) := by decide +kernel
theorem dX9_tellWork_0 : decode cX9_tellWork 0 = .ok (.iload_n 1, 1) := by decide +kernel
theorem dX9_tellWork_1 : decode cX9_tellWork 1 = .ok (.ifCond .lt 8, 3) := by decide +kernel
theorem dX9_tellWork_4 : decode cX9_tellWork 4 = .ok (.iload_n 1, 1) := by decide +kernel
theorem dX9_tellWork_5 : decode cX9_tellWork 5 = .ok (.iconst 5, 1) := by decide +kernel
theorem dX9_tellWork_6 : decode cX9_tellWork 6 = .ok (.if_icmp .lt 4, 3) := by decide +kernel
theorem dX9_tellWork_9 : decode cX9_tellWork 9 = .ok (.return_, 1) := by decide +kernel
theorem dX9_tellWork_10 : decode cX9_tellWork 10 = .ok (.aload_n 0, 1) := by decide +kernel
theorem dX9_tellWork_11 : decode cX9_tellWork 11 = .ok (.getfield 15, 3) := by decide +kernel
theorem dX9_tellWork_14 : decode cX9_tellWork 14 = .ok (.iload_n 1, 1) := by decide +kernel
theorem dX9_tellWork_15 : decode cX9_tellWork 15 = .ok (.iload_n 2, 1) := by decide +kernel
theorem dX9_tellWork_16 : decode cX9_tellWork 16 = .ok (.iastore, 1) := by decide +kernel
theorem dX9_tellWork_17 : decode cX9_tellWork 17 = .ok (.aload_n 0, 1) := by decide +kernel
theorem dX9_tellWork_18 : decode cX9_tellWork 18 = .ok (.getfield 21, 3) := by decide +kernel
theorem dX9_tellWork_21 : decode cX9_tellWork 21 = .ok (.iload_n 1, 1) := by decide +kernel
theorem dX9_tellWork_22 : decode cX9_tellWork 22 = .ok (.iload_n 3, 1) := by decide +kernel
theorem dX9_tellWork_23 : decode cX9_tellWork 23 = .ok (.iastore, 1) := by decide +kernel
theorem dX9_tellWork_24 : decode cX9_tellWork 24 = .ok (.return_, 1) := by decide +kernel
theorem dX9_tellBread_0 : decode cX9_tellBread 0 = .ok (.iload_n 1, 1) := by decide +kernel
theorem dX9_tellBread_1 : decode cX9_tellBread 1 = .ok (.ifCond .lt 17, 3) := by decide +kernel
theorem dX9_tellBread_4 : decode cX9_tellBread 4 = .ok (.iload_n 1, 1) := by decide +kernel
theorem dX9_tellBread_5 : decode cX9_tellBread 5 = .ok (.iconst 2, 1) := by decide +kernel
theorem dX9_tellBread_6 : decode cX9_tellBread 6 = .ok (.if_icmp .ge 12, 3) := by decide +kernel
theorem dX9_tellBread_9 : decode cX9_tellBread 9 = .ok (.iload_n 2, 1) := by decide +kernel
theorem dX9_tellBread_10 : decode cX9_tellBread 10 = .ok (.ifCond .lt 8, 3) := by decide +kernel
theorem dX9_tellBread_13 : decode cX9_tellBread 13 = .ok (.iload_n 2, 1) := by decide +kernel
theorem dX9_tellBread_14 : decode cX9_tellBread 14 = .ok (.iconst 5, 1) := by decide +kernel
theorem dX9_tellBread_15 : decode cX9_tellBread 15 = .ok (.if_icmp .lt 4, 3) := by decide +kernel
theorem dX9_tellBread_18 : decode cX9_tellBread 18 = .ok (.return_, 1) := by decide +kernel
theorem dX9_tellBread_19 : decode cX9_tellBread 19 = .ok (.aload_n 0, 1) := by decide +kernel
theorem dX9_tellBread_20 : decode cX9_tellBread 20 = .ok (.getfield 18, 3) := by decide +kernel
theorem dX9_tellBread_23 : decode cX9_tellBread 23 = .ok (.iload_n 1, 1) := by decide +kernel
theorem dX9_tellBread_24 : decode cX9_tellBread 24 = .ok (.iconst 5, 1) := by decide +kernel
theorem dX9_tellBread_25 : decode cX9_tellBread 25 = .ok (.imul, 1) := by decide +kernel
theorem dX9_tellBread_26 : decode cX9_tellBread 26 = .ok (.iload_n 2, 1) := by decide +kernel
theorem dX9_tellBread_27 : decode cX9_tellBread 27 = .ok (.iadd, 1) := by decide +kernel
theorem dX9_tellBread_28 : decode cX9_tellBread 28 = .ok (.iload_n 3, 1) := by decide +kernel
theorem dX9_tellBread_29 : decode cX9_tellBread 29 = .ok (.iastore, 1) := by decide +kernel
theorem dX9_tellBread_30 : decode cX9_tellBread 30 = .ok (.return_, 1) := by decide +kernel
theorem dX9_tellKind_0 : decode cX9_tellKind 0 = .ok (.aload_n 0, 1) := by decide +kernel
theorem dX9_tellKind_1 : decode cX9_tellKind 1 = .ok (.iload_n 1, 1) := by decide +kernel
theorem dX9_tellKind_2 : decode cX9_tellKind 2 = .ok (.invokevirtual 50, 3) := by decide +kernel
theorem dX9_tellKind_5 : decode cX9_tellKind 5 = .ok (.ifCond .eq 16, 3) := by decide +kernel
theorem dX9_tellKind_8 : decode cX9_tellKind 8 = .ok (.iload_n 1, 1) := by decide +kernel
theorem dX9_tellKind_9 : decode cX9_tellKind 9 = .ok (.bipush 6, 2) := by decide +kernel
theorem dX9_tellKind_11 : decode cX9_tellKind 11 = .ok (.if_icmp .ge 10, 3) := by decide +kernel
theorem dX9_tellKind_14 : decode cX9_tellKind 14 = .ok (.aload_n 0, 1) := by decide +kernel
theorem dX9_tellKind_15 : decode cX9_tellKind 15 = .ok (.getfield 9, 3) := by decide +kernel
theorem dX9_tellKind_18 : decode cX9_tellKind 18 = .ok (.iload_n 1, 1) := by decide +kernel
theorem dX9_tellKind_19 : decode cX9_tellKind 19 = .ok (.iload_n 2, 1) := by decide +kernel
theorem dX9_tellKind_20 : decode cX9_tellKind 20 = .ok (.iastore, 1) := by decide +kernel
theorem dX9_tellKind_21 : decode cX9_tellKind 21 = .ok (.return_, 1) := by decide +kernel
theorem dX9_tellMeant_0 : decode cX9_tellMeant 0 = .ok (.iload_n 1, 1) := by decide +kernel
theorem dX9_tellMeant_1 : decode cX9_tellMeant 1 = .ok (.bipush 48, 2) := by decide +kernel
theorem dX9_tellMeant_3 : decode cX9_tellMeant 3 = .ok (.imul, 1) := by decide +kernel
theorem dX9_tellMeant_4 : decode cX9_tellMeant 4 = .ok (.iload_n 2, 1) := by decide +kernel
theorem dX9_tellMeant_5 : decode cX9_tellMeant 5 = .ok (.iadd, 1) := by decide +kernel
theorem dX9_tellMeant_6 : decode cX9_tellMeant 6 = .ok (.istore 4, 2) := by decide +kernel
theorem dX9_tellMeant_8 : decode cX9_tellMeant 8 = .ok (.iload 4, 2) := by decide +kernel
theorem dX9_tellMeant_10 : decode cX9_tellMeant 10 = .ok (.iconst 0, 1) := by decide +kernel
theorem dX9_tellMeant_11 : decode cX9_tellMeant 11 = .ok (.aload_n 0, 1) := by decide +kernel
theorem dX9_tellMeant_12 : decode cX9_tellMeant 12 = .ok (.getfield 24, 3) := by decide +kernel
theorem dX9_tellMeant_15 : decode cX9_tellMeant 15 = .ok (.arraylength, 1) := by decide +kernel
theorem dX9_tellMeant_16 : decode cX9_tellMeant 16 = .ok (.iconst 1, 1) := by decide +kernel
theorem dX9_tellMeant_17 : decode cX9_tellMeant 17 = .ok (.isub, 1) := by decide +kernel
theorem dX9_tellMeant_18 : decode cX9_tellMeant 18 = .ok (.invokestatic 54, 3) := by decide +kernel
theorem dX9_tellMeant_21 : decode cX9_tellMeant 21 = .ok (.ifCond .eq 11, 3) := by decide +kernel
theorem dX9_tellMeant_24 : decode cX9_tellMeant 24 = .ok (.aload_n 0, 1) := by decide +kernel
theorem dX9_tellMeant_25 : decode cX9_tellMeant 25 = .ok (.getfield 24, 3) := by decide +kernel
theorem dX9_tellMeant_28 : decode cX9_tellMeant 28 = .ok (.iload 4, 2) := by decide +kernel
theorem dX9_tellMeant_30 : decode cX9_tellMeant 30 = .ok (.iload_n 3, 1) := by decide +kernel
theorem dX9_tellMeant_31 : decode cX9_tellMeant 31 = .ok (.iastore, 1) := by decide +kernel
theorem dX9_tellMeant_32 : decode cX9_tellMeant 32 = .ok (.return_, 1) := by decide +kernel
theorem dX9_hasPair_0 : decode cX9_hasPair 0 = .ok (.iload_n 1, 1) := by decide +kernel
theorem dX9_hasPair_1 : decode cX9_hasPair 1 = .ok (.iconst 0, 1) := by decide +kernel
theorem dX9_hasPair_2 : decode cX9_hasPair 2 = .ok (.aload_n 0, 1) := by decide +kernel
theorem dX9_hasPair_3 : decode cX9_hasPair 3 = .ok (.getfield 35, 3) := by decide +kernel
theorem dX9_hasPair_6 : decode cX9_hasPair 6 = .ok (.iconst 1, 1) := by decide +kernel
theorem dX9_hasPair_7 : decode cX9_hasPair 7 = .ok (.isub, 1) := by decide +kernel
theorem dX9_hasPair_8 : decode cX9_hasPair 8 = .ok (.invokestatic 54, 3) := by decide +kernel
theorem dX9_hasPair_11 : decode cX9_hasPair 11 = .ok (.ireturn, 1) := by decide +kernel
theorem dX9_hasHour_0 : decode cX9_hasHour 0 = .ok (.iload_n 1, 1) := by decide +kernel
theorem dX9_hasHour_1 : decode cX9_hasHour 1 = .ok (.iconst 0, 1) := by decide +kernel
theorem dX9_hasHour_2 : decode cX9_hasHour 2 = .ok (.aload_n 0, 1) := by decide +kernel
theorem dX9_hasHour_3 : decode cX9_hasHour 3 = .ok (.getfield 38, 3) := by decide +kernel
theorem dX9_hasHour_6 : decode cX9_hasHour 6 = .ok (.iconst 1, 1) := by decide +kernel
theorem dX9_hasHour_7 : decode cX9_hasHour 7 = .ok (.isub, 1) := by decide +kernel
theorem dX9_hasHour_8 : decode cX9_hasHour 8 = .ok (.invokestatic 54, 3) := by decide +kernel
theorem dX9_hasHour_11 : decode cX9_hasHour 11 = .ok (.ireturn, 1) := by decide +kernel
theorem dX9_kindOf_0 : decode cX9_kindOf 0 = .ok (.iload_n 1, 1) := by decide +kernel
theorem dX9_kindOf_1 : decode cX9_kindOf 1 = .ok (.ifCond .lt 26, 3) := by decide +kernel
theorem dX9_kindOf_4 : decode cX9_kindOf 4 = .ok (.iload_n 1, 1) := by decide +kernel
theorem dX9_kindOf_5 : decode cX9_kindOf 5 = .ok (.aload_n 0, 1) := by decide +kernel
theorem dX9_kindOf_6 : decode cX9_kindOf 6 = .ok (.getfield 35, 3) := by decide +kernel
theorem dX9_kindOf_9 : decode cX9_kindOf 9 = .ok (.if_icmp .ge 18, 3) := by decide +kernel
theorem dX9_kindOf_12 : decode cX9_kindOf 12 = .ok (.iload_n 1, 1) := by decide +kernel
theorem dX9_kindOf_13 : decode cX9_kindOf 13 = .ok (.bipush 6, 2) := by decide +kernel
theorem dX9_kindOf_15 : decode cX9_kindOf 15 = .ok (.if_icmp .ge 12, 3) := by decide +kernel
theorem dX9_kindOf_18 : decode cX9_kindOf 18 = .ok (.aload_n 0, 1) := by decide +kernel
theorem dX9_kindOf_19 : decode cX9_kindOf 19 = .ok (.getfield 9, 3) := by decide +kernel
theorem dX9_kindOf_22 : decode cX9_kindOf 22 = .ok (.iload_n 1, 1) := by decide +kernel
theorem dX9_kindOf_23 : decode cX9_kindOf 23 = .ok (.iaload, 1) := by decide +kernel
theorem dX9_kindOf_24 : decode cX9_kindOf 24 = .ok (.goto 4, 3) := by decide +kernel
theorem dX9_kindOf_27 : decode cX9_kindOf 27 = .ok (.iconst (-1), 1) := by decide +kernel
theorem dX9_kindOf_28 : decode cX9_kindOf 28 = .ok (.ireturn, 1) := by decide +kernel
theorem dX9_classOf_0 : decode cX9_classOf 0 = .ok (.iload_n 1, 1) := by decide +kernel
theorem dX9_classOf_1 : decode cX9_classOf 1 = .ok (.ifCond .lt 17, 3) := by decide +kernel
theorem dX9_classOf_4 : decode cX9_classOf 4 = .ok (.iload_n 1, 1) := by decide +kernel
theorem dX9_classOf_5 : decode cX9_classOf 5 = .ok (.iconst 5, 1) := by decide +kernel
theorem dX9_classOf_6 : decode cX9_classOf 6 = .ok (.if_icmp .ge 12, 3) := by decide +kernel
theorem dX9_classOf_9 : decode cX9_classOf 9 = .ok (.aload_n 0, 1) := by decide +kernel
theorem dX9_classOf_10 : decode cX9_classOf 10 = .ok (.getfield 15, 3) := by decide +kernel
theorem dX9_classOf_13 : decode cX9_classOf 13 = .ok (.iload_n 1, 1) := by decide +kernel
theorem dX9_classOf_14 : decode cX9_classOf 14 = .ok (.iaload, 1) := by decide +kernel
theorem dX9_classOf_15 : decode cX9_classOf 15 = .ok (.goto 4, 3) := by decide +kernel
theorem dX9_classOf_18 : decode cX9_classOf 18 = .ok (.iconst 4, 1) := by decide +kernel
theorem dX9_classOf_19 : decode cX9_classOf 19 = .ok (.ireturn, 1) := by decide +kernel
theorem dX9_worthOf_0 : decode cX9_worthOf 0 = .ok (.iload_n 1, 1) := by decide +kernel
theorem dX9_worthOf_1 : decode cX9_worthOf 1 = .ok (.ifCond .lt 17, 3) := by decide +kernel
theorem dX9_worthOf_4 : decode cX9_worthOf 4 = .ok (.iload_n 1, 1) := by decide +kernel
theorem dX9_worthOf_5 : decode cX9_worthOf 5 = .ok (.iconst 5, 1) := by decide +kernel
theorem dX9_worthOf_6 : decode cX9_worthOf 6 = .ok (.if_icmp .ge 12, 3) := by decide +kernel
theorem dX9_worthOf_9 : decode cX9_worthOf 9 = .ok (.aload_n 0, 1) := by decide +kernel
theorem dX9_worthOf_10 : decode cX9_worthOf 10 = .ok (.getfield 21, 3) := by decide +kernel
theorem dX9_worthOf_13 : decode cX9_worthOf 13 = .ok (.iload_n 1, 1) := by decide +kernel
theorem dX9_worthOf_14 : decode cX9_worthOf 14 = .ok (.iaload, 1) := by decide +kernel
theorem dX9_worthOf_15 : decode cX9_worthOf 15 = .ok (.goto 4, 3) := by decide +kernel
theorem dX9_worthOf_18 : decode cX9_worthOf 18 = .ok (.iconst 0, 1) := by decide +kernel
theorem dX9_worthOf_19 : decode cX9_worthOf 19 = .ok (.ireturn, 1) := by decide +kernel
theorem dX9_breadOf_0 : decode cX9_breadOf 0 = .ok (.iload_n 1, 1) := by decide +kernel
theorem dX9_breadOf_1 : decode cX9_breadOf 1 = .ok (.ifCond .lt 21, 3) := by decide +kernel
theorem dX9_breadOf_4 : decode cX9_breadOf 4 = .ok (.iload_n 1, 1) := by decide +kernel
theorem dX9_breadOf_5 : decode cX9_breadOf 5 = .ok (.iconst 2, 1) := by decide +kernel
theorem dX9_breadOf_6 : decode cX9_breadOf 6 = .ok (.if_icmp .ge 16, 3) := by decide +kernel
theorem dX9_breadOf_9 : decode cX9_breadOf 9 = .ok (.iload_n 2, 1) := by decide +kernel
theorem dX9_breadOf_10 : decode cX9_breadOf 10 = .ok (.ifCond .lt 12, 3) := by decide +kernel
theorem dX9_breadOf_13 : decode cX9_breadOf 13 = .ok (.iload_n 2, 1) := by decide +kernel
theorem dX9_breadOf_14 : decode cX9_breadOf 14 = .ok (.iconst 5, 1) := by decide +kernel
theorem dX9_breadOf_15 : decode cX9_breadOf 15 = .ok (.if_icmp .ge 7, 3) := by decide +kernel
theorem dX9_breadOf_18 : decode cX9_breadOf 18 = .ok (.iconst 1, 1) := by decide +kernel
theorem dX9_breadOf_19 : decode cX9_breadOf 19 = .ok (.goto 4, 3) := by decide +kernel
theorem dX9_breadOf_22 : decode cX9_breadOf 22 = .ok (.iconst 0, 1) := by decide +kernel
theorem dX9_breadOf_23 : decode cX9_breadOf 23 = .ok (.istore_n 3, 1) := by decide +kernel
theorem dX9_breadOf_24 : decode cX9_breadOf 24 = .ok (.iload_n 3, 1) := by decide +kernel
theorem dX9_breadOf_25 : decode cX9_breadOf 25 = .ok (.ifCond .eq 16, 3) := by decide +kernel
theorem dX9_breadOf_28 : decode cX9_breadOf 28 = .ok (.aload_n 0, 1) := by decide +kernel
theorem dX9_breadOf_29 : decode cX9_breadOf 29 = .ok (.getfield 18, 3) := by decide +kernel
theorem dX9_breadOf_32 : decode cX9_breadOf 32 = .ok (.iload_n 1, 1) := by decide +kernel
theorem dX9_breadOf_33 : decode cX9_breadOf 33 = .ok (.iconst 5, 1) := by decide +kernel
theorem dX9_breadOf_34 : decode cX9_breadOf 34 = .ok (.imul, 1) := by decide +kernel
theorem dX9_breadOf_35 : decode cX9_breadOf 35 = .ok (.iload_n 2, 1) := by decide +kernel
theorem dX9_breadOf_36 : decode cX9_breadOf 36 = .ok (.iadd, 1) := by decide +kernel
theorem dX9_breadOf_37 : decode cX9_breadOf 37 = .ok (.iaload, 1) := by decide +kernel
theorem dX9_breadOf_38 : decode cX9_breadOf 38 = .ok (.goto 4, 3) := by decide +kernel
theorem dX9_breadOf_41 : decode cX9_breadOf 41 = .ok (.iconst 0, 1) := by decide +kernel
theorem dX9_breadOf_42 : decode cX9_breadOf 42 = .ok (.ireturn, 1) := by decide +kernel
theorem dX9_meantOn_0 : decode cX9_meantOn 0 = .ok (.iload_n 1, 1) := by decide +kernel
theorem dX9_meantOn_1 : decode cX9_meantOn 1 = .ok (.bipush 48, 2) := by decide +kernel
theorem dX9_meantOn_3 : decode cX9_meantOn 3 = .ok (.imul, 1) := by decide +kernel
theorem dX9_meantOn_4 : decode cX9_meantOn 4 = .ok (.iload_n 2, 1) := by decide +kernel
theorem dX9_meantOn_5 : decode cX9_meantOn 5 = .ok (.iload_n 3, 1) := by decide +kernel
theorem dX9_meantOn_6 : decode cX9_meantOn 6 = .ok (.iload 4, 2) := by decide +kernel
theorem dX9_meantOn_8 : decode cX9_meantOn 8 = .ok (.invokestatic 58, 3) := by decide +kernel
theorem dX9_meantOn_11 : decode cX9_meantOn 11 = .ok (.iadd, 1) := by decide +kernel
theorem dX9_meantOn_12 : decode cX9_meantOn 12 = .ok (.istore 5, 2) := by decide +kernel
theorem dX9_meantOn_14 : decode cX9_meantOn 14 = .ok (.iload 5, 2) := by decide +kernel
theorem dX9_meantOn_16 : decode cX9_meantOn 16 = .ok (.iconst 0, 1) := by decide +kernel
theorem dX9_meantOn_17 : decode cX9_meantOn 17 = .ok (.aload_n 0, 1) := by decide +kernel
theorem dX9_meantOn_18 : decode cX9_meantOn 18 = .ok (.getfield 24, 3) := by decide +kernel
theorem dX9_meantOn_21 : decode cX9_meantOn 21 = .ok (.arraylength, 1) := by decide +kernel
theorem dX9_meantOn_22 : decode cX9_meantOn 22 = .ok (.iconst 1, 1) := by decide +kernel
theorem dX9_meantOn_23 : decode cX9_meantOn 23 = .ok (.isub, 1) := by decide +kernel
theorem dX9_meantOn_24 : decode cX9_meantOn 24 = .ok (.invokestatic 54, 3) := by decide +kernel
theorem dX9_meantOn_27 : decode cX9_meantOn 27 = .ok (.ifCond .eq 13, 3) := by decide +kernel
theorem dX9_meantOn_30 : decode cX9_meantOn 30 = .ok (.aload_n 0, 1) := by decide +kernel
theorem dX9_meantOn_31 : decode cX9_meantOn 31 = .ok (.getfield 24, 3) := by decide +kernel
theorem dX9_meantOn_34 : decode cX9_meantOn 34 = .ok (.iload 5, 2) := by decide +kernel
theorem dX9_meantOn_36 : decode cX9_meantOn 36 = .ok (.iaload, 1) := by decide +kernel
theorem dX9_meantOn_37 : decode cX9_meantOn 37 = .ok (.goto 4, 3) := by decide +kernel
theorem dX9_meantOn_40 : decode cX9_meantOn 40 = .ok (.iconst 5, 1) := by decide +kernel
theorem dX9_meantOn_41 : decode cX9_meantOn 41 = .ok (.ireturn, 1) := by decide +kernel
theorem dX9_canBeDone_0 : decode cX9_canBeDone 0 = .ok (.aload_n 0, 1) := by decide +kernel
theorem dX9_canBeDone_1 : decode cX9_canBeDone 1 = .ok (.iload_n 1, 1) := by decide +kernel
theorem dX9_canBeDone_2 : decode cX9_canBeDone 2 = .ok (.iload_n 2, 1) := by decide +kernel
theorem dX9_canBeDone_3 : decode cX9_canBeDone 3 = .ok (.invokevirtual 62, 3) := by decide +kernel
theorem dX9_canBeDone_6 : decode cX9_canBeDone 6 = .ok (.iconst (-1), 1) := by decide +kernel
theorem dX9_canBeDone_7 : decode cX9_canBeDone 7 = .ok (.if_icmp .eq 7, 3) := by decide +kernel
theorem dX9_canBeDone_10 : decode cX9_canBeDone 10 = .ok (.iconst 1, 1) := by decide +kernel
theorem dX9_canBeDone_11 : decode cX9_canBeDone 11 = .ok (.goto 4, 3) := by decide +kernel
theorem dX9_canBeDone_14 : decode cX9_canBeDone 14 = .ok (.iconst 0, 1) := by decide +kernel
theorem dX9_canBeDone_15 : decode cX9_canBeDone 15 = .ok (.ireturn, 1) := by decide +kernel
theorem dX9_mayDo_0 : decode cX9_mayDo 0 = .ok (.iload 4, 2) := by decide +kernel
theorem dX9_mayDo_2 : decode cX9_mayDo 2 = .ok (.iconst 5, 1) := by decide +kernel
theorem dX9_mayDo_3 : decode cX9_mayDo 3 = .ok (.if_icmp .ne 5, 3) := by decide +kernel
theorem dX9_mayDo_6 : decode cX9_mayDo 6 = .ok (.iconst 1, 1) := by decide +kernel
theorem dX9_mayDo_7 : decode cX9_mayDo 7 = .ok (.ireturn, 1) := by decide +kernel
theorem dX9_mayDo_8 : decode cX9_mayDo 8 = .ok (.aload_n 0, 1) := by decide +kernel
theorem dX9_mayDo_9 : decode cX9_mayDo 9 = .ok (.iload_n 1, 1) := by decide +kernel
theorem dX9_mayDo_10 : decode cX9_mayDo 10 = .ok (.iload 4, 2) := by decide +kernel
theorem dX9_mayDo_12 : decode cX9_mayDo 12 = .ok (.invokevirtual 62, 3) := by decide +kernel
theorem dX9_mayDo_15 : decode cX9_mayDo 15 = .ok (.iconst (-1), 1) := by decide +kernel
theorem dX9_mayDo_16 : decode cX9_mayDo 16 = .ok (.if_icmp .ne 5, 3) := by decide +kernel
theorem dX9_mayDo_19 : decode cX9_mayDo 19 = .ok (.iconst 0, 1) := by decide +kernel
theorem dX9_mayDo_20 : decode cX9_mayDo 20 = .ok (.ireturn, 1) := by decide +kernel
theorem dX9_mayDo_21 : decode cX9_mayDo 21 = .ok (.aload_n 0, 1) := by decide +kernel
theorem dX9_mayDo_22 : decode cX9_mayDo 22 = .ok (.iload_n 2, 1) := by decide +kernel
theorem dX9_mayDo_23 : decode cX9_mayDo 23 = .ok (.invokevirtual 66, 3) := by decide +kernel
theorem dX9_mayDo_26 : decode cX9_mayDo 26 = .ok (.istore 5, 2) := by decide +kernel
theorem dX9_mayDo_28 : decode cX9_mayDo 28 = .ok (.iload 5, 2) := by decide +kernel
theorem dX9_mayDo_30 : decode cX9_mayDo 30 = .ok (.iconst 1, 1) := by decide +kernel
theorem dX9_mayDo_31 : decode cX9_mayDo 31 = .ok (.if_icmp .ne 15, 3) := by decide +kernel
theorem dX9_mayDo_34 : decode cX9_mayDo 34 = .ok (.aload_n 0, 1) := by decide +kernel
theorem dX9_mayDo_35 : decode cX9_mayDo 35 = .ok (.iload 4, 2) := by decide +kernel
theorem dX9_mayDo_37 : decode cX9_mayDo 37 = .ok (.invokevirtual 70, 3) := by decide +kernel
theorem dX9_mayDo_40 : decode cX9_mayDo 40 = .ok (.iconst 3, 1) := by decide +kernel
theorem dX9_mayDo_41 : decode cX9_mayDo 41 = .ok (.if_icmp .ne 5, 3) := by decide +kernel
theorem dX9_mayDo_44 : decode cX9_mayDo 44 = .ok (.iconst 0, 1) := by decide +kernel
theorem dX9_mayDo_45 : decode cX9_mayDo 45 = .ok (.ireturn, 1) := by decide +kernel
theorem dX9_mayDo_46 : decode cX9_mayDo 46 = .ok (.iload 5, 2) := by decide +kernel
theorem dX9_mayDo_48 : decode cX9_mayDo 48 = .ok (.iconst 2, 1) := by decide +kernel
theorem dX9_mayDo_49 : decode cX9_mayDo 49 = .ok (.if_icmp .ne 21, 3) := by decide +kernel
theorem dX9_mayDo_52 : decode cX9_mayDo 52 = .ok (.aload_n 0, 1) := by decide +kernel
theorem dX9_mayDo_53 : decode cX9_mayDo 53 = .ok (.getfield 38, 3) := by decide +kernel
theorem dX9_mayDo_56 : decode cX9_mayDo 56 = .ok (.iconst 2, 1) := by decide +kernel
theorem dX9_mayDo_57 : decode cX9_mayDo 57 = .ok (.if_icmp .lt 13, 3) := by decide +kernel
theorem dX9_mayDo_60 : decode cX9_mayDo 60 = .ok (.iload_n 3, 1) := by decide +kernel
theorem dX9_mayDo_61 : decode cX9_mayDo 61 = .ok (.aload_n 0, 1) := by decide +kernel
theorem dX9_mayDo_62 : decode cX9_mayDo 62 = .ok (.getfield 38, 3) := by decide +kernel
theorem dX9_mayDo_65 : decode cX9_mayDo 65 = .ok (.iconst 1, 1) := by decide +kernel
theorem dX9_mayDo_66 : decode cX9_mayDo 66 = .ok (.isub, 1) := by decide +kernel
theorem dX9_mayDo_67 : decode cX9_mayDo 67 = .ok (.if_icmp .eq 7, 3) := by decide +kernel
theorem dX9_mayDo_70 : decode cX9_mayDo 70 = .ok (.iconst 1, 1) := by decide +kernel
theorem dX9_mayDo_71 : decode cX9_mayDo 71 = .ok (.goto 4, 3) := by decide +kernel
theorem dX9_mayDo_74 : decode cX9_mayDo 74 = .ok (.iconst 0, 1) := by decide +kernel
theorem dX9_mayDo_75 : decode cX9_mayDo 75 = .ok (.ireturn, 1) := by decide +kernel
theorem dX9_breadMade_0 : decode cX9_breadMade 0 = .ok (.aload_n 0, 1) := by decide +kernel
theorem dX9_breadMade_1 : decode cX9_breadMade 1 = .ok (.iload_n 1, 1) := by decide +kernel
theorem dX9_breadMade_2 : decode cX9_breadMade 2 = .ok (.iload_n 3, 1) := by decide +kernel
theorem dX9_breadMade_3 : decode cX9_breadMade 3 = .ok (.invokevirtual 62, 3) := by decide +kernel
theorem dX9_breadMade_6 : decode cX9_breadMade 6 = .ok (.istore 4, 2) := by decide +kernel
theorem dX9_breadMade_8 : decode cX9_breadMade 8 = .ok (.aload_n 0, 1) := by decide +kernel
theorem dX9_breadMade_9 : decode cX9_breadMade 9 = .ok (.iload_n 2, 1) := by decide +kernel
theorem dX9_breadMade_10 : decode cX9_breadMade 10 = .ok (.invokevirtual 66, 3) := by decide +kernel
theorem dX9_breadMade_13 : decode cX9_breadMade 13 = .ok (.iconst 2, 1) := by decide +kernel
theorem dX9_breadMade_14 : decode cX9_breadMade 14 = .ok (.if_icmp .ne 10, 3) := by decide +kernel
theorem dX9_breadMade_17 : decode cX9_breadMade 17 = .ok (.iload 4, 2) := by decide +kernel
theorem dX9_breadMade_19 : decode cX9_breadMade 19 = .ok (.iconst 2, 1) := by decide +kernel
theorem dX9_breadMade_20 : decode cX9_breadMade 20 = .ok (.idiv, 1) := by decide +kernel
theorem dX9_breadMade_21 : decode cX9_breadMade 21 = .ok (.goto 5, 3) := by decide +kernel
theorem dX9_breadMade_24 : decode cX9_breadMade 24 = .ok (.iload 4, 2) := by decide +kernel
theorem dX9_breadMade_26 : decode cX9_breadMade 26 = .ok (.ireturn, 1) := by decide +kernel
theorem dX9_keepsTreaty_0 : decode cX9_keepsTreaty 0 = .ok (.aload_n 0, 1) := by decide +kernel
theorem dX9_keepsTreaty_1 : decode cX9_keepsTreaty 1 = .ok (.iload_n 2, 1) := by decide +kernel
theorem dX9_keepsTreaty_2 : decode cX9_keepsTreaty 2 = .ok (.invokevirtual 66, 3) := by decide +kernel
theorem dX9_keepsTreaty_5 : decode cX9_keepsTreaty 5 = .ok (.iconst 3, 1) := by decide +kernel
theorem dX9_keepsTreaty_6 : decode cX9_keepsTreaty 6 = .ok (.if_icmp .ne 5, 3) := by decide +kernel
theorem dX9_keepsTreaty_9 : decode cX9_keepsTreaty 9 = .ok (.iconst 1, 1) := by decide +kernel
theorem dX9_keepsTreaty_10 : decode cX9_keepsTreaty 10 = .ok (.ireturn, 1) := by decide +kernel
theorem dX9_keepsTreaty_11 : decode cX9_keepsTreaty 11 = .ok (.aload_n 0, 1) := by decide +kernel
theorem dX9_keepsTreaty_12 : decode cX9_keepsTreaty 12 = .ok (.iload_n 3, 1) := by decide +kernel
theorem dX9_keepsTreaty_13 : decode cX9_keepsTreaty 13 = .ok (.invokevirtual 70, 3) := by decide +kernel
theorem dX9_keepsTreaty_16 : decode cX9_keepsTreaty 16 = .ok (.aload_n 0, 1) := by decide +kernel
theorem dX9_keepsTreaty_17 : decode cX9_keepsTreaty 17 = .ok (.iload 4, 2) := by decide +kernel
theorem dX9_keepsTreaty_19 : decode cX9_keepsTreaty 19 = .ok (.invokevirtual 70, 3) := by decide +kernel
theorem dX9_keepsTreaty_22 : decode cX9_keepsTreaty 22 = .ok (.if_icmp .ne 7, 3) := by decide +kernel
theorem dX9_keepsTreaty_25 : decode cX9_keepsTreaty 25 = .ok (.iconst 1, 1) := by decide +kernel
theorem dX9_keepsTreaty_26 : decode cX9_keepsTreaty 26 = .ok (.goto 4, 3) := by decide +kernel
theorem dX9_keepsTreaty_29 : decode cX9_keepsTreaty 29 = .ok (.iconst 0, 1) := by decide +kernel
theorem dX9_keepsTreaty_30 : decode cX9_keepsTreaty 30 = .ok (.istore 5, 2) := by decide +kernel
theorem dX9_keepsTreaty_32 : decode cX9_keepsTreaty 32 = .ok (.iload 5, 2) := by decide +kernel
theorem dX9_keepsTreaty_34 : decode cX9_keepsTreaty 34 = .ok (.iload_n 1, 1) := by decide +kernel
theorem dX9_keepsTreaty_35 : decode cX9_keepsTreaty 35 = .ok (.ifCond .ne 7, 3) := by decide +kernel
theorem dX9_keepsTreaty_38 : decode cX9_keepsTreaty 38 = .ok (.iconst 1, 1) := by decide +kernel
theorem dX9_keepsTreaty_39 : decode cX9_keepsTreaty 39 = .ok (.goto 4, 3) := by decide +kernel
theorem dX9_keepsTreaty_42 : decode cX9_keepsTreaty 42 = .ok (.iconst 0, 1) := by decide +kernel
theorem dX9_keepsTreaty_43 : decode cX9_keepsTreaty 43 = .ok (.if_icmp .ne 7, 3) := by decide +kernel
theorem dX9_keepsTreaty_46 : decode cX9_keepsTreaty 46 = .ok (.iconst 1, 1) := by decide +kernel
theorem dX9_keepsTreaty_47 : decode cX9_keepsTreaty 47 = .ok (.goto 4, 3) := by decide +kernel
theorem dX9_keepsTreaty_50 : decode cX9_keepsTreaty 50 = .ok (.iconst 0, 1) := by decide +kernel
theorem dX9_keepsTreaty_51 : decode cX9_keepsTreaty 51 = .ok (.ireturn, 1) := by decide +kernel
theorem dX10_init_0 : decode cX10_init 0 = .ok (.aload_n 0, 1) := by decide +kernel
theorem dX10_init_1 : decode cX10_init 1 = .ok (.invokespecial 3, 3) := by decide +kernel
theorem dX10_init_4 : decode cX10_init 4 = .ok (.aload_n 0, 1) := by decide +kernel
theorem dX10_init_5 : decode cX10_init 5 = .ok (.new 9, 3) := by decide +kernel
theorem dX10_init_8 : decode cX10_init 8 = .ok (.dup, 1) := by decide +kernel
theorem dX10_init_9 : decode cX10_init 9 = .ok (.invokespecial 11, 3) := by decide +kernel
theorem dX10_init_12 : decode cX10_init 12 = .ok (.putfield 12, 3) := by decide +kernel
theorem dX10_init_15 : decode cX10_init 15 = .ok (.aload_n 0, 1) := by decide +kernel
theorem dX10_init_16 : decode cX10_init 16 = .ok (.new 9, 3) := by decide +kernel
theorem dX10_init_19 : decode cX10_init 19 = .ok (.dup, 1) := by decide +kernel
theorem dX10_init_20 : decode cX10_init 20 = .ok (.invokespecial 11, 3) := by decide +kernel
theorem dX10_init_23 : decode cX10_init 23 = .ok (.putfield 16, 3) := by decide +kernel
theorem dX10_init_26 : decode cX10_init 26 = .ok (.aload_n 0, 1) := by decide +kernel
theorem dX10_init_27 : decode cX10_init 27 = .ok (.new 19, 3) := by decide +kernel
theorem dX10_init_30 : decode cX10_init 30 = .ok (.dup, 1) := by decide +kernel
theorem dX10_init_31 : decode cX10_init 31 = .ok (.invokespecial 21, 3) := by decide +kernel
theorem dX10_init_34 : decode cX10_init 34 = .ok (.putfield 22, 3) := by decide +kernel
theorem dX10_init_37 : decode cX10_init 37 = .ok (.aload_n 0, 1) := by decide +kernel
theorem dX10_init_38 : decode cX10_init 38 = .ok (.new 26, 3) := by decide +kernel
theorem dX10_init_41 : decode cX10_init 41 = .ok (.dup, 1) := by decide +kernel
theorem dX10_init_42 : decode cX10_init 42 = .ok (.aload_n 0, 1) := by decide +kernel
theorem dX10_init_43 : decode cX10_init 43 = .ok (.getfield 22, 3) := by decide +kernel
theorem dX10_init_46 : decode cX10_init 46 = .ok (.invokespecial 28, 3) := by decide +kernel
theorem dX10_init_49 : decode cX10_init 49 = .ok (.putfield 31, 3) := by decide +kernel
theorem dX10_init_52 : decode cX10_init 52 = .ok (.aload_n 0, 1) := by decide +kernel
theorem dX10_init_53 : decode cX10_init 53 = .ok (.new 35, 3) := by decide +kernel
theorem dX10_init_56 : decode cX10_init 56 = .ok (.dup, 1) := by decide +kernel
theorem dX10_init_57 : decode cX10_init 57 = .ok (.invokespecial 37, 3) := by decide +kernel
theorem dX10_init_60 : decode cX10_init 60 = .ok (.putfield 38, 3) := by decide +kernel
theorem dX10_init_63 : decode cX10_init 63 = .ok (.aload_n 0, 1) := by decide +kernel
theorem dX10_init_64 : decode cX10_init 64 = .ok (.iconst 2, 1) := by decide +kernel
theorem dX10_init_65 : decode cX10_init 65 = .ok (.anewarray 35, 3) := by decide +kernel
theorem dX10_init_68 : decode cX10_init 68 = .ok (.dup, 1) := by decide +kernel
theorem dX10_init_69 : decode cX10_init 69 = .ok (.iconst 0, 1) := by decide +kernel
theorem dX10_init_70 : decode cX10_init 70 = .ok (.new 35, 3) := by decide +kernel
theorem dX10_init_73 : decode cX10_init 73 = .ok (.dup, 1) := by decide +kernel
theorem dX10_init_74 : decode cX10_init 74 = .ok (.invokespecial 37, 3) := by decide +kernel
theorem dX10_init_77 : decode cX10_init 77 = .ok (.aastore, 1) := by decide +kernel
theorem dX10_init_78 : decode cX10_init 78 = .ok (.dup, 1) := by decide +kernel
theorem dX10_init_79 : decode cX10_init 79 = .ok (.iconst 1, 1) := by decide +kernel
theorem dX10_init_80 : decode cX10_init 80 = .ok (.new 35, 3) := by decide +kernel
theorem dX10_init_83 : decode cX10_init 83 = .ok (.dup, 1) := by decide +kernel
theorem dX10_init_84 : decode cX10_init 84 = .ok (.invokespecial 37, 3) := by decide +kernel
theorem dX10_init_87 : decode cX10_init 87 = .ok (.aastore, 1) := by decide +kernel
theorem dX10_init_88 : decode cX10_init 88 = .ok (.putfield 42, 3) := by decide +kernel
theorem dX10_init_91 : decode cX10_init 91 = .ok (.aload_n 0, 1) := by decide +kernel
theorem dX10_init_92 : decode cX10_init 92 = .ok (.iconst 2, 1) := by decide +kernel
theorem dX10_init_93 : decode cX10_init 93 = .ok (.newarray .boolean, 2) := by decide +kernel
theorem dX10_init_95 : decode cX10_init 95 = .ok (.putfield 46, 3) := by decide +kernel
theorem dX10_init_98 : decode cX10_init 98 = .ok (.aload_n 0, 1) := by decide +kernel
theorem dX10_init_99 : decode cX10_init 99 = .ok (.new 50, 3) := by decide +kernel
theorem dX10_init_102 : decode cX10_init 102 = .ok (.dup, 1) := by decide +kernel
theorem dX10_init_103 : decode cX10_init 103 = .ok (.aload_n 0, 1) := by decide +kernel
theorem dX10_init_104 : decode cX10_init 104 = .ok (.getfield 12, 3) := by decide +kernel
theorem dX10_init_107 : decode cX10_init 107 = .ok (.invokespecial 52, 3) := by decide +kernel
theorem dX10_init_110 : decode cX10_init 110 = .ok (.putfield 55, 3) := by decide +kernel
theorem dX10_init_113 : decode cX10_init 113 = .ok (.aload_n 0, 1) := by decide +kernel
theorem dX10_init_114 : decode cX10_init 114 = .ok (.new 59, 3) := by decide +kernel
theorem dX10_init_117 : decode cX10_init 117 = .ok (.dup, 1) := by decide +kernel
theorem dX10_init_118 : decode cX10_init 118 = .ok (.invokespecial 61, 3) := by decide +kernel
theorem dX10_init_121 : decode cX10_init 121 = .ok (.putfield 62, 3) := by decide +kernel
theorem dX10_init_124 : decode cX10_init 124 = .ok (.aload_n 0, 1) := by decide +kernel
theorem dX10_init_125 : decode cX10_init 125 = .ok (.new 66, 3) := by decide +kernel
theorem dX10_init_128 : decode cX10_init 128 = .ok (.dup, 1) := by decide +kernel
theorem dX10_init_129 : decode cX10_init 129 = .ok (.invokespecial 68, 3) := by decide +kernel
theorem dX10_init_132 : decode cX10_init 132 = .ok (.putfield 69, 3) := by decide +kernel
theorem dX10_init_135 : decode cX10_init 135 = .ok (.aload_n 0, 1) := by decide +kernel
theorem dX10_init_136 : decode cX10_init 136 = .ok (.new 73, 3) := by decide +kernel
theorem dX10_init_139 : decode cX10_init 139 = .ok (.dup, 1) := by decide +kernel
theorem dX10_init_140 : decode cX10_init 140 = .ok (.invokespecial 75, 3) := by decide +kernel
theorem dX10_init_143 : decode cX10_init 143 = .ok (.putfield 76, 3) := by decide +kernel
theorem dX10_init_146 : decode cX10_init 146 = .ok (.aload_n 0, 1) := by decide +kernel
theorem dX10_init_147 : decode cX10_init 147 = .ok (.new 80, 3) := by decide +kernel
theorem dX10_init_150 : decode cX10_init 150 = .ok (.dup, 1) := by decide +kernel
theorem dX10_init_151 : decode cX10_init 151 = .ok (.invokespecial 82, 3) := by decide +kernel
theorem dX10_init_154 : decode cX10_init 154 = .ok (.putfield 83, 3) := by decide +kernel
theorem dX10_init_157 : decode cX10_init 157 = .ok (.return_, 1) := by decide +kernel
theorem dX10_write_0 : decode cX10_write 0 = .ok (.iload_n 3, 1) := by decide +kernel
theorem dX10_write_1 : decode cX10_write 1 = .ok (.iconst 1, 1) := by decide +kernel
theorem dX10_write_2 : decode cX10_write 2 = .ok (.bipush 8, 2) := by decide +kernel
theorem dX10_write_4 : decode cX10_write 4 = .ok (.invokestatic 87, 3) := by decide +kernel
theorem dX10_write_7 : decode cX10_write 7 = .ok (.ifCond .ne 6, 3) := by decide +kernel
theorem dX10_write_10 : decode cX10_write 10 = .ok (.bipush (-3), 2) := by decide +kernel
theorem dX10_write_12 : decode cX10_write 12 = .ok (.ireturn, 1) := by decide +kernel
theorem dX10_write_13 : decode cX10_write 13 = .ok (.iload_n 3, 1) := by decide +kernel
theorem dX10_write_14 : decode cX10_write 14 = .ok (.sipush 200, 3) := by decide +kernel
theorem dX10_write_17 : decode cX10_write 17 = .ok (.aload_n 0, 1) := by decide +kernel
theorem dX10_write_18 : decode cX10_write 18 = .ok (.getfield 22, 3) := by decide +kernel
theorem dX10_write_21 : decode cX10_write 21 = .ok (.getfield 91, 3) := by decide +kernel
theorem dX10_write_24 : decode cX10_write 24 = .ok (.isub, 1) := by decide +kernel
theorem dX10_write_25 : decode cX10_write 25 = .ok (.if_icmp .le 6, 3) := by decide +kernel
theorem dX10_write_28 : decode cX10_write 28 = .ok (.bipush (-5), 2) := by decide +kernel
theorem dX10_write_30 : decode cX10_write 30 = .ok (.ireturn, 1) := by decide +kernel
theorem dX10_write_31 : decode cX10_write 31 = .ok (.aload_n 0, 1) := by decide +kernel
theorem dX10_write_32 : decode cX10_write 32 = .ok (.getfield 22, 3) := by decide +kernel
theorem dX10_write_35 : decode cX10_write 35 = .ok (.lload_n 1, 1) := by decide +kernel
theorem dX10_write_36 : decode cX10_write 36 = .ok (.iload_n 3, 1) := by decide +kernel
theorem dX10_write_37 : decode cX10_write 37 = .ok (.invokevirtual 95, 3) := by decide +kernel
theorem dX10_write_40 : decode cX10_write 40 = .ok (.aload_n 0, 1) := by decide +kernel
theorem dX10_write_41 : decode cX10_write 41 = .ok (.getfield 22, 3) := by decide +kernel
theorem dX10_write_44 : decode cX10_write 44 = .ok (.getfield 91, 3) := by decide +kernel
theorem dX10_write_47 : decode cX10_write 47 = .ok (.ireturn, 1) := by decide +kernel
theorem dX10_erase_0 : decode cX10_erase 0 = .ok (.aload_n 0, 1) := by decide +kernel
theorem dX10_erase_1 : decode cX10_erase 1 = .ok (.getfield 22, 3) := by decide +kernel
theorem dX10_erase_4 : decode cX10_erase 4 = .ok (.getfield 91, 3) := by decide +kernel
theorem dX10_erase_7 : decode cX10_erase 7 = .ok (.istore_n 1, 1) := by decide +kernel
theorem dX10_erase_8 : decode cX10_erase 8 = .ok (.aload_n 0, 1) := by decide +kernel
theorem dX10_erase_9 : decode cX10_erase 9 = .ok (.getfield 22, 3) := by decide +kernel
theorem dX10_erase_12 : decode cX10_erase 12 = .ok (.iconst 0, 1) := by decide +kernel
theorem dX10_erase_13 : decode cX10_erase 13 = .ok (.putfield 91, 3) := by decide +kernel
theorem dX10_erase_16 : decode cX10_erase 16 = .ok (.iload_n 1, 1) := by decide +kernel
theorem dX10_erase_17 : decode cX10_erase 17 = .ok (.ireturn, 1) := by decide +kernel
theorem dX10_fault_0 : decode cX10_fault 0 = .ok (.aload_n 0, 1) := by decide +kernel
theorem dX10_fault_1 : decode cX10_fault 1 = .ok (.getfield 16, 3) := by decide +kernel
theorem dX10_fault_4 : decode cX10_fault 4 = .ok (.aload_n 0, 1) := by decide +kernel
theorem dX10_fault_5 : decode cX10_fault 5 = .ok (.getfield 12, 3) := by decide +kernel
theorem dX10_fault_8 : decode cX10_fault 8 = .ok (.invokevirtual 99, 3) := by decide +kernel
theorem dX10_fault_11 : decode cX10_fault 11 = .ok (.aload_n 0, 1) := by decide +kernel
theorem dX10_fault_12 : decode cX10_fault 12 = .ok (.getfield 31, 3) := by decide +kernel
theorem dX10_fault_15 : decode cX10_fault 15 = .ok (.aload_n 0, 1) := by decide +kernel
theorem dX10_fault_16 : decode cX10_fault 16 = .ok (.getfield 16, 3) := by decide +kernel
theorem dX10_fault_19 : decode cX10_fault 19 = .ok (.invokevirtual 102, 3) := by decide +kernel
theorem dX10_fault_22 : decode cX10_fault 22 = .ok (.ireturn, 1) := by decide +kernel
theorem dX10_treaty_0 : decode cX10_treaty 0 = .ok (.aload_n 0, 1) := by decide +kernel
theorem dX10_treaty_1 : decode cX10_treaty 1 = .ok (.getfield 16, 3) := by decide +kernel
theorem dX10_treaty_4 : decode cX10_treaty 4 = .ok (.aload_n 0, 1) := by decide +kernel
theorem dX10_treaty_5 : decode cX10_treaty 5 = .ok (.getfield 12, 3) := by decide +kernel
theorem dX10_treaty_8 : decode cX10_treaty 8 = .ok (.invokevirtual 99, 3) := by decide +kernel
theorem dX10_treaty_11 : decode cX10_treaty 11 = .ok (.aload_n 0, 1) := by decide +kernel
theorem dX10_treaty_12 : decode cX10_treaty 12 = .ok (.getfield 31, 3) := by decide +kernel
theorem dX10_treaty_15 : decode cX10_treaty 15 = .ok (.aload_n 0, 1) := by decide +kernel
theorem dX10_treaty_16 : decode cX10_treaty 16 = .ok (.getfield 16, 3) := by decide +kernel
theorem dX10_treaty_19 : decode cX10_treaty 19 = .ok (.invokevirtual 102, 3) := by decide +kernel
theorem dX10_treaty_22 : decode cX10_treaty 22 = .ok (.iconst (-1), 1) := by decide +kernel
theorem dX10_treaty_23 : decode cX10_treaty 23 = .ok (.if_icmp .eq 6, 3) := by decide +kernel
theorem dX10_treaty_26 : decode cX10_treaty 26 = .ok (.bipush (-4), 2) := by decide +kernel
theorem dX10_treaty_28 : decode cX10_treaty 28 = .ok (.ireturn, 1) := by decide +kernel
theorem dX10_treaty_29 : decode cX10_treaty 29 = .ok (.aload_n 0, 1) := by decide +kernel
theorem dX10_treaty_30 : decode cX10_treaty 30 = .ok (.getfield 12, 3) := by decide +kernel
theorem dX10_treaty_33 : decode cX10_treaty 33 = .ok (.aload_n 0, 1) := by decide +kernel
theorem dX10_treaty_34 : decode cX10_treaty 34 = .ok (.getfield 16, 3) := by decide +kernel
theorem dX10_treaty_37 : decode cX10_treaty 37 = .ok (.invokevirtual 99, 3) := by decide +kernel
theorem dX10_treaty_40 : decode cX10_treaty 40 = .ok (.aload_n 0, 1) := by decide +kernel
theorem dX10_treaty_41 : decode cX10_treaty 41 = .ok (.getfield 22, 3) := by decide +kernel
theorem dX10_treaty_44 : decode cX10_treaty 44 = .ok (.iconst 0, 1) := by decide +kernel
theorem dX10_treaty_45 : decode cX10_treaty 45 = .ok (.putfield 91, 3) := by decide +kernel
theorem dX10_treaty_48 : decode cX10_treaty 48 = .ok (.aload_n 0, 1) := by decide +kernel
theorem dX10_treaty_49 : decode cX10_treaty 49 = .ok (.getfield 38, 3) := by decide +kernel
theorem dX10_treaty_52 : decode cX10_treaty 52 = .ok (.invokevirtual 106, 3) := by decide +kernel
theorem dX10_treaty_55 : decode cX10_treaty 55 = .ok (.aload_n 0, 1) := by decide +kernel
theorem dX10_treaty_56 : decode cX10_treaty 56 = .ok (.getfield 55, 3) := by decide +kernel
theorem dX10_treaty_59 : decode cX10_treaty 59 = .ok (.invokevirtual 109, 3) := by decide +kernel
theorem dX10_treaty_62 : decode cX10_treaty 62 = .ok (.iconst 0, 1) := by decide +kernel
theorem dX10_treaty_63 : decode cX10_treaty 63 = .ok (.istore_n 1, 1) := by decide +kernel
theorem dX10_treaty_64 : decode cX10_treaty 64 = .ok (.iload_n 1, 1) := by decide +kernel
theorem dX10_treaty_65 : decode cX10_treaty 65 = .ok (.iconst 2, 1) := by decide +kernel
theorem dX10_treaty_66 : decode cX10_treaty 66 = .ok (.if_icmp .ge 16, 3) := by decide +kernel
theorem dX10_treaty_69 : decode cX10_treaty 69 = .ok (.aload_n 0, 1) := by decide +kernel
theorem dX10_treaty_70 : decode cX10_treaty 70 = .ok (.getfield 46, 3) := by decide +kernel
theorem dX10_treaty_73 : decode cX10_treaty 73 = .ok (.iload_n 1, 1) := by decide +kernel
theorem dX10_treaty_74 : decode cX10_treaty 74 = .ok (.iconst 0, 1) := by decide +kernel
theorem dX10_treaty_75 : decode cX10_treaty 75 = .ok (.bastore, 1) := by decide +kernel
theorem dX10_treaty_76 : decode cX10_treaty 76 = .ok (.iinc 1 1, 3) := by decide +kernel
theorem dX10_treaty_79 : decode cX10_treaty 79 = .ok (.goto (-15), 3) := by decide +kernel
theorem dX10_treaty_82 : decode cX10_treaty 82 = .ok (.aload_n 0, 1) := by decide +kernel
theorem dX10_treaty_83 : decode cX10_treaty 83 = .ok (.getfield 31, 3) := by decide +kernel
theorem dX10_treaty_86 : decode cX10_treaty 86 = .ok (.getfield 112, 3) := by decide +kernel
theorem dX10_treaty_89 : decode cX10_treaty 89 = .ok (.ireturn, 1) := by decide +kernel
theorem dX10_work_0 : decode cX10_work 0 = .ok (.iload_n 1, 1) := by decide +kernel
theorem dX10_work_1 : decode cX10_work 1 = .ok (.iconst 0, 1) := by decide +kernel
theorem dX10_work_2 : decode cX10_work 2 = .ok (.iconst 5, 1) := by decide +kernel
theorem dX10_work_3 : decode cX10_work 3 = .ok (.invokestatic 87, 3) := by decide +kernel
theorem dX10_work_6 : decode cX10_work 6 = .ok (.ifCond .ne 6, 3) := by decide +kernel
theorem dX10_work_9 : decode cX10_work 9 = .ok (.bipush (-2), 2) := by decide +kernel
theorem dX10_work_11 : decode cX10_work 11 = .ok (.ireturn, 1) := by decide +kernel
theorem dX10_work_12 : decode cX10_work 12 = .ok (.iload_n 2, 1) := by decide +kernel
theorem dX10_work_13 : decode cX10_work 13 = .ok (.tableswitch 69 0 3 #[31, 40, 50, 60], 31) := by decide +kernel
theorem dX10_work_44 : decode cX10_work 44 = .ok (.aload_n 0, 1) := by decide +kernel
theorem dX10_work_45 : decode cX10_work 45 = .ok (.getfield 12, 3) := by decide +kernel
theorem dX10_work_48 : decode cX10_work 48 = .ok (.iload_n 1, 1) := by decide +kernel
theorem dX10_work_49 : decode cX10_work 49 = .ok (.invokevirtual 115, 3) := by decide +kernel
theorem dX10_work_52 : decode cX10_work 52 = .ok (.ireturn, 1) := by decide +kernel
theorem dX10_work_53 : decode cX10_work 53 = .ok (.aload_n 0, 1) := by decide +kernel
theorem dX10_work_54 : decode cX10_work 54 = .ok (.getfield 12, 3) := by decide +kernel
theorem dX10_work_57 : decode cX10_work 57 = .ok (.iconst 0, 1) := by decide +kernel
theorem dX10_work_58 : decode cX10_work 58 = .ok (.iload_n 1, 1) := by decide +kernel
theorem dX10_work_59 : decode cX10_work 59 = .ok (.invokevirtual 119, 3) := by decide +kernel
theorem dX10_work_62 : decode cX10_work 62 = .ok (.ireturn, 1) := by decide +kernel
theorem dX10_work_63 : decode cX10_work 63 = .ok (.aload_n 0, 1) := by decide +kernel
theorem dX10_work_64 : decode cX10_work 64 = .ok (.getfield 12, 3) := by decide +kernel
theorem dX10_work_67 : decode cX10_work 67 = .ok (.iconst 1, 1) := by decide +kernel
theorem dX10_work_68 : decode cX10_work 68 = .ok (.iload_n 1, 1) := by decide +kernel
theorem dX10_work_69 : decode cX10_work 69 = .ok (.invokevirtual 119, 3) := by decide +kernel
theorem dX10_work_72 : decode cX10_work 72 = .ok (.ireturn, 1) := by decide +kernel
theorem dX10_work_73 : decode cX10_work 73 = .ok (.aload_n 0, 1) := by decide +kernel
theorem dX10_work_74 : decode cX10_work 74 = .ok (.getfield 12, 3) := by decide +kernel
theorem dX10_work_77 : decode cX10_work 77 = .ok (.iload_n 1, 1) := by decide +kernel
theorem dX10_work_78 : decode cX10_work 78 = .ok (.invokevirtual 123, 3) := by decide +kernel
theorem dX10_work_81 : decode cX10_work 81 = .ok (.ireturn, 1) := by decide +kernel
theorem dX10_work_82 : decode cX10_work 82 = .ok (.bipush (-3), 2) := by decide +kernel
theorem dX10_work_84 : decode cX10_work 84 = .ok (.ireturn, 1) := by decide +kernel
theorem dX10_meant_0 : decode cX10_meant 0 = .ok (.aload_n 0, 1) := by decide +kernel
theorem dX10_meant_1 : decode cX10_meant 1 = .ok (.iload_n 2, 1) := by decide +kernel
theorem dX10_meant_2 : decode cX10_meant 2 = .ok (.iload_n 3, 1) := by decide +kernel
theorem dX10_meant_3 : decode cX10_meant 3 = .ok (.iload 4, 2) := by decide +kernel
theorem dX10_meant_5 : decode cX10_meant 5 = .ok (.invokevirtual 126, 3) := by decide +kernel
theorem dX10_meant_8 : decode cX10_meant 8 = .ok (.ifCond .ne 6, 3) := by decide +kernel
theorem dX10_meant_11 : decode cX10_meant 11 = .ok (.bipush (-2), 2) := by decide +kernel
theorem dX10_meant_13 : decode cX10_meant 13 = .ok (.ireturn, 1) := by decide +kernel
theorem dX10_meant_14 : decode cX10_meant 14 = .ok (.iload_n 1, 1) := by decide +kernel
theorem dX10_meant_15 : decode cX10_meant 15 = .ok (.iconst 0, 1) := by decide +kernel
theorem dX10_meant_16 : decode cX10_meant 16 = .ok (.iconst 1, 1) := by decide +kernel
theorem dX10_meant_17 : decode cX10_meant 17 = .ok (.invokestatic 87, 3) := by decide +kernel
theorem dX10_meant_20 : decode cX10_meant 20 = .ok (.ifCond .ne 6, 3) := by decide +kernel
theorem dX10_meant_23 : decode cX10_meant 23 = .ok (.bipush (-3), 2) := by decide +kernel
theorem dX10_meant_25 : decode cX10_meant 25 = .ok (.ireturn, 1) := by decide +kernel
theorem dX10_meant_26 : decode cX10_meant 26 = .ok (.aload_n 0, 1) := by decide +kernel
theorem dX10_meant_27 : decode cX10_meant 27 = .ok (.getfield 12, 3) := by decide +kernel
theorem dX10_meant_30 : decode cX10_meant 30 = .ok (.iload_n 1, 1) := by decide +kernel
theorem dX10_meant_31 : decode cX10_meant 31 = .ok (.iload_n 2, 1) := by decide +kernel
theorem dX10_meant_32 : decode cX10_meant 32 = .ok (.iload_n 3, 1) := by decide +kernel
theorem dX10_meant_33 : decode cX10_meant 33 = .ok (.iload 4, 2) := by decide +kernel
theorem dX10_meant_35 : decode cX10_meant 35 = .ok (.invokevirtual 129, 3) := by decide +kernel
theorem dX10_meant_38 : decode cX10_meant 38 = .ok (.ireturn, 1) := by decide +kernel
theorem dX10_done_0 : decode cX10_done 0 = .ok (.aload_n 0, 1) := by decide +kernel
theorem dX10_done_1 : decode cX10_done 1 = .ok (.iload_n 1, 1) := by decide +kernel
theorem dX10_done_2 : decode cX10_done 2 = .ok (.iload_n 2, 1) := by decide +kernel
theorem dX10_done_3 : decode cX10_done 3 = .ok (.iload_n 3, 1) := by decide +kernel
theorem dX10_done_4 : decode cX10_done 4 = .ok (.invokevirtual 126, 3) := by decide +kernel
theorem dX10_done_7 : decode cX10_done 7 = .ok (.ifCond .eq 13, 3) := by decide +kernel
theorem dX10_done_10 : decode cX10_done 10 = .ok (.iload 4, 2) := by decide +kernel
theorem dX10_done_12 : decode cX10_done 12 = .ok (.iconst 0, 1) := by decide +kernel
theorem dX10_done_13 : decode cX10_done 13 = .ok (.iconst 5, 1) := by decide +kernel
theorem dX10_done_14 : decode cX10_done 14 = .ok (.invokestatic 87, 3) := by decide +kernel
theorem dX10_done_17 : decode cX10_done 17 = .ok (.ifCond .ne 6, 3) := by decide +kernel
theorem dX10_done_20 : decode cX10_done 20 = .ok (.bipush (-2), 2) := by decide +kernel
theorem dX10_done_22 : decode cX10_done 22 = .ok (.ireturn, 1) := by decide +kernel
theorem dX10_done_23 : decode cX10_done 23 = .ok (.aload_n 0, 1) := by decide +kernel
theorem dX10_done_24 : decode cX10_done 24 = .ok (.getfield 12, 3) := by decide +kernel
theorem dX10_done_27 : decode cX10_done 27 = .ok (.iload_n 1, 1) := by decide +kernel
theorem dX10_done_28 : decode cX10_done 28 = .ok (.iload 4, 2) := by decide +kernel
theorem dX10_done_30 : decode cX10_done 30 = .ok (.invokevirtual 133, 3) := by decide +kernel
theorem dX10_done_33 : decode cX10_done 33 = .ok (.ifCond .ne 6, 3) := by decide +kernel
theorem dX10_done_36 : decode cX10_done 36 = .ok (.bipush (-4), 2) := by decide +kernel
theorem dX10_done_38 : decode cX10_done 38 = .ok (.ireturn, 1) := by decide +kernel
theorem dX10_done_39 : decode cX10_done 39 = .ok (.aload_n 0, 1) := by decide +kernel
theorem dX10_done_40 : decode cX10_done 40 = .ok (.getfield 38, 3) := by decide +kernel
theorem dX10_done_43 : decode cX10_done 43 = .ok (.iload_n 1, 1) := by decide +kernel
theorem dX10_done_44 : decode cX10_done 44 = .ok (.iload_n 2, 1) := by decide +kernel
theorem dX10_done_45 : decode cX10_done 45 = .ok (.iload_n 3, 1) := by decide +kernel
theorem dX10_done_46 : decode cX10_done 46 = .ok (.iload 4, 2) := by decide +kernel
theorem dX10_done_48 : decode cX10_done 48 = .ok (.invokevirtual 137, 3) := by decide +kernel
theorem dX10_done_51 : decode cX10_done 51 = .ok (.iconst 1, 1) := by decide +kernel
theorem dX10_done_52 : decode cX10_done 52 = .ok (.ireturn, 1) := by decide +kernel
theorem dX10_ill_0 : decode cX10_ill 0 = .ok (.aload_n 0, 1) := by decide +kernel
theorem dX10_ill_1 : decode cX10_ill 1 = .ok (.iload_n 1, 1) := by decide +kernel
theorem dX10_ill_2 : decode cX10_ill 2 = .ok (.iload_n 2, 1) := by decide +kernel
theorem dX10_ill_3 : decode cX10_ill 3 = .ok (.invokevirtual 141, 3) := by decide +kernel
theorem dX10_ill_6 : decode cX10_ill 6 = .ok (.ifCond .ne 6, 3) := by decide +kernel
theorem dX10_ill_9 : decode cX10_ill 9 = .ok (.bipush (-2), 2) := by decide +kernel
theorem dX10_ill_11 : decode cX10_ill 11 = .ok (.ireturn, 1) := by decide +kernel
theorem dX10_ill_12 : decode cX10_ill 12 = .ok (.aload_n 0, 1) := by decide +kernel
theorem dX10_ill_13 : decode cX10_ill 13 = .ok (.getfield 38, 3) := by decide +kernel
theorem dX10_ill_16 : decode cX10_ill 16 = .ok (.iload_n 1, 1) := by decide +kernel
theorem dX10_ill_17 : decode cX10_ill 17 = .ok (.iload_n 2, 1) := by decide +kernel
theorem dX10_ill_18 : decode cX10_ill 18 = .ok (.invokevirtual 144, 3) := by decide +kernel
theorem dX10_ill_21 : decode cX10_ill 21 = .ok (.ifCond .eq 7, 3) := by decide +kernel
theorem dX10_ill_24 : decode cX10_ill 24 = .ok (.iconst 1, 1) := by decide +kernel
theorem dX10_ill_25 : decode cX10_ill 25 = .ok (.goto 4, 3) := by decide +kernel
theorem dX10_ill_28 : decode cX10_ill 28 = .ok (.iconst 0, 1) := by decide +kernel
theorem dX10_ill_29 : decode cX10_ill 29 = .ok (.istore 4, 2) := by decide +kernel
theorem dX10_ill_31 : decode cX10_ill 31 = .ok (.aload_n 0, 1) := by decide +kernel
theorem dX10_ill_32 : decode cX10_ill 32 = .ok (.getfield 38, 3) := by decide +kernel
theorem dX10_ill_35 : decode cX10_ill 35 = .ok (.iload_n 1, 1) := by decide +kernel
theorem dX10_ill_36 : decode cX10_ill 36 = .ok (.iload_n 2, 1) := by decide +kernel
theorem dX10_ill_37 : decode cX10_ill 37 = .ok (.iload_n 3, 1) := by decide +kernel
theorem dX10_ill_38 : decode cX10_ill 38 = .ok (.invokevirtual 147, 3) := by decide +kernel
theorem dX10_ill_41 : decode cX10_ill 41 = .ok (.iload 4, 2) := by decide +kernel
theorem dX10_ill_43 : decode cX10_ill 43 = .ok (.ireturn, 1) := by decide +kernel
theorem dX10_days_0 : decode cX10_days 0 = .ok (.iload_n 1, 1) := by decide +kernel
theorem dX10_days_1 : decode cX10_days 1 = .ok (.iconst 1, 1) := by decide +kernel
theorem dX10_days_2 : decode cX10_days 2 = .ok (.bipush 99, 2) := by decide +kernel
theorem dX10_days_4 : decode cX10_days 4 = .ok (.invokestatic 87, 3) := by decide +kernel
theorem dX10_days_7 : decode cX10_days 7 = .ok (.ifCond .ne 6, 3) := by decide +kernel
theorem dX10_days_10 : decode cX10_days 10 = .ok (.bipush (-3), 2) := by decide +kernel
theorem dX10_days_12 : decode cX10_days 12 = .ok (.ireturn, 1) := by decide +kernel
theorem dX10_days_13 : decode cX10_days 13 = .ok (.iconst 0, 1) := by decide +kernel
theorem dX10_days_14 : decode cX10_days 14 = .ok (.istore_n 2, 1) := by decide +kernel
theorem dX10_days_15 : decode cX10_days 15 = .ok (.iload_n 2, 1) := by decide +kernel
theorem dX10_days_16 : decode cX10_days 16 = .ok (.iload_n 1, 1) := by decide +kernel
theorem dX10_days_17 : decode cX10_days 17 = .ok (.if_icmp .ge 20, 3) := by decide +kernel
theorem dX10_days_20 : decode cX10_days 20 = .ok (.aload_n 0, 1) := by decide +kernel
theorem dX10_days_21 : decode cX10_days 21 = .ok (.getfield 38, 3) := by decide +kernel
theorem dX10_days_24 : decode cX10_days 24 = .ok (.aload_n 0, 1) := by decide +kernel
theorem dX10_days_25 : decode cX10_days 25 = .ok (.getfield 12, 3) := by decide +kernel
theorem dX10_days_28 : decode cX10_days 28 = .ok (.invokevirtual 151, 3) := by decide +kernel
theorem dX10_days_31 : decode cX10_days 31 = .ok (.iinc 2 1, 3) := by decide +kernel
theorem dX10_days_34 : decode cX10_days 34 = .ok (.goto (-19), 3) := by decide +kernel
theorem dX10_days_37 : decode cX10_days 37 = .ok (.aload_n 0, 1) := by decide +kernel
theorem dX10_days_38 : decode cX10_days 38 = .ok (.getfield 38, 3) := by decide +kernel
theorem dX10_days_41 : decode cX10_days 41 = .ok (.getfield 154, 3) := by decide +kernel
theorem dX10_days_44 : decode cX10_days 44 = .ok (.ireturn, 1) := by decide +kernel
theorem dX10_person_0 : decode cX10_person 0 = .ok (.aload_n 0, 1) := by decide +kernel
theorem dX10_person_1 : decode cX10_person 1 = .ok (.iload_n 1, 1) := by decide +kernel
theorem dX10_person_2 : decode cX10_person 2 = .ok (.iload_n 2, 1) := by decide +kernel
theorem dX10_person_3 : decode cX10_person 3 = .ok (.invokevirtual 141, 3) := by decide +kernel
theorem dX10_person_6 : decode cX10_person 6 = .ok (.ifCond .ne 6, 3) := by decide +kernel
theorem dX10_person_9 : decode cX10_person 9 = .ok (.bipush (-2), 2) := by decide +kernel
theorem dX10_person_11 : decode cX10_person 11 = .ok (.ireturn, 1) := by decide +kernel
theorem dX10_person_12 : decode cX10_person 12 = .ok (.iload_n 3, 1) := by decide +kernel
theorem dX10_person_13 : decode cX10_person 13 = .ok (.ifCond .ne 13, 3) := by decide +kernel
theorem dX10_person_16 : decode cX10_person 16 = .ok (.aload_n 0, 1) := by decide +kernel
theorem dX10_person_17 : decode cX10_person 17 = .ok (.getfield 38, 3) := by decide +kernel
theorem dX10_person_20 : decode cX10_person 20 = .ok (.iload_n 1, 1) := by decide +kernel
theorem dX10_person_21 : decode cX10_person 21 = .ok (.iload_n 2, 1) := by decide +kernel
theorem dX10_person_22 : decode cX10_person 22 = .ok (.invokevirtual 157, 3) := by decide +kernel
theorem dX10_person_25 : decode cX10_person 25 = .ok (.ireturn, 1) := by decide +kernel
theorem dX10_person_26 : decode cX10_person 26 = .ok (.iload_n 3, 1) := by decide +kernel
theorem dX10_person_27 : decode cX10_person 27 = .ok (.iconst 1, 1) := by decide +kernel
theorem dX10_person_28 : decode cX10_person 28 = .ok (.if_icmp .ne 13, 3) := by decide +kernel
theorem dX10_person_31 : decode cX10_person 31 = .ok (.aload_n 0, 1) := by decide +kernel
theorem dX10_person_32 : decode cX10_person 32 = .ok (.getfield 38, 3) := by decide +kernel
theorem dX10_person_35 : decode cX10_person 35 = .ok (.iload_n 1, 1) := by decide +kernel
theorem dX10_person_36 : decode cX10_person 36 = .ok (.iload_n 2, 1) := by decide +kernel
theorem dX10_person_37 : decode cX10_person 37 = .ok (.invokevirtual 160, 3) := by decide +kernel
theorem dX10_person_40 : decode cX10_person 40 = .ok (.ireturn, 1) := by decide +kernel
theorem dX10_person_41 : decode cX10_person 41 = .ok (.iload_n 3, 1) := by decide +kernel
theorem dX10_person_42 : decode cX10_person 42 = .ok (.bipush 10, 2) := by decide +kernel
theorem dX10_person_44 : decode cX10_person 44 = .ok (.bipush 10, 2) := by decide +kernel
theorem dX10_person_46 : decode cX10_person 46 = .ok (.aload_n 0, 1) := by decide +kernel
theorem dX10_person_47 : decode cX10_person 47 = .ok (.getfield 12, 3) := by decide +kernel
theorem dX10_person_50 : decode cX10_person 50 = .ok (.getfield 163, 3) := by decide +kernel
theorem dX10_person_53 : decode cX10_person 53 = .ok (.iadd, 1) := by decide +kernel
theorem dX10_person_54 : decode cX10_person 54 = .ok (.iconst 1, 1) := by decide +kernel
theorem dX10_person_55 : decode cX10_person 55 = .ok (.isub, 1) := by decide +kernel
theorem dX10_person_56 : decode cX10_person 56 = .ok (.invokestatic 87, 3) := by decide +kernel
theorem dX10_person_59 : decode cX10_person 59 = .ok (.ifCond .ne 6, 3) := by decide +kernel
theorem dX10_person_62 : decode cX10_person 62 = .ok (.bipush (-3), 2) := by decide +kernel
theorem dX10_person_64 : decode cX10_person 64 = .ok (.ireturn, 1) := by decide +kernel
theorem dX10_person_65 : decode cX10_person 65 = .ok (.aload_n 0, 1) := by decide +kernel
theorem dX10_person_66 : decode cX10_person 66 = .ok (.getfield 38, 3) := by decide +kernel
theorem dX10_person_69 : decode cX10_person 69 = .ok (.aload_n 0, 1) := by decide +kernel
theorem dX10_person_70 : decode cX10_person 70 = .ok (.getfield 12, 3) := by decide +kernel
theorem dX10_person_73 : decode cX10_person 73 = .ok (.iload_n 1, 1) := by decide +kernel
theorem dX10_person_74 : decode cX10_person 74 = .ok (.iload_n 2, 1) := by decide +kernel
theorem dX10_person_75 : decode cX10_person 75 = .ok (.iload_n 3, 1) := by decide +kernel
theorem dX10_person_76 : decode cX10_person 76 = .ok (.bipush 10, 2) := by decide +kernel
theorem dX10_person_78 : decode cX10_person 78 = .ok (.isub, 1) := by decide +kernel
theorem dX10_person_79 : decode cX10_person 79 = .ok (.invokevirtual 166, 3) := by decide +kernel
theorem dX10_person_82 : decode cX10_person 82 = .ok (.ireturn, 1) := by decide +kernel
theorem dX10_bread_0 : decode cX10_bread 0 = .ok (.iload_n 1, 1) := by decide +kernel
theorem dX10_bread_1 : decode cX10_bread 1 = .ok (.invokestatic 170, 3) := by decide +kernel
theorem dX10_bread_4 : decode cX10_bread 4 = .ok (.ifCond .ne 6, 3) := by decide +kernel
theorem dX10_bread_7 : decode cX10_bread 7 = .ok (.bipush (-2), 2) := by decide +kernel
theorem dX10_bread_9 : decode cX10_bread 9 = .ok (.ireturn, 1) := by decide +kernel
theorem dX10_bread_10 : decode cX10_bread 10 = .ok (.aload_n 0, 1) := by decide +kernel
theorem dX10_bread_11 : decode cX10_bread 11 = .ok (.getfield 38, 3) := by decide +kernel
theorem dX10_bread_14 : decode cX10_bread 14 = .ok (.getfield 174, 3) := by decide +kernel
theorem dX10_bread_17 : decode cX10_bread 17 = .ok (.iload_n 1, 1) := by decide +kernel
theorem dX10_bread_18 : decode cX10_bread 18 = .ok (.iaload, 1) := by decide +kernel
theorem dX10_bread_19 : decode cX10_bread 19 = .ok (.ldc 178, 2) := by decide +kernel
theorem dX10_bread_21 : decode cX10_bread 21 = .ok (.iadd, 1) := by decide +kernel
theorem dX10_bread_22 : decode cX10_bread 22 = .ok (.ireturn, 1) := by decide +kernel
theorem dX10_breaches_0 : decode cX10_breaches 0 = .ok (.aload_n 0, 1) := by decide +kernel
theorem dX10_breaches_1 : decode cX10_breaches 1 = .ok (.getfield 12, 3) := by decide +kernel
theorem dX10_breaches_4 : decode cX10_breaches 4 = .ok (.iload_n 1, 1) := by decide +kernel
theorem dX10_breaches_5 : decode cX10_breaches 5 = .ok (.invokevirtual 179, 3) := by decide +kernel
theorem dX10_breaches_8 : decode cX10_breaches 8 = .ok (.ifCond .ne 6, 3) := by decide +kernel
theorem dX10_breaches_11 : decode cX10_breaches 11 = .ok (.bipush (-2), 2) := by decide +kernel
theorem dX10_breaches_13 : decode cX10_breaches 13 = .ok (.ireturn, 1) := by decide +kernel
theorem dX10_breaches_14 : decode cX10_breaches 14 = .ok (.iconst 0, 1) := by decide +kernel
theorem dX10_breaches_15 : decode cX10_breaches 15 = .ok (.istore_n 2, 1) := by decide +kernel
theorem dX10_breaches_16 : decode cX10_breaches 16 = .ok (.iconst 0, 1) := by decide +kernel
theorem dX10_breaches_17 : decode cX10_breaches 17 = .ok (.istore_n 3, 1) := by decide +kernel
theorem dX10_breaches_18 : decode cX10_breaches 18 = .ok (.iload_n 3, 1) := by decide +kernel
theorem dX10_breaches_19 : decode cX10_breaches 19 = .ok (.aload_n 0, 1) := by decide +kernel
theorem dX10_breaches_20 : decode cX10_breaches 20 = .ok (.getfield 12, 3) := by decide +kernel
theorem dX10_breaches_23 : decode cX10_breaches 23 = .ok (.getfield 163, 3) := by decide +kernel
theorem dX10_breaches_26 : decode cX10_breaches 26 = .ok (.if_icmp .ge 31, 3) := by decide +kernel
theorem dX10_breaches_29 : decode cX10_breaches 29 = .ok (.aload_n 0, 1) := by decide +kernel
theorem dX10_breaches_30 : decode cX10_breaches 30 = .ok (.getfield 38, 3) := by decide +kernel
theorem dX10_breaches_33 : decode cX10_breaches 33 = .ok (.aload_n 0, 1) := by decide +kernel
theorem dX10_breaches_34 : decode cX10_breaches 34 = .ok (.getfield 12, 3) := by decide +kernel
theorem dX10_breaches_37 : decode cX10_breaches 37 = .ok (.iload_n 1, 1) := by decide +kernel
theorem dX10_breaches_38 : decode cX10_breaches 38 = .ok (.iload_n 3, 1) := by decide +kernel
theorem dX10_breaches_39 : decode cX10_breaches 39 = .ok (.invokevirtual 182, 3) := by decide +kernel
theorem dX10_breaches_42 : decode cX10_breaches 42 = .ok (.ifCond .eq 9, 3) := by decide +kernel
theorem dX10_breaches_45 : decode cX10_breaches 45 = .ok (.iload_n 2, 1) := by decide +kernel
theorem dX10_breaches_46 : decode cX10_breaches 46 = .ok (.iconst 1, 1) := by decide +kernel
theorem dX10_breaches_47 : decode cX10_breaches 47 = .ok (.iload_n 3, 1) := by decide +kernel
theorem dX10_breaches_48 : decode cX10_breaches 48 = .ok (.ishl, 1) := by decide +kernel
theorem dX10_breaches_49 : decode cX10_breaches 49 = .ok (.ior, 1) := by decide +kernel
theorem dX10_breaches_50 : decode cX10_breaches 50 = .ok (.istore_n 2, 1) := by decide +kernel
theorem dX10_breaches_51 : decode cX10_breaches 51 = .ok (.iinc 3 1, 3) := by decide +kernel
theorem dX10_breaches_54 : decode cX10_breaches 54 = .ok (.goto (-36), 3) := by decide +kernel
theorem dX10_breaches_57 : decode cX10_breaches 57 = .ok (.iload_n 2, 1) := by decide +kernel
theorem dX10_breaches_58 : decode cX10_breaches 58 = .ok (.ireturn, 1) := by decide +kernel
theorem dX10_as_0 : decode cX10_as 0 = .ok (.aload_n 0, 1) := by decide +kernel
theorem dX10_as_1 : decode cX10_as 1 = .ok (.getfield 12, 3) := by decide +kernel
theorem dX10_as_4 : decode cX10_as 4 = .ok (.iload_n 1, 1) := by decide +kernel
theorem dX10_as_5 : decode cX10_as 5 = .ok (.invokevirtual 179, 3) := by decide +kernel
theorem dX10_as_8 : decode cX10_as 8 = .ok (.ifCond .ne 6, 3) := by decide +kernel
theorem dX10_as_11 : decode cX10_as 11 = .ok (.bipush (-2), 2) := by decide +kernel
theorem dX10_as_13 : decode cX10_as 13 = .ok (.ireturn, 1) := by decide +kernel
theorem dX10_as_14 : decode cX10_as 14 = .ok (.iload_n 2, 1) := by decide +kernel
theorem dX10_as_15 : decode cX10_as 15 = .ok (.iconst 0, 1) := by decide +kernel
theorem dX10_as_16 : decode cX10_as 16 = .ok (.getstatic 186, 3) := by decide +kernel
theorem dX10_as_19 : decode cX10_as 19 = .ok (.arraylength, 1) := by decide +kernel
theorem dX10_as_20 : decode cX10_as 20 = .ok (.iconst 1, 1) := by decide +kernel
theorem dX10_as_21 : decode cX10_as 21 = .ok (.isub, 1) := by decide +kernel
theorem dX10_as_22 : decode cX10_as 22 = .ok (.invokestatic 87, 3) := by decide +kernel
theorem dX10_as_25 : decode cX10_as 25 = .ok (.ifCond .ne 6, 3) := by decide +kernel
theorem dX10_as_28 : decode cX10_as 28 = .ok (.bipush (-3), 2) := by decide +kernel
theorem dX10_as_30 : decode cX10_as 30 = .ok (.ireturn, 1) := by decide +kernel
theorem dX10_as_31 : decode cX10_as 31 = .ok (.aload_n 0, 1) := by decide +kernel
theorem dX10_as_32 : decode cX10_as 32 = .ok (.getfield 12, 3) := by decide +kernel
theorem dX10_as_35 : decode cX10_as 35 = .ok (.iload_n 1, 1) := by decide +kernel
theorem dX10_as_36 : decode cX10_as 36 = .ok (.invokevirtual 189, 3) := by decide +kernel
theorem dX10_as_39 : decode cX10_as 39 = .ok (.iload_n 2, 1) := by decide +kernel
theorem dX10_as_40 : decode cX10_as 40 = .ok (.invokestatic 192, 3) := by decide +kernel
theorem dX10_as_43 : decode cX10_as 43 = .ok (.ifCond .ne 6, 3) := by decide +kernel
theorem dX10_as_46 : decode cX10_as 46 = .ok (.bipush (-4), 2) := by decide +kernel
theorem dX10_as_48 : decode cX10_as 48 = .ok (.ireturn, 1) := by decide +kernel
theorem dX10_as_49 : decode cX10_as 49 = .ok (.aload_n 0, 1) := by decide +kernel
theorem dX10_as_50 : decode cX10_as 50 = .ok (.getfield 38, 3) := by decide +kernel
theorem dX10_as_53 : decode cX10_as 53 = .ok (.iconst 0, 1) := by decide +kernel
theorem dX10_as_54 : decode cX10_as 54 = .ok (.iload_n 1, 1) := by decide +kernel
theorem dX10_as_55 : decode cX10_as 55 = .ok (.invokevirtual 157, 3) := by decide +kernel
theorem dX10_as_58 : decode cX10_as 58 = .ok (.aload_n 0, 1) := by decide +kernel
theorem dX10_as_59 : decode cX10_as 59 = .ok (.getfield 38, 3) := by decide +kernel
theorem dX10_as_62 : decode cX10_as 62 = .ok (.iconst 1, 1) := by decide +kernel
theorem dX10_as_63 : decode cX10_as 63 = .ok (.iload_n 1, 1) := by decide +kernel
theorem dX10_as_64 : decode cX10_as 64 = .ok (.invokevirtual 157, 3) := by decide +kernel
theorem dX10_as_67 : decode cX10_as 67 = .ok (.iadd, 1) := by decide +kernel
theorem dX10_as_68 : decode cX10_as 68 = .ok (.ireturn, 1) := by decide +kernel
theorem dX10_plan_0 : decode cX10_plan 0 = .ok (.iload_n 1, 1) := by decide +kernel
theorem dX10_plan_1 : decode cX10_plan 1 = .ok (.iload_n 2, 1) := by decide +kernel
theorem dX10_plan_2 : decode cX10_plan 2 = .ok (.invokestatic 195, 3) := by decide +kernel
theorem dX10_plan_5 : decode cX10_plan 5 = .ok (.ifCond .eq 12, 3) := by decide +kernel
theorem dX10_plan_8 : decode cX10_plan 8 = .ok (.iload_n 3, 1) := by decide +kernel
theorem dX10_plan_9 : decode cX10_plan 9 = .ok (.iconst 0, 1) := by decide +kernel
theorem dX10_plan_10 : decode cX10_plan 10 = .ok (.iconst 1, 1) := by decide +kernel
theorem dX10_plan_11 : decode cX10_plan 11 = .ok (.invokestatic 87, 3) := by decide +kernel
theorem dX10_plan_14 : decode cX10_plan 14 = .ok (.ifCond .ne 6, 3) := by decide +kernel
theorem dX10_plan_17 : decode cX10_plan 17 = .ok (.bipush (-3), 2) := by decide +kernel
theorem dX10_plan_19 : decode cX10_plan 19 = .ok (.ireturn, 1) := by decide +kernel
theorem dX10_plan_20 : decode cX10_plan 20 = .ok (.aload_n 0, 1) := by decide +kernel
theorem dX10_plan_21 : decode cX10_plan 21 = .ok (.getfield 55, 3) := by decide +kernel
theorem dX10_plan_24 : decode cX10_plan 24 = .ok (.iload_n 1, 1) := by decide +kernel
theorem dX10_plan_25 : decode cX10_plan 25 = .ok (.iload_n 2, 1) := by decide +kernel
theorem dX10_plan_26 : decode cX10_plan 26 = .ok (.invokevirtual 198, 3) := by decide +kernel
theorem dX10_plan_29 : decode cX10_plan 29 = .ok (.istore 4, 2) := by decide +kernel
theorem dX10_plan_31 : decode cX10_plan 31 = .ok (.iload_n 3, 1) := by decide +kernel
theorem dX10_plan_32 : decode cX10_plan 32 = .ok (.ifCond .eq 9, 3) := by decide +kernel
theorem dX10_plan_35 : decode cX10_plan 35 = .ok (.iload 4, 2) := by decide +kernel
theorem dX10_plan_37 : decode cX10_plan 37 = .ok (.iconst (-1), 1) := by decide +kernel
theorem dX10_plan_38 : decode cX10_plan 38 = .ok (.if_icmp .ne 6, 3) := by decide +kernel
theorem dX10_plan_41 : decode cX10_plan 41 = .ok (.iload 4, 2) := by decide +kernel
theorem dX10_plan_43 : decode cX10_plan 43 = .ok (.ireturn, 1) := by decide +kernel
theorem dX10_plan_44 : decode cX10_plan 44 = .ok (.aload_n 0, 1) := by decide +kernel
theorem dX10_plan_45 : decode cX10_plan 45 = .ok (.getfield 55, 3) := by decide +kernel
theorem dX10_plan_48 : decode cX10_plan 48 = .ok (.iload_n 1, 1) := by decide +kernel
theorem dX10_plan_49 : decode cX10_plan 49 = .ok (.iload_n 2, 1) := by decide +kernel
theorem dX10_plan_50 : decode cX10_plan 50 = .ok (.aload_n 0, 1) := by decide +kernel
theorem dX10_plan_51 : decode cX10_plan 51 = .ok (.getfield 12, 3) := by decide +kernel
theorem dX10_plan_54 : decode cX10_plan 54 = .ok (.getfield 201, 3) := by decide +kernel
theorem dX10_plan_57 : decode cX10_plan 57 = .ok (.iconst 1, 1) := by decide +kernel
theorem dX10_plan_58 : decode cX10_plan 58 = .ok (.isub, 1) := by decide +kernel
theorem dX10_plan_59 : decode cX10_plan 59 = .ok (.aload_n 0, 1) := by decide +kernel
theorem dX10_plan_60 : decode cX10_plan 60 = .ok (.getfield 12, 3) := by decide +kernel
theorem dX10_plan_63 : decode cX10_plan 63 = .ok (.getfield 163, 3) := by decide +kernel
theorem dX10_plan_66 : decode cX10_plan 66 = .ok (.iconst 1, 1) := by decide +kernel
theorem dX10_plan_67 : decode cX10_plan 67 = .ok (.isub, 1) := by decide +kernel
theorem dX10_plan_68 : decode cX10_plan 68 = .ok (.invokevirtual 204, 3) := by decide +kernel
theorem dX10_plan_71 : decode cX10_plan 71 = .ok (.ireturn, 1) := by decide +kernel
theorem dX10_planned_0 : decode cX10_planned 0 = .ok (.aload_n 0, 1) := by decide +kernel
theorem dX10_planned_1 : decode cX10_planned 1 = .ok (.iload_n 3, 1) := by decide +kernel
theorem dX10_planned_2 : decode cX10_planned 2 = .ok (.iload 4, 2) := by decide +kernel
theorem dX10_planned_4 : decode cX10_planned 4 = .ok (.iload 5, 2) := by decide +kernel
theorem dX10_planned_6 : decode cX10_planned 6 = .ok (.invokevirtual 126, 3) := by decide +kernel
theorem dX10_planned_9 : decode cX10_planned 9 = .ok (.ifCond .ne 6, 3) := by decide +kernel
theorem dX10_planned_12 : decode cX10_planned 12 = .ok (.bipush (-2), 2) := by decide +kernel
theorem dX10_planned_14 : decode cX10_planned 14 = .ok (.ireturn, 1) := by decide +kernel
theorem dX10_planned_15 : decode cX10_planned 15 = .ok (.iload_n 1, 1) := by decide +kernel
theorem dX10_planned_16 : decode cX10_planned 16 = .ok (.iload_n 2, 1) := by decide +kernel
theorem dX10_planned_17 : decode cX10_planned 17 = .ok (.invokestatic 195, 3) := by decide +kernel
theorem dX10_planned_20 : decode cX10_planned 20 = .ok (.ifCond .ne 6, 3) := by decide +kernel
theorem dX10_planned_23 : decode cX10_planned 23 = .ok (.bipush (-3), 2) := by decide +kernel
theorem dX10_planned_25 : decode cX10_planned 25 = .ok (.ireturn, 1) := by decide +kernel
theorem dX10_planned_26 : decode cX10_planned 26 = .ok (.aload_n 0, 1) := by decide +kernel
theorem dX10_planned_27 : decode cX10_planned 27 = .ok (.getfield 55, 3) := by decide +kernel
theorem dX10_planned_30 : decode cX10_planned 30 = .ok (.iload_n 1, 1) := by decide +kernel
theorem dX10_planned_31 : decode cX10_planned 31 = .ok (.iload_n 2, 1) := by decide +kernel
theorem dX10_planned_32 : decode cX10_planned 32 = .ok (.invokevirtual 198, 3) := by decide +kernel
theorem dX10_planned_35 : decode cX10_planned 35 = .ok (.iconst (-1), 1) := by decide +kernel
theorem dX10_planned_36 : decode cX10_planned 36 = .ok (.if_icmp .ne 5, 3) := by decide +kernel
theorem dX10_planned_39 : decode cX10_planned 39 = .ok (.iconst (-1), 1) := by decide +kernel
theorem dX10_planned_40 : decode cX10_planned 40 = .ok (.ireturn, 1) := by decide +kernel
theorem dX10_planned_41 : decode cX10_planned 41 = .ok (.aload_n 0, 1) := by decide +kernel
theorem dX10_planned_42 : decode cX10_planned 42 = .ok (.getfield 55, 3) := by decide +kernel
theorem dX10_planned_45 : decode cX10_planned 45 = .ok (.iload_n 1, 1) := by decide +kernel
theorem dX10_planned_46 : decode cX10_planned 46 = .ok (.iload_n 2, 1) := by decide +kernel
theorem dX10_planned_47 : decode cX10_planned 47 = .ok (.iload 4, 2) := by decide +kernel
theorem dX10_planned_49 : decode cX10_planned 49 = .ok (.iload 5, 2) := by decide +kernel
theorem dX10_planned_51 : decode cX10_planned 51 = .ok (.invokevirtual 204, 3) := by decide +kernel
theorem dX10_planned_54 : decode cX10_planned 54 = .ok (.pop, 1) := by decide +kernel
theorem dX10_planned_55 : decode cX10_planned 55 = .ok (.iload_n 3, 1) := by decide +kernel
theorem dX10_planned_56 : decode cX10_planned 56 = .ok (.ifCond .ne 13, 3) := by decide +kernel
theorem dX10_planned_59 : decode cX10_planned 59 = .ok (.aload_n 0, 1) := by decide +kernel
theorem dX10_planned_60 : decode cX10_planned 60 = .ok (.getfield 55, 3) := by decide +kernel
theorem dX10_planned_63 : decode cX10_planned 63 = .ok (.getfield 207, 3) := by decide +kernel
theorem dX10_planned_66 : decode cX10_planned 66 = .ok (.goto 10, 3) := by decide +kernel
theorem dX10_planned_69 : decode cX10_planned 69 = .ok (.aload_n 0, 1) := by decide +kernel
theorem dX10_planned_70 : decode cX10_planned 70 = .ok (.getfield 55, 3) := by decide +kernel
theorem dX10_planned_73 : decode cX10_planned 73 = .ok (.getfield 210, 3) := by decide +kernel
theorem dX10_planned_76 : decode cX10_planned 76 = .ok (.ireturn, 1) := by decide +kernel
theorem dX10_news_0 : decode cX10_news 0 = .ok (.iload_n 2, 1) := by decide +kernel
theorem dX10_news_1 : decode cX10_news 1 = .ok (.iconst 1, 1) := by decide +kernel
theorem dX10_news_2 : decode cX10_news 2 = .ok (.bipush 12, 2) := by decide +kernel
theorem dX10_news_4 : decode cX10_news 4 = .ok (.invokestatic 87, 3) := by decide +kernel
theorem dX10_news_7 : decode cX10_news 7 = .ok (.ifCond .eq 13, 3) := by decide +kernel
theorem dX10_news_10 : decode cX10_news 10 = .ok (.iload_n 3, 1) := by decide +kernel
theorem dX10_news_11 : decode cX10_news 11 = .ok (.iconst 0, 1) := by decide +kernel
theorem dX10_news_12 : decode cX10_news 12 = .ok (.bipush 9, 2) := by decide +kernel
theorem dX10_news_14 : decode cX10_news 14 = .ok (.invokestatic 87, 3) := by decide +kernel
theorem dX10_news_17 : decode cX10_news 17 = .ok (.ifCond .ne 6, 3) := by decide +kernel
theorem dX10_news_20 : decode cX10_news 20 = .ok (.bipush (-3), 2) := by decide +kernel
theorem dX10_news_22 : decode cX10_news 22 = .ok (.ireturn, 1) := by decide +kernel
theorem dX10_news_23 : decode cX10_news 23 = .ok (.iload 4, 2) := by decide +kernel
theorem dX10_news_25 : decode cX10_news 25 = .ok (.ifCond .eq 16, 3) := by decide +kernel
theorem dX10_news_28 : decode cX10_news 28 = .ok (.aload_n 0, 1) := by decide +kernel
theorem dX10_news_29 : decode cX10_news 29 = .ok (.getfield 62, 3) := by decide +kernel
theorem dX10_news_32 : decode cX10_news 32 = .ok (.iload_n 1, 1) := by decide +kernel
theorem dX10_news_33 : decode cX10_news 33 = .ok (.iload_n 2, 1) := by decide +kernel
theorem dX10_news_34 : decode cX10_news 34 = .ok (.iload_n 3, 1) := by decide +kernel
theorem dX10_news_35 : decode cX10_news 35 = .ok (.invokevirtual 213, 3) := by decide +kernel
theorem dX10_news_38 : decode cX10_news 38 = .ok (.goto 13, 3) := by decide +kernel
theorem dX10_news_41 : decode cX10_news 41 = .ok (.aload_n 0, 1) := by decide +kernel
theorem dX10_news_42 : decode cX10_news 42 = .ok (.getfield 62, 3) := by decide +kernel
theorem dX10_news_45 : decode cX10_news 45 = .ok (.iload_n 1, 1) := by decide +kernel
theorem dX10_news_46 : decode cX10_news 46 = .ok (.iload_n 2, 1) := by decide +kernel
theorem dX10_news_47 : decode cX10_news 47 = .ok (.iload_n 3, 1) := by decide +kernel
theorem dX10_news_48 : decode cX10_news 48 = .ok (.invokevirtual 217, 3) := by decide +kernel
theorem dX10_news_51 : decode cX10_news 51 = .ok (.ireturn, 1) := by decide +kernel
theorem dX10_harm_0 : decode cX10_harm 0 = .ok (.aload_n 0, 1) := by decide +kernel
theorem dX10_harm_1 : decode cX10_harm 1 = .ok (.getfield 12, 3) := by decide +kernel
theorem dX10_harm_4 : decode cX10_harm 4 = .ok (.iload_n 1, 1) := by decide +kernel
theorem dX10_harm_5 : decode cX10_harm 5 = .ok (.invokevirtual 179, 3) := by decide +kernel
theorem dX10_harm_8 : decode cX10_harm 8 = .ok (.ifCond .eq 14, 3) := by decide +kernel
theorem dX10_harm_11 : decode cX10_harm 11 = .ok (.aload_n 0, 1) := by decide +kernel
theorem dX10_harm_12 : decode cX10_harm 12 = .ok (.getfield 12, 3) := by decide +kernel
theorem dX10_harm_15 : decode cX10_harm 15 = .ok (.iload_n 2, 1) := by decide +kernel
theorem dX10_harm_16 : decode cX10_harm 16 = .ok (.invokevirtual 179, 3) := by decide +kernel
theorem dX10_harm_19 : decode cX10_harm 19 = .ok (.ifCond .ne 6, 3) := by decide +kernel
theorem dX10_harm_22 : decode cX10_harm 22 = .ok (.bipush (-2), 2) := by decide +kernel
theorem dX10_harm_24 : decode cX10_harm 24 = .ok (.ireturn, 1) := by decide +kernel
theorem dX10_harm_25 : decode cX10_harm 25 = .ok (.iload_n 3, 1) := by decide +kernel
theorem dX10_harm_26 : decode cX10_harm 26 = .ok (.iconst 0, 1) := by decide +kernel
theorem dX10_harm_27 : decode cX10_harm 27 = .ok (.bipush 99, 2) := by decide +kernel
theorem dX10_harm_29 : decode cX10_harm 29 = .ok (.invokestatic 87, 3) := by decide +kernel
theorem dX10_harm_32 : decode cX10_harm 32 = .ok (.ifCond .ne 6, 3) := by decide +kernel
theorem dX10_harm_35 : decode cX10_harm 35 = .ok (.bipush (-3), 2) := by decide +kernel
theorem dX10_harm_37 : decode cX10_harm 37 = .ok (.ireturn, 1) := by decide +kernel
theorem dX10_harm_38 : decode cX10_harm 38 = .ok (.aload_n 0, 1) := by decide +kernel
theorem dX10_harm_39 : decode cX10_harm 39 = .ok (.getfield 69, 3) := by decide +kernel
theorem dX10_harm_42 : decode cX10_harm 42 = .ok (.iload_n 1, 1) := by decide +kernel
theorem dX10_harm_43 : decode cX10_harm 43 = .ok (.iload_n 2, 1) := by decide +kernel
theorem dX10_harm_44 : decode cX10_harm 44 = .ok (.iload_n 3, 1) := by decide +kernel
theorem dX10_harm_45 : decode cX10_harm 45 = .ok (.invokevirtual 220, 3) := by decide +kernel
theorem dX10_harm_48 : decode cX10_harm 48 = .ok (.ireturn, 1) := by decide +kernel
theorem dX10_anew_0 : decode cX10_anew 0 = .ok (.iload_n 1, 1) := by decide +kernel
theorem dX10_anew_1 : decode cX10_anew 1 = .ok (.iconst (-1), 1) := by decide +kernel
theorem dX10_anew_2 : decode cX10_anew 2 = .ok (.if_icmp .ne 20, 3) := by decide +kernel
theorem dX10_anew_5 : decode cX10_anew 5 = .ok (.aload_n 0, 1) := by decide +kernel
theorem dX10_anew_6 : decode cX10_anew 6 = .ok (.getfield 69, 3) := by decide +kernel
theorem dX10_anew_9 : decode cX10_anew 9 = .ok (.aload_n 0, 1) := by decide +kernel
theorem dX10_anew_10 : decode cX10_anew 10 = .ok (.getfield 12, 3) := by decide +kernel
theorem dX10_anew_13 : decode cX10_anew 13 = .ok (.getfield 201, 3) := by decide +kernel
theorem dX10_anew_16 : decode cX10_anew 16 = .ok (.iconst (-1), 1) := by decide +kernel
theorem dX10_anew_17 : decode cX10_anew 17 = .ok (.iconst (-1), 1) := by decide +kernel
theorem dX10_anew_18 : decode cX10_anew 18 = .ok (.invokevirtual 223, 3) := by decide +kernel
theorem dX10_anew_21 : decode cX10_anew 21 = .ok (.ireturn, 1) := by decide +kernel
theorem dX10_anew_22 : decode cX10_anew 22 = .ok (.aload_n 0, 1) := by decide +kernel
theorem dX10_anew_23 : decode cX10_anew 23 = .ok (.getfield 12, 3) := by decide +kernel
theorem dX10_anew_26 : decode cX10_anew 26 = .ok (.iload_n 1, 1) := by decide +kernel
theorem dX10_anew_27 : decode cX10_anew 27 = .ok (.invokevirtual 179, 3) := by decide +kernel
theorem dX10_anew_30 : decode cX10_anew 30 = .ok (.ifCond .ne 6, 3) := by decide +kernel
theorem dX10_anew_33 : decode cX10_anew 33 = .ok (.bipush (-2), 2) := by decide +kernel
theorem dX10_anew_35 : decode cX10_anew 35 = .ok (.ireturn, 1) := by decide +kernel
theorem dX10_anew_36 : decode cX10_anew 36 = .ok (.aload_n 0, 1) := by decide +kernel
theorem dX10_anew_37 : decode cX10_anew 37 = .ok (.getfield 69, 3) := by decide +kernel
theorem dX10_anew_40 : decode cX10_anew 40 = .ok (.aload_n 0, 1) := by decide +kernel
theorem dX10_anew_41 : decode cX10_anew 41 = .ok (.getfield 12, 3) := by decide +kernel
theorem dX10_anew_44 : decode cX10_anew 44 = .ok (.getfield 201, 3) := by decide +kernel
theorem dX10_anew_47 : decode cX10_anew 47 = .ok (.iload_n 1, 1) := by decide +kernel
theorem dX10_anew_48 : decode cX10_anew 48 = .ok (.invokevirtual 226, 3) := by decide +kernel
theorem dX10_anew_51 : decode cX10_anew 51 = .ok (.ireturn, 1) := by decide +kernel
theorem dX10_forced_0 : decode cX10_forced 0 = .ok (.aload_n 0, 1) := by decide +kernel
theorem dX10_forced_1 : decode cX10_forced 1 = .ok (.getfield 12, 3) := by decide +kernel
theorem dX10_forced_4 : decode cX10_forced 4 = .ok (.iload_n 1, 1) := by decide +kernel
theorem dX10_forced_5 : decode cX10_forced 5 = .ok (.invokevirtual 179, 3) := by decide +kernel
theorem dX10_forced_8 : decode cX10_forced 8 = .ok (.ifCond .eq 14, 3) := by decide +kernel
theorem dX10_forced_11 : decode cX10_forced 11 = .ok (.aload_n 0, 1) := by decide +kernel
theorem dX10_forced_12 : decode cX10_forced 12 = .ok (.getfield 12, 3) := by decide +kernel
theorem dX10_forced_15 : decode cX10_forced 15 = .ok (.iload_n 2, 1) := by decide +kernel
theorem dX10_forced_16 : decode cX10_forced 16 = .ok (.invokevirtual 179, 3) := by decide +kernel
theorem dX10_forced_19 : decode cX10_forced 19 = .ok (.ifCond .ne 6, 3) := by decide +kernel
theorem dX10_forced_22 : decode cX10_forced 22 = .ok (.bipush (-2), 2) := by decide +kernel
theorem dX10_forced_24 : decode cX10_forced 24 = .ok (.ireturn, 1) := by decide +kernel
theorem dX10_forced_25 : decode cX10_forced 25 = .ok (.aload_n 0, 1) := by decide +kernel
theorem dX10_forced_26 : decode cX10_forced 26 = .ok (.getfield 69, 3) := by decide +kernel
theorem dX10_forced_29 : decode cX10_forced 29 = .ok (.aload_n 0, 1) := by decide +kernel
theorem dX10_forced_30 : decode cX10_forced 30 = .ok (.getfield 12, 3) := by decide +kernel
theorem dX10_forced_33 : decode cX10_forced 33 = .ok (.getfield 201, 3) := by decide +kernel
theorem dX10_forced_36 : decode cX10_forced 36 = .ok (.iload_n 1, 1) := by decide +kernel
theorem dX10_forced_37 : decode cX10_forced 37 = .ok (.iload_n 2, 1) := by decide +kernel
theorem dX10_forced_38 : decode cX10_forced 38 = .ok (.invokevirtual 223, 3) := by decide +kernel
theorem dX10_forced_41 : decode cX10_forced 41 = .ok (.ireturn, 1) := by decide +kernel
theorem dX10_like_0 : decode cX10_like 0 = .ok (.aload_n 0, 1) := by decide +kernel
theorem dX10_like_1 : decode cX10_like 1 = .ok (.iload_n 1, 1) := by decide +kernel
theorem dX10_like_2 : decode cX10_like 2 = .ok (.iload_n 2, 1) := by decide +kernel
theorem dX10_like_3 : decode cX10_like 3 = .ok (.invokevirtual 141, 3) := by decide +kernel
theorem dX10_like_6 : decode cX10_like 6 = .ok (.ifCond .eq 12, 3) := by decide +kernel
theorem dX10_like_9 : decode cX10_like 9 = .ok (.aload_n 0, 1) := by decide +kernel
theorem dX10_like_10 : decode cX10_like 10 = .ok (.iload_n 1, 1) := by decide +kernel
theorem dX10_like_11 : decode cX10_like 11 = .ok (.iload_n 3, 1) := by decide +kernel
theorem dX10_like_12 : decode cX10_like 12 = .ok (.invokevirtual 141, 3) := by decide +kernel
theorem dX10_like_15 : decode cX10_like 15 = .ok (.ifCond .ne 6, 3) := by decide +kernel
theorem dX10_like_18 : decode cX10_like 18 = .ok (.bipush (-2), 2) := by decide +kernel
theorem dX10_like_20 : decode cX10_like 20 = .ok (.ireturn, 1) := by decide +kernel
theorem dX10_like_21 : decode cX10_like 21 = .ok (.iload_n 2, 1) := by decide +kernel
theorem dX10_like_22 : decode cX10_like 22 = .ok (.iload_n 3, 1) := by decide +kernel
theorem dX10_like_23 : decode cX10_like 23 = .ok (.if_icmp .eq 14, 3) := by decide +kernel
theorem dX10_like_26 : decode cX10_like 26 = .ok (.iload 4, 2) := by decide +kernel
theorem dX10_like_28 : decode cX10_like 28 = .ok (.iconst 0, 1) := by decide +kernel
theorem dX10_like_29 : decode cX10_like 29 = .ok (.bipush 99, 2) := by decide +kernel
theorem dX10_like_31 : decode cX10_like 31 = .ok (.invokestatic 87, 3) := by decide +kernel
theorem dX10_like_34 : decode cX10_like 34 = .ok (.ifCond .ne 6, 3) := by decide +kernel
theorem dX10_like_37 : decode cX10_like 37 = .ok (.bipush (-3), 2) := by decide +kernel
theorem dX10_like_39 : decode cX10_like 39 = .ok (.ireturn, 1) := by decide +kernel
theorem dX10_like_40 : decode cX10_like 40 = .ok (.aload_n 0, 1) := by decide +kernel
theorem dX10_like_41 : decode cX10_like 41 = .ok (.getfield 76, 3) := by decide +kernel
theorem dX10_like_44 : decode cX10_like 44 = .ok (.iload_n 1, 1) := by decide +kernel
theorem dX10_like_45 : decode cX10_like 45 = .ok (.iload_n 2, 1) := by decide +kernel
theorem dX10_like_46 : decode cX10_like 46 = .ok (.iload_n 3, 1) := by decide +kernel
theorem dX10_like_47 : decode cX10_like 47 = .ok (.iload 4, 2) := by decide +kernel
theorem dX10_like_49 : decode cX10_like 49 = .ok (.invokevirtual 229, 3) := by decide +kernel
theorem dX10_like_52 : decode cX10_like 52 = .ok (.ireturn, 1) := by decide +kernel
theorem dX10_fours_0 : decode cX10_fours 0 = .ok (.iload_n 1, 1) := by decide +kernel
theorem dX10_fours_1 : decode cX10_fours 1 = .ok (.ifCond .ne 18, 3) := by decide +kernel
theorem dX10_fours_4 : decode cX10_fours 4 = .ok (.aload_n 0, 1) := by decide +kernel
theorem dX10_fours_5 : decode cX10_fours 5 = .ok (.getfield 76, 3) := by decide +kernel
theorem dX10_fours_8 : decode cX10_fours 8 = .ok (.aload_n 0, 1) := by decide +kernel
theorem dX10_fours_9 : decode cX10_fours 9 = .ok (.getfield 12, 3) := by decide +kernel
theorem dX10_fours_12 : decode cX10_fours 12 = .ok (.getfield 201, 3) := by decide +kernel
theorem dX10_fours_15 : decode cX10_fours 15 = .ok (.invokevirtual 232, 3) := by decide +kernel
theorem dX10_fours_18 : decode cX10_fours 18 = .ok (.ireturn, 1) := by decide +kernel
theorem dX10_fours_19 : decode cX10_fours 19 = .ok (.iload_n 1, 1) := by decide +kernel
theorem dX10_fours_20 : decode cX10_fours 20 = .ok (.iconst 1, 1) := by decide +kernel
theorem dX10_fours_21 : decode cX10_fours 21 = .ok (.if_icmp .ne 18, 3) := by decide +kernel
theorem dX10_fours_24 : decode cX10_fours 24 = .ok (.aload_n 0, 1) := by decide +kernel
theorem dX10_fours_25 : decode cX10_fours 25 = .ok (.getfield 76, 3) := by decide +kernel
theorem dX10_fours_28 : decode cX10_fours 28 = .ok (.aload_n 0, 1) := by decide +kernel
theorem dX10_fours_29 : decode cX10_fours 29 = .ok (.getfield 12, 3) := by decide +kernel
theorem dX10_fours_32 : decode cX10_fours 32 = .ok (.getfield 201, 3) := by decide +kernel
theorem dX10_fours_35 : decode cX10_fours 35 = .ok (.invokevirtual 235, 3) := by decide +kernel
theorem dX10_fours_38 : decode cX10_fours 38 = .ok (.ireturn, 1) := by decide +kernel
theorem dX10_fours_39 : decode cX10_fours 39 = .ok (.bipush (-3), 2) := by decide +kernel
theorem dX10_fours_41 : decode cX10_fours 41 = .ok (.ireturn, 1) := by decide +kernel
theorem dX10_record_0 : decode cX10_record 0 = .ok (.aload_n 0, 1) := by decide +kernel
theorem dX10_record_1 : decode cX10_record 1 = .ok (.getfield 83, 3) := by decide +kernel
theorem dX10_record_4 : decode cX10_record 4 = .ok (.getfield 238, 3) := by decide +kernel
theorem dX10_record_7 : decode cX10_record 7 = .ok (.bipush 40, 2) := by decide +kernel
theorem dX10_record_9 : decode cX10_record 9 = .ok (.if_icmp .lt 6, 3) := by decide +kernel
theorem dX10_record_12 : decode cX10_record 12 = .ok (.bipush (-5), 2) := by decide +kernel
theorem dX10_record_14 : decode cX10_record 14 = .ok (.ireturn, 1) := by decide +kernel
theorem dX10_record_15 : decode cX10_record 15 = .ok (.aload_n 0, 1) := by decide +kernel
theorem dX10_record_16 : decode cX10_record 16 = .ok (.getfield 83, 3) := by decide +kernel
theorem dX10_record_19 : decode cX10_record 19 = .ok (.iload_n 1, 1) := by decide +kernel
theorem dX10_record_20 : decode cX10_record 20 = .ok (.invokevirtual 239, 3) := by decide +kernel
theorem dX10_record_23 : decode cX10_record 23 = .ok (.aload_n 0, 1) := by decide +kernel
theorem dX10_record_24 : decode cX10_record 24 = .ok (.getfield 83, 3) := by decide +kernel
theorem dX10_record_27 : decode cX10_record 27 = .ok (.getfield 238, 3) := by decide +kernel
theorem dX10_record_30 : decode cX10_record 30 = .ok (.ireturn, 1) := by decide +kernel
theorem dX10_burn_0 : decode cX10_burn 0 = .ok (.aload_n 0, 1) := by decide +kernel
theorem dX10_burn_1 : decode cX10_burn 1 = .ok (.getfield 83, 3) := by decide +kernel
theorem dX10_burn_4 : decode cX10_burn 4 = .ok (.getfield 238, 3) := by decide +kernel
theorem dX10_burn_7 : decode cX10_burn 7 = .ok (.istore_n 1, 1) := by decide +kernel
theorem dX10_burn_8 : decode cX10_burn 8 = .ok (.aload_n 0, 1) := by decide +kernel
theorem dX10_burn_9 : decode cX10_burn 9 = .ok (.getfield 83, 3) := by decide +kernel
theorem dX10_burn_12 : decode cX10_burn 12 = .ok (.iconst 0, 1) := by decide +kernel
theorem dX10_burn_13 : decode cX10_burn 13 = .ok (.putfield 238, 3) := by decide +kernel
theorem dX10_burn_16 : decode cX10_burn 16 = .ok (.iload_n 1, 1) := by decide +kernel
theorem dX10_burn_17 : decode cX10_burn 17 = .ok (.ireturn, 1) := by decide +kernel
theorem dX10_slips_0 : decode cX10_slips 0 = .ok (.iload_n 1, 1) := by decide +kernel
theorem dX10_slips_1 : decode cX10_slips 1 = .ok (.iconst 1, 1) := by decide +kernel
theorem dX10_slips_2 : decode cX10_slips 2 = .ok (.bipush 9, 2) := by decide +kernel
theorem dX10_slips_4 : decode cX10_slips 4 = .ok (.invokestatic 87, 3) := by decide +kernel
theorem dX10_slips_7 : decode cX10_slips 7 = .ok (.ifCond .eq 13, 3) := by decide +kernel
theorem dX10_slips_10 : decode cX10_slips 10 = .ok (.iload_n 2, 1) := by decide +kernel
theorem dX10_slips_11 : decode cX10_slips 11 = .ok (.iconst 1, 1) := by decide +kernel
theorem dX10_slips_12 : decode cX10_slips 12 = .ok (.bipush 9, 2) := by decide +kernel
theorem dX10_slips_14 : decode cX10_slips 14 = .ok (.invokestatic 87, 3) := by decide +kernel
theorem dX10_slips_17 : decode cX10_slips 17 = .ok (.ifCond .ne 6, 3) := by decide +kernel
theorem dX10_slips_20 : decode cX10_slips 20 = .ok (.bipush (-3), 2) := by decide +kernel
theorem dX10_slips_22 : decode cX10_slips 22 = .ok (.ireturn, 1) := by decide +kernel
theorem dX10_slips_23 : decode cX10_slips 23 = .ok (.iload_n 3, 1) := by decide +kernel
theorem dX10_slips_24 : decode cX10_slips 24 = .ok (.tableswitch 58 0 2 #[28, 38, 48], 28) := by decide +kernel
theorem dX10_slips_52 : decode cX10_slips 52 = .ok (.aload_n 0, 1) := by decide +kernel
theorem dX10_slips_53 : decode cX10_slips 53 = .ok (.getfield 83, 3) := by decide +kernel
theorem dX10_slips_56 : decode cX10_slips 56 = .ok (.iload_n 1, 1) := by decide +kernel
theorem dX10_slips_57 : decode cX10_slips 57 = .ok (.iload_n 2, 1) := by decide +kernel
theorem dX10_slips_58 : decode cX10_slips 58 = .ok (.invokevirtual 242, 3) := by decide +kernel
theorem dX10_slips_61 : decode cX10_slips 61 = .ok (.ireturn, 1) := by decide +kernel
theorem dX10_slips_62 : decode cX10_slips 62 = .ok (.aload_n 0, 1) := by decide +kernel
theorem dX10_slips_63 : decode cX10_slips 63 = .ok (.getfield 83, 3) := by decide +kernel
theorem dX10_slips_66 : decode cX10_slips 66 = .ok (.iload_n 1, 1) := by decide +kernel
theorem dX10_slips_67 : decode cX10_slips 67 = .ok (.iload_n 2, 1) := by decide +kernel
theorem dX10_slips_68 : decode cX10_slips 68 = .ok (.invokevirtual 245, 3) := by decide +kernel
theorem dX10_slips_71 : decode cX10_slips 71 = .ok (.ireturn, 1) := by decide +kernel
theorem dX10_slips_72 : decode cX10_slips 72 = .ok (.aload_n 0, 1) := by decide +kernel
theorem dX10_slips_73 : decode cX10_slips 73 = .ok (.getfield 83, 3) := by decide +kernel
theorem dX10_slips_76 : decode cX10_slips 76 = .ok (.iload_n 1, 1) := by decide +kernel
theorem dX10_slips_77 : decode cX10_slips 77 = .ok (.iload_n 2, 1) := by decide +kernel
theorem dX10_slips_78 : decode cX10_slips 78 = .ok (.invokevirtual 248, 3) := by decide +kernel
theorem dX10_slips_81 : decode cX10_slips 81 = .ok (.ireturn, 1) := by decide +kernel
theorem dX10_slips_82 : decode cX10_slips 82 = .ok (.bipush (-3), 2) := by decide +kernel
theorem dX10_slips_84 : decode cX10_slips 84 = .ok (.ireturn, 1) := by decide +kernel
theorem dX10_keep_0 : decode cX10_keep 0 = .ok (.iload_n 1, 1) := by decide +kernel
theorem dX10_keep_1 : decode cX10_keep 1 = .ok (.iconst 0, 1) := by decide +kernel
theorem dX10_keep_2 : decode cX10_keep 2 = .ok (.iconst 1, 1) := by decide +kernel
theorem dX10_keep_3 : decode cX10_keep 3 = .ok (.invokestatic 87, 3) := by decide +kernel
theorem dX10_keep_6 : decode cX10_keep 6 = .ok (.ifCond .ne 6, 3) := by decide +kernel
theorem dX10_keep_9 : decode cX10_keep 9 = .ok (.bipush (-2), 2) := by decide +kernel
theorem dX10_keep_11 : decode cX10_keep 11 = .ok (.ireturn, 1) := by decide +kernel
theorem dX10_keep_12 : decode cX10_keep 12 = .ok (.aload_n 0, 1) := by decide +kernel
theorem dX10_keep_13 : decode cX10_keep 13 = .ok (.getfield 42, 3) := by decide +kernel
theorem dX10_keep_16 : decode cX10_keep 16 = .ok (.iload_n 1, 1) := by decide +kernel
theorem dX10_keep_17 : decode cX10_keep 17 = .ok (.aaload, 1) := by decide +kernel
theorem dX10_keep_18 : decode cX10_keep 18 = .ok (.aload_n 0, 1) := by decide +kernel
theorem dX10_keep_19 : decode cX10_keep 19 = .ok (.getfield 38, 3) := by decide +kernel
theorem dX10_keep_22 : decode cX10_keep 22 = .ok (.invokevirtual 251, 3) := by decide +kernel
theorem dX10_keep_25 : decode cX10_keep 25 = .ok (.aload_n 0, 1) := by decide +kernel
theorem dX10_keep_26 : decode cX10_keep 26 = .ok (.getfield 46, 3) := by decide +kernel
theorem dX10_keep_29 : decode cX10_keep 29 = .ok (.iload_n 1, 1) := by decide +kernel
theorem dX10_keep_30 : decode cX10_keep 30 = .ok (.iconst 1, 1) := by decide +kernel
theorem dX10_keep_31 : decode cX10_keep 31 = .ok (.bastore, 1) := by decide +kernel
theorem dX10_keep_32 : decode cX10_keep 32 = .ok (.aload_n 0, 1) := by decide +kernel
theorem dX10_keep_33 : decode cX10_keep 33 = .ok (.getfield 38, 3) := by decide +kernel
theorem dX10_keep_36 : decode cX10_keep 36 = .ok (.getfield 154, 3) := by decide +kernel
theorem dX10_keep_39 : decode cX10_keep 39 = .ok (.ireturn, 1) := by decide +kernel
theorem dX10_back_0 : decode cX10_back 0 = .ok (.iload_n 1, 1) := by decide +kernel
theorem dX10_back_1 : decode cX10_back 1 = .ok (.iconst 0, 1) := by decide +kernel
theorem dX10_back_2 : decode cX10_back 2 = .ok (.iconst 1, 1) := by decide +kernel
theorem dX10_back_3 : decode cX10_back 3 = .ok (.invokestatic 87, 3) := by decide +kernel
theorem dX10_back_6 : decode cX10_back 6 = .ok (.ifCond .ne 6, 3) := by decide +kernel
theorem dX10_back_9 : decode cX10_back 9 = .ok (.bipush (-2), 2) := by decide +kernel
theorem dX10_back_11 : decode cX10_back 11 = .ok (.ireturn, 1) := by decide +kernel
theorem dX10_back_12 : decode cX10_back 12 = .ok (.aload_n 0, 1) := by decide +kernel
theorem dX10_back_13 : decode cX10_back 13 = .ok (.getfield 46, 3) := by decide +kernel
theorem dX10_back_16 : decode cX10_back 16 = .ok (.iload_n 1, 1) := by decide +kernel
theorem dX10_back_17 : decode cX10_back 17 = .ok (.baload, 1) := by decide +kernel
theorem dX10_back_18 : decode cX10_back 18 = .ok (.ifCond .ne 6, 3) := by decide +kernel
theorem dX10_back_21 : decode cX10_back 21 = .ok (.bipush (-4), 2) := by decide +kernel
theorem dX10_back_23 : decode cX10_back 23 = .ok (.ireturn, 1) := by decide +kernel
theorem dX10_back_24 : decode cX10_back 24 = .ok (.aload_n 0, 1) := by decide +kernel
theorem dX10_back_25 : decode cX10_back 25 = .ok (.getfield 38, 3) := by decide +kernel
theorem dX10_back_28 : decode cX10_back 28 = .ok (.aload_n 0, 1) := by decide +kernel
theorem dX10_back_29 : decode cX10_back 29 = .ok (.getfield 42, 3) := by decide +kernel
theorem dX10_back_32 : decode cX10_back 32 = .ok (.iload_n 1, 1) := by decide +kernel
theorem dX10_back_33 : decode cX10_back 33 = .ok (.aaload, 1) := by decide +kernel
theorem dX10_back_34 : decode cX10_back 34 = .ok (.invokevirtual 251, 3) := by decide +kernel
theorem dX10_back_37 : decode cX10_back 37 = .ok (.aload_n 0, 1) := by decide +kernel
theorem dX10_back_38 : decode cX10_back 38 = .ok (.getfield 38, 3) := by decide +kernel
theorem dX10_back_41 : decode cX10_back 41 = .ok (.getfield 154, 3) := by decide +kernel
theorem dX10_back_44 : decode cX10_back 44 = .ok (.ireturn, 1) := by decide +kernel
theorem dX10_count_0 : decode cX10_count 0 = .ok (.iload_n 1, 1) := by decide +kernel
theorem dX10_count_1 : decode cX10_count 1 = .ok (.tableswitch 99 0 6 #[43, 51, 59, 67, 75, 83, 91], 43) := by decide +kernel
theorem dX10_count_44 : decode cX10_count 44 = .ok (.aload_n 0, 1) := by decide +kernel
theorem dX10_count_45 : decode cX10_count 45 = .ok (.getfield 12, 3) := by decide +kernel
theorem dX10_count_48 : decode cX10_count 48 = .ok (.getfield 201, 3) := by decide +kernel
theorem dX10_count_51 : decode cX10_count 51 = .ok (.ireturn, 1) := by decide +kernel
theorem dX10_count_52 : decode cX10_count 52 = .ok (.aload_n 0, 1) := by decide +kernel
theorem dX10_count_53 : decode cX10_count 53 = .ok (.getfield 12, 3) := by decide +kernel
theorem dX10_count_56 : decode cX10_count 56 = .ok (.getfield 163, 3) := by decide +kernel
theorem dX10_count_59 : decode cX10_count 59 = .ok (.ireturn, 1) := by decide +kernel
theorem dX10_count_60 : decode cX10_count 60 = .ok (.aload_n 0, 1) := by decide +kernel
theorem dX10_count_61 : decode cX10_count 61 = .ok (.getfield 12, 3) := by decide +kernel
theorem dX10_count_64 : decode cX10_count 64 = .ok (.getfield 254, 3) := by decide +kernel
theorem dX10_count_67 : decode cX10_count 67 = .ok (.ireturn, 1) := by decide +kernel
theorem dX10_count_68 : decode cX10_count 68 = .ok (.aload_n 0, 1) := by decide +kernel
theorem dX10_count_69 : decode cX10_count 69 = .ok (.getfield 12, 3) := by decide +kernel
theorem dX10_count_72 : decode cX10_count 72 = .ok (.getfield 257, 3) := by decide +kernel
theorem dX10_count_75 : decode cX10_count 75 = .ok (.ireturn, 1) := by decide +kernel
theorem dX10_count_76 : decode cX10_count 76 = .ok (.aload_n 0, 1) := by decide +kernel
theorem dX10_count_77 : decode cX10_count 77 = .ok (.getfield 38, 3) := by decide +kernel
theorem dX10_count_80 : decode cX10_count 80 = .ok (.getfield 154, 3) := by decide +kernel
theorem dX10_count_83 : decode cX10_count 83 = .ok (.ireturn, 1) := by decide +kernel
theorem dX10_count_84 : decode cX10_count 84 = .ok (.aload_n 0, 1) := by decide +kernel
theorem dX10_count_85 : decode cX10_count 85 = .ok (.getfield 83, 3) := by decide +kernel
theorem dX10_count_88 : decode cX10_count 88 = .ok (.getfield 238, 3) := by decide +kernel
theorem dX10_count_91 : decode cX10_count 91 = .ok (.ireturn, 1) := by decide +kernel
theorem dX10_count_92 : decode cX10_count 92 = .ok (.aload_n 0, 1) := by decide +kernel
theorem dX10_count_93 : decode cX10_count 93 = .ok (.getfield 22, 3) := by decide +kernel
theorem dX10_count_96 : decode cX10_count 96 = .ok (.getfield 91, 3) := by decide +kernel
theorem dX10_count_99 : decode cX10_count 99 = .ok (.ireturn, 1) := by decide +kernel
theorem dX10_count_100 : decode cX10_count 100 = .ok (.iload_n 1, 1) := by decide +kernel
theorem dX10_count_101 : decode cX10_count 101 = .ok (.bipush 7, 2) := by decide +kernel
theorem dX10_count_103 : decode cX10_count 103 = .ok (.bipush 12, 2) := by decide +kernel
theorem dX10_count_105 : decode cX10_count 105 = .ok (.invokestatic 87, 3) := by decide +kernel
theorem dX10_count_108 : decode cX10_count 108 = .ok (.ifCond .ne 6, 3) := by decide +kernel
theorem dX10_count_111 : decode cX10_count 111 = .ok (.bipush (-3), 2) := by decide +kernel
theorem dX10_count_113 : decode cX10_count 113 = .ok (.ireturn, 1) := by decide +kernel
theorem dX10_count_114 : decode cX10_count 114 = .ok (.aload_n 0, 1) := by decide +kernel
theorem dX10_count_115 : decode cX10_count 115 = .ok (.getfield 12, 3) := by decide +kernel
theorem dX10_count_118 : decode cX10_count 118 = .ok (.iload_n 1, 1) := by decide +kernel
theorem dX10_count_119 : decode cX10_count 119 = .ok (.bipush 7, 2) := by decide +kernel
theorem dX10_count_121 : decode cX10_count 121 = .ok (.isub, 1) := by decide +kernel
theorem dX10_count_122 : decode cX10_count 122 = .ok (.invokevirtual 189, 3) := by decide +kernel
theorem dX10_count_125 : decode cX10_count 125 = .ok (.ireturn, 1) := by decide +kernel
theorem dX10_within_0 : decode cX10_within 0 = .ok (.iload_n 0, 1) := by decide +kernel
theorem dX10_within_1 : decode cX10_within 1 = .ok (.iload_n 1, 1) := by decide +kernel
theorem dX10_within_2 : decode cX10_within 2 = .ok (.if_icmp .lt 12, 3) := by decide +kernel
theorem dX10_within_5 : decode cX10_within 5 = .ok (.iload_n 0, 1) := by decide +kernel
theorem dX10_within_6 : decode cX10_within 6 = .ok (.iload_n 2, 1) := by decide +kernel
theorem dX10_within_7 : decode cX10_within 7 = .ok (.if_icmp .gt 7, 3) := by decide +kernel
theorem dX10_within_10 : decode cX10_within 10 = .ok (.iconst 1, 1) := by decide +kernel
theorem dX10_within_11 : decode cX10_within 11 = .ok (.goto 4, 3) := by decide +kernel
theorem dX10_within_14 : decode cX10_within 14 = .ok (.iconst 0, 1) := by decide +kernel
theorem dX10_within_15 : decode cX10_within 15 = .ok (.ireturn, 1) := by decide +kernel
theorem dX10_isValley_0 : decode cX10_isValley 0 = .ok (.iload_n 0, 1) := by decide +kernel
theorem dX10_isValley_1 : decode cX10_isValley 1 = .ok (.iconst 0, 1) := by decide +kernel
theorem dX10_isValley_2 : decode cX10_isValley 2 = .ok (.iconst 1, 1) := by decide +kernel
theorem dX10_isValley_3 : decode cX10_isValley 3 = .ok (.invokestatic 87, 3) := by decide +kernel
theorem dX10_isValley_6 : decode cX10_isValley 6 = .ok (.ireturn, 1) := by decide +kernel
theorem dX10_isPerson_0 : decode cX10_isPerson 0 = .ok (.iload_n 1, 1) := by decide +kernel
theorem dX10_isPerson_1 : decode cX10_isPerson 1 = .ok (.invokestatic 170, 3) := by decide +kernel
theorem dX10_isPerson_4 : decode cX10_isPerson 4 = .ok (.ifCond .eq 18, 3) := by decide +kernel
theorem dX10_isPerson_7 : decode cX10_isPerson 7 = .ok (.aload_n 0, 1) := by decide +kernel
theorem dX10_isPerson_8 : decode cX10_isPerson 8 = .ok (.getfield 12, 3) := by decide +kernel
theorem dX10_isPerson_11 : decode cX10_isPerson 11 = .ok (.iload_n 2, 1) := by decide +kernel
theorem dX10_isPerson_12 : decode cX10_isPerson 12 = .ok (.invokevirtual 179, 3) := by decide +kernel
theorem dX10_isPerson_15 : decode cX10_isPerson 15 = .ok (.ifCond .eq 7, 3) := by decide +kernel
theorem dX10_isPerson_18 : decode cX10_isPerson 18 = .ok (.iconst 1, 1) := by decide +kernel
theorem dX10_isPerson_19 : decode cX10_isPerson 19 = .ok (.goto 4, 3) := by decide +kernel
theorem dX10_isPerson_22 : decode cX10_isPerson 22 = .ok (.iconst 0, 1) := by decide +kernel
theorem dX10_isPerson_23 : decode cX10_isPerson 23 = .ok (.ireturn, 1) := by decide +kernel
theorem dX10_isSlot_0 : decode cX10_isSlot 0 = .ok (.aload_n 0, 1) := by decide +kernel
theorem dX10_isSlot_1 : decode cX10_isSlot 1 = .ok (.iload_n 1, 1) := by decide +kernel
theorem dX10_isSlot_2 : decode cX10_isSlot 2 = .ok (.iload_n 2, 1) := by decide +kernel
theorem dX10_isSlot_3 : decode cX10_isSlot 3 = .ok (.invokevirtual 141, 3) := by decide +kernel
theorem dX10_isSlot_6 : decode cX10_isSlot 6 = .ok (.ifCond .eq 18, 3) := by decide +kernel
theorem dX10_isSlot_9 : decode cX10_isSlot 9 = .ok (.aload_n 0, 1) := by decide +kernel
theorem dX10_isSlot_10 : decode cX10_isSlot 10 = .ok (.getfield 12, 3) := by decide +kernel
theorem dX10_isSlot_13 : decode cX10_isSlot 13 = .ok (.iload_n 3, 1) := by decide +kernel
theorem dX10_isSlot_14 : decode cX10_isSlot 14 = .ok (.invokevirtual 260, 3) := by decide +kernel
theorem dX10_isSlot_17 : decode cX10_isSlot 17 = .ok (.ifCond .eq 7, 3) := by decide +kernel
theorem dX10_isSlot_20 : decode cX10_isSlot 20 = .ok (.iconst 1, 1) := by decide +kernel
theorem dX10_isSlot_21 : decode cX10_isSlot 21 = .ok (.goto 4, 3) := by decide +kernel
theorem dX10_isSlot_24 : decode cX10_isSlot 24 = .ok (.iconst 0, 1) := by decide +kernel
theorem dX10_isSlot_25 : decode cX10_isSlot 25 = .ok (.ireturn, 1) := by decide +kernel
theorem dX10_isPlanAsked_0 : decode cX10_isPlanAsked 0 = .ok (.iload_n 0, 1) := by decide +kernel
theorem dX10_isPlanAsked_1 : decode cX10_isPlanAsked 1 = .ok (.iconst 0, 1) := by decide +kernel
theorem dX10_isPlanAsked_2 : decode cX10_isPlanAsked 2 = .ok (.iconst 1, 1) := by decide +kernel
theorem dX10_isPlanAsked_3 : decode cX10_isPlanAsked 3 = .ok (.invokestatic 87, 3) := by decide +kernel
theorem dX10_isPlanAsked_6 : decode cX10_isPlanAsked 6 = .ok (.ifCond .eq 18, 3) := by decide +kernel
theorem dX10_isPlanAsked_9 : decode cX10_isPlanAsked 9 = .ok (.iload_n 1, 1) := by decide +kernel
theorem dX10_isPlanAsked_10 : decode cX10_isPlanAsked 10 = .ok (.iconst 0, 1) := by decide +kernel
theorem dX10_isPlanAsked_11 : decode cX10_isPlanAsked 11 = .ok (.sipush 200, 3) := by decide +kernel
theorem dX10_isPlanAsked_14 : decode cX10_isPlanAsked 14 = .ok (.invokestatic 87, 3) := by decide +kernel
theorem dX10_isPlanAsked_17 : decode cX10_isPlanAsked 17 = .ok (.ifCond .eq 7, 3) := by decide +kernel
theorem dX10_isPlanAsked_20 : decode cX10_isPlanAsked 20 = .ok (.iconst 1, 1) := by decide +kernel
theorem dX10_isPlanAsked_21 : decode cX10_isPlanAsked 21 = .ok (.goto 4, 3) := by decide +kernel
theorem dX10_isPlanAsked_24 : decode cX10_isPlanAsked 24 = .ok (.iconst 0, 1) := by decide +kernel
theorem dX10_isPlanAsked_25 : decode cX10_isPlanAsked 25 = .ok (.ireturn, 1) := by decide +kernel
theorem dX10_isSuch_0 : decode cX10_isSuch 0 = .ok (.iload_n 0, 1) := by decide +kernel
theorem dX10_isSuch_1 : decode cX10_isSuch 1 = .ok (.iconst 3, 1) := by decide +kernel
theorem dX10_isSuch_2 : decode cX10_isSuch 2 = .ok (.iadd, 1) := by decide +kernel
theorem dX10_isSuch_3 : decode cX10_isSuch 3 = .ok (.istore_n 2, 1) := by decide +kernel
theorem dX10_isSuch_4 : decode cX10_isSuch 4 = .ok (.iconst 0, 1) := by decide +kernel
theorem dX10_isSuch_5 : decode cX10_isSuch 5 = .ok (.istore_n 3, 1) := by decide +kernel
theorem dX10_isSuch_6 : decode cX10_isSuch 6 = .ok (.iload_n 3, 1) := by decide +kernel
theorem dX10_isSuch_7 : decode cX10_isSuch 7 = .ok (.getstatic 186, 3) := by decide +kernel
theorem dX10_isSuch_10 : decode cX10_isSuch 10 = .ok (.arraylength, 1) := by decide +kernel
theorem dX10_isSuch_11 : decode cX10_isSuch 11 = .ok (.if_icmp .ge 38, 3) := by decide +kernel
theorem dX10_isSuch_14 : decode cX10_isSuch 14 = .ok (.iload_n 2, 1) := by decide +kernel
theorem dX10_isSuch_15 : decode cX10_isSuch 15 = .ok (.iload_n 1, 1) := by decide +kernel
theorem dX10_isSuch_16 : decode cX10_isSuch 16 = .ok (.if_icmp .ne 5, 3) := by decide +kernel
theorem dX10_isSuch_19 : decode cX10_isSuch 19 = .ok (.iconst 1, 1) := by decide +kernel
theorem dX10_isSuch_20 : decode cX10_isSuch 20 = .ok (.ireturn, 1) := by decide +kernel
theorem dX10_isSuch_21 : decode cX10_isSuch 21 = .ok (.iload_n 2, 1) := by decide +kernel
theorem dX10_isSuch_22 : decode cX10_isSuch 22 = .ok (.iconst 0, 1) := by decide +kernel
theorem dX10_isSuch_23 : decode cX10_isSuch 23 = .ok (.getstatic 186, 3) := by decide +kernel
theorem dX10_isSuch_26 : decode cX10_isSuch 26 = .ok (.arraylength, 1) := by decide +kernel
theorem dX10_isSuch_27 : decode cX10_isSuch 27 = .ok (.iconst 1, 1) := by decide +kernel
theorem dX10_isSuch_28 : decode cX10_isSuch 28 = .ok (.isub, 1) := by decide +kernel
theorem dX10_isSuch_29 : decode cX10_isSuch 29 = .ok (.invokestatic 87, 3) := by decide +kernel
theorem dX10_isSuch_32 : decode cX10_isSuch 32 = .ok (.ifCond .ne 5, 3) := by decide +kernel
theorem dX10_isSuch_35 : decode cX10_isSuch 35 = .ok (.iconst 0, 1) := by decide +kernel
theorem dX10_isSuch_36 : decode cX10_isSuch 36 = .ok (.ireturn, 1) := by decide +kernel
theorem dX10_isSuch_37 : decode cX10_isSuch 37 = .ok (.getstatic 186, 3) := by decide +kernel
theorem dX10_isSuch_40 : decode cX10_isSuch 40 = .ok (.iload_n 2, 1) := by decide +kernel
theorem dX10_isSuch_41 : decode cX10_isSuch 41 = .ok (.iaload, 1) := by decide +kernel
theorem dX10_isSuch_42 : decode cX10_isSuch 42 = .ok (.istore_n 2, 1) := by decide +kernel
theorem dX10_isSuch_43 : decode cX10_isSuch 43 = .ok (.iinc 3 1, 3) := by decide +kernel
theorem dX10_isSuch_46 : decode cX10_isSuch 46 = .ok (.goto (-40), 3) := by decide +kernel
theorem dX10_isSuch_49 : decode cX10_isSuch 49 = .ok (.iconst 0, 1) := by decide +kernel
theorem dX10_isSuch_50 : decode cX10_isSuch 50 = .ok (.ireturn, 1) := by decide +kernel
theorem dX10_personIndex_0 : decode cX10_personIndex 0 = .ok (.iload_n 0, 1) := by decide +kernel
theorem dX10_personIndex_1 : decode cX10_personIndex 1 = .ok (.bipush 6, 2) := by decide +kernel
theorem dX10_personIndex_3 : decode cX10_personIndex 3 = .ok (.imul, 1) := by decide +kernel
theorem dX10_personIndex_4 : decode cX10_personIndex 4 = .ok (.iload_n 1, 1) := by decide +kernel
theorem dX10_personIndex_5 : decode cX10_personIndex 5 = .ok (.iadd, 1) := by decide +kernel
theorem dX10_personIndex_6 : decode cX10_personIndex 6 = .ok (.ireturn, 1) := by decide +kernel
theorem dX10_slotIndex_0 : decode cX10_slotIndex 0 = .ok (.iload_n 0, 1) := by decide +kernel
theorem dX10_slotIndex_1 : decode cX10_slotIndex 1 = .ok (.iload_n 1, 1) := by decide +kernel
theorem dX10_slotIndex_2 : decode cX10_slotIndex 2 = .ok (.invokestatic 263, 3) := by decide +kernel
theorem dX10_slotIndex_5 : decode cX10_slotIndex 5 = .ok (.iconst 4, 1) := by decide +kernel
theorem dX10_slotIndex_6 : decode cX10_slotIndex 6 = .ok (.imul, 1) := by decide +kernel
theorem dX10_slotIndex_7 : decode cX10_slotIndex 7 = .ok (.iload_n 2, 1) := by decide +kernel
theorem dX10_slotIndex_8 : decode cX10_slotIndex 8 = .ok (.iadd, 1) := by decide +kernel
theorem dX10_slotIndex_9 : decode cX10_slotIndex 9 = .ok (.ireturn, 1) := by decide +kernel
theorem dJ6_bitCount_0f7a4_0 : decode cJ6_bitCount_0f7a4 0 = .ok (.iload_n 0, 1) := by decide +kernel
theorem dJ6_bitCount_0f7a4_1 : decode cJ6_bitCount_0f7a4 1 = .ok (.iload_n 0, 1) := by decide +kernel
theorem dJ6_bitCount_0f7a4_2 : decode cJ6_bitCount_0f7a4 2 = .ok (.iconst 1, 1) := by decide +kernel
theorem dJ6_bitCount_0f7a4_3 : decode cJ6_bitCount_0f7a4 3 = .ok (.iushr, 1) := by decide +kernel
theorem dJ6_bitCount_0f7a4_4 : decode cJ6_bitCount_0f7a4 4 = .ok (.ldc_w 265, 3) := by decide +kernel
theorem dJ6_bitCount_0f7a4_7 : decode cJ6_bitCount_0f7a4 7 = .ok (.iand, 1) := by decide +kernel
theorem dJ6_bitCount_0f7a4_8 : decode cJ6_bitCount_0f7a4 8 = .ok (.isub, 1) := by decide +kernel
theorem dJ6_bitCount_0f7a4_9 : decode cJ6_bitCount_0f7a4 9 = .ok (.istore_n 0, 1) := by decide +kernel
theorem dJ6_bitCount_0f7a4_10 : decode cJ6_bitCount_0f7a4 10 = .ok (.iload_n 0, 1) := by decide +kernel
theorem dJ6_bitCount_0f7a4_11 : decode cJ6_bitCount_0f7a4 11 = .ok (.ldc_w 266, 3) := by decide +kernel
theorem dJ6_bitCount_0f7a4_14 : decode cJ6_bitCount_0f7a4 14 = .ok (.iand, 1) := by decide +kernel
theorem dJ6_bitCount_0f7a4_15 : decode cJ6_bitCount_0f7a4 15 = .ok (.iload_n 0, 1) := by decide +kernel
theorem dJ6_bitCount_0f7a4_16 : decode cJ6_bitCount_0f7a4 16 = .ok (.iconst 2, 1) := by decide +kernel
theorem dJ6_bitCount_0f7a4_17 : decode cJ6_bitCount_0f7a4 17 = .ok (.iushr, 1) := by decide +kernel
theorem dJ6_bitCount_0f7a4_18 : decode cJ6_bitCount_0f7a4 18 = .ok (.ldc_w 266, 3) := by decide +kernel
theorem dJ6_bitCount_0f7a4_21 : decode cJ6_bitCount_0f7a4 21 = .ok (.iand, 1) := by decide +kernel
theorem dJ6_bitCount_0f7a4_22 : decode cJ6_bitCount_0f7a4 22 = .ok (.iadd, 1) := by decide +kernel
theorem dJ6_bitCount_0f7a4_23 : decode cJ6_bitCount_0f7a4 23 = .ok (.istore_n 0, 1) := by decide +kernel
theorem dJ6_bitCount_0f7a4_24 : decode cJ6_bitCount_0f7a4 24 = .ok (.iload_n 0, 1) := by decide +kernel
theorem dJ6_bitCount_0f7a4_25 : decode cJ6_bitCount_0f7a4 25 = .ok (.iload_n 0, 1) := by decide +kernel
theorem dJ6_bitCount_0f7a4_26 : decode cJ6_bitCount_0f7a4 26 = .ok (.iconst 4, 1) := by decide +kernel
theorem dJ6_bitCount_0f7a4_27 : decode cJ6_bitCount_0f7a4 27 = .ok (.iushr, 1) := by decide +kernel
theorem dJ6_bitCount_0f7a4_28 : decode cJ6_bitCount_0f7a4 28 = .ok (.iadd, 1) := by decide +kernel
theorem dJ6_bitCount_0f7a4_29 : decode cJ6_bitCount_0f7a4 29 = .ok (.ldc_w 267, 3) := by decide +kernel
theorem dJ6_bitCount_0f7a4_32 : decode cJ6_bitCount_0f7a4 32 = .ok (.iand, 1) := by decide +kernel
theorem dJ6_bitCount_0f7a4_33 : decode cJ6_bitCount_0f7a4 33 = .ok (.istore_n 0, 1) := by decide +kernel
theorem dJ6_bitCount_0f7a4_34 : decode cJ6_bitCount_0f7a4 34 = .ok (.iload_n 0, 1) := by decide +kernel
theorem dJ6_bitCount_0f7a4_35 : decode cJ6_bitCount_0f7a4 35 = .ok (.iload_n 0, 1) := by decide +kernel
theorem dJ6_bitCount_0f7a4_36 : decode cJ6_bitCount_0f7a4 36 = .ok (.bipush 8, 2) := by decide +kernel
theorem dJ6_bitCount_0f7a4_38 : decode cJ6_bitCount_0f7a4 38 = .ok (.iushr, 1) := by decide +kernel
theorem dJ6_bitCount_0f7a4_39 : decode cJ6_bitCount_0f7a4 39 = .ok (.iadd, 1) := by decide +kernel
theorem dJ6_bitCount_0f7a4_40 : decode cJ6_bitCount_0f7a4 40 = .ok (.istore_n 0, 1) := by decide +kernel
theorem dJ6_bitCount_0f7a4_41 : decode cJ6_bitCount_0f7a4 41 = .ok (.iload_n 0, 1) := by decide +kernel
theorem dJ6_bitCount_0f7a4_42 : decode cJ6_bitCount_0f7a4 42 = .ok (.iload_n 0, 1) := by decide +kernel
theorem dJ6_bitCount_0f7a4_43 : decode cJ6_bitCount_0f7a4 43 = .ok (.bipush 16, 2) := by decide +kernel
theorem dJ6_bitCount_0f7a4_45 : decode cJ6_bitCount_0f7a4 45 = .ok (.iushr, 1) := by decide +kernel
theorem dJ6_bitCount_0f7a4_46 : decode cJ6_bitCount_0f7a4 46 = .ok (.iadd, 1) := by decide +kernel
theorem dJ6_bitCount_0f7a4_47 : decode cJ6_bitCount_0f7a4 47 = .ok (.istore_n 0, 1) := by decide +kernel
theorem dJ6_bitCount_0f7a4_48 : decode cJ6_bitCount_0f7a4 48 = .ok (.iload_n 0, 1) := by decide +kernel
theorem dJ6_bitCount_0f7a4_49 : decode cJ6_bitCount_0f7a4 49 = .ok (.bipush 63, 2) := by decide +kernel
theorem dJ6_bitCount_0f7a4_51 : decode cJ6_bitCount_0f7a4 51 = .ok (.iand, 1) := by decide +kernel
theorem dJ6_bitCount_0f7a4_52 : decode cJ6_bitCount_0f7a4 52 = .ok (.ireturn, 1) := by decide +kernel
theorem dJ9_max_7cf53_0 : decode cJ9_max_7cf53 0 = .ok (.iload_n 0, 1) := by decide +kernel
theorem dJ9_max_7cf53_1 : decode cJ9_max_7cf53 1 = .ok (.iload_n 1, 1) := by decide +kernel
theorem dJ9_max_7cf53_2 : decode cJ9_max_7cf53 2 = .ok (.if_icmp .lt 7, 3) := by decide +kernel
theorem dJ9_max_7cf53_5 : decode cJ9_max_7cf53 5 = .ok (.iload_n 0, 1) := by decide +kernel
theorem dJ9_max_7cf53_6 : decode cJ9_max_7cf53 6 = .ok (.goto 4, 3) := by decide +kernel
theorem dJ9_max_7cf53_9 : decode cJ9_max_7cf53 9 = .ok (.iload_n 1, 1) := by decide +kernel
theorem dJ9_max_7cf53_10 : decode cJ9_max_7cf53 10 = .ok (.ireturn, 1) := by decide +kernel
theorem dJ9_min_7cf53_0 : decode cJ9_min_7cf53 0 = .ok (.iload_n 0, 1) := by decide +kernel
theorem dJ9_min_7cf53_1 : decode cJ9_min_7cf53 1 = .ok (.iload_n 1, 1) := by decide +kernel
theorem dJ9_min_7cf53_2 : decode cJ9_min_7cf53 2 = .ok (.if_icmp .gt 7, 3) := by decide +kernel
theorem dJ9_min_7cf53_5 : decode cJ9_min_7cf53 5 = .ok (.iload_n 0, 1) := by decide +kernel
theorem dJ9_min_7cf53_6 : decode cJ9_min_7cf53 6 = .ok (.goto 4, 3) := by decide +kernel
theorem dJ9_min_7cf53_9 : decode cJ9_min_7cf53 9 = .ok (.iload_n 1, 1) := by decide +kernel
theorem dJ9_min_7cf53_10 : decode cJ9_min_7cf53 10 = .ok (.ireturn, 1) := by decide +kernel
theorem dJ0_length_8abf5_0 : decode cJ0_length_8abf5 0 = .ok (.aload_n 0, 1) := by decide +kernel
theorem dJ0_length_8abf5_1 : decode cJ0_length_8abf5 1 = .ok (.getfield 9, 3) := by decide +kernel
theorem dJ0_length_8abf5_4 : decode cJ0_length_8abf5 4 = .ok (.arraylength, 1) := by decide +kernel
theorem dJ0_length_8abf5_5 : decode cJ0_length_8abf5 5 = .ok (.aload_n 0, 1) := by decide +kernel
theorem dJ0_length_8abf5_6 : decode cJ0_length_8abf5 6 = .ok (.invokevirtual 335, 3) := by decide +kernel
theorem dJ0_length_8abf5_9 : decode cJ0_length_8abf5 9 = .ok (.ishr, 1) := by decide +kernel
theorem dJ0_length_8abf5_10 : decode cJ0_length_8abf5 10 = .ok (.ireturn, 1) := by decide +kernel
theorem dJ0_charAt_5068e_0 : decode cJ0_charAt_5068e 0 = .ok (.aload_n 0, 1) := by decide +kernel
theorem dJ0_charAt_5068e_1 : decode cJ0_charAt_5068e 1 = .ok (.invokevirtual 492, 3) := by decide +kernel
theorem dJ0_charAt_5068e_4 : decode cJ0_charAt_5068e 4 = .ok (.ifCond .eq 12, 3) := by decide +kernel
theorem dJ0_charAt_5068e_7 : decode cJ0_charAt_5068e 7 = .ok (.aload_n 0, 1) := by decide +kernel
theorem dJ0_charAt_5068e_8 : decode cJ0_charAt_5068e 8 = .ok (.getfield 9, 3) := by decide +kernel
theorem dJ0_charAt_5068e_11 : decode cJ0_charAt_5068e 11 = .ok (.iload_n 1, 1) := by decide +kernel
theorem dJ0_charAt_5068e_12 : decode cJ0_charAt_5068e 12 = .ok (.invokestatic 495, 3) := by decide +kernel
theorem dJ0_charAt_5068e_15 : decode cJ0_charAt_5068e 15 = .ok (.ireturn, 1) := by decide +kernel
theorem dJ0_charAt_5068e_16 : decode cJ0_charAt_5068e 16 = .ok (.aload_n 0, 1) := by decide +kernel
theorem dJ0_charAt_5068e_17 : decode cJ0_charAt_5068e 17 = .ok (.getfield 9, 3) := by decide +kernel
theorem dJ0_charAt_5068e_20 : decode cJ0_charAt_5068e 20 = .ok (.iload_n 1, 1) := by decide +kernel
theorem dJ0_charAt_5068e_21 : decode cJ0_charAt_5068e 21 = .ok (.invokestatic 498, 3) := by decide +kernel
theorem dJ0_charAt_5068e_24 : decode cJ0_charAt_5068e 24 = .ok (.ireturn, 1) := by decide +kernel
theorem dJ0_coder_7d493_0 : decode cJ0_coder_7d493 0 = .ok (.getstatic 38, 3) := by decide +kernel
theorem dJ0_coder_7d493_3 : decode cJ0_coder_7d493 3 = .ok (.ifCond .eq 10, 3) := by decide +kernel
theorem dJ0_coder_7d493_6 : decode cJ0_coder_7d493 6 = .ok (.aload_n 0, 1) := by decide +kernel
theorem dJ0_coder_7d493_7 : decode cJ0_coder_7d493 7 = .ok (.getfield 15, 3) := by decide +kernel
theorem dJ0_coder_7d493_10 : decode cJ0_coder_7d493 10 = .ok (.goto 4, 3) := by decide +kernel
theorem dJ0_coder_7d493_13 : decode cJ0_coder_7d493 13 = .ok (.iconst 1, 1) := by decide +kernel
theorem dJ0_coder_7d493_14 : decode cJ0_coder_7d493 14 = .ok (.ireturn, 1) := by decide +kernel
theorem dJ0_isLatin1_aae02_0 : decode cJ0_isLatin1_aae02 0 = .ok (.getstatic 38, 3) := by decide +kernel
theorem dJ0_isLatin1_aae02_3 : decode cJ0_isLatin1_aae02 3 = .ok (.ifCond .eq 14, 3) := by decide +kernel
theorem dJ0_isLatin1_aae02_6 : decode cJ0_isLatin1_aae02 6 = .ok (.aload_n 0, 1) := by decide +kernel
theorem dJ0_isLatin1_aae02_7 : decode cJ0_isLatin1_aae02 7 = .ok (.getfield 15, 3) := by decide +kernel
theorem dJ0_isLatin1_aae02_10 : decode cJ0_isLatin1_aae02 10 = .ok (.ifCond .ne 7, 3) := by decide +kernel
theorem dJ0_isLatin1_aae02_13 : decode cJ0_isLatin1_aae02 13 = .ok (.iconst 1, 1) := by decide +kernel
theorem dJ0_isLatin1_aae02_14 : decode cJ0_isLatin1_aae02 14 = .ok (.goto 4, 3) := by decide +kernel
theorem dJ0_isLatin1_aae02_17 : decode cJ0_isLatin1_aae02 17 = .ok (.iconst 0, 1) := by decide +kernel
theorem dJ0_isLatin1_aae02_18 : decode cJ0_isLatin1_aae02 18 = .ok (.ireturn, 1) := by decide +kernel
theorem dJ0_checkIndex_df160_0 : decode cJ0_checkIndex_df160 0 = .ok (.iload_n 0, 1) := by decide +kernel
theorem dJ0_checkIndex_df160_1 : decode cJ0_checkIndex_df160 1 = .ok (.iload_n 1, 1) := by decide +kernel
theorem dJ0_checkIndex_df160_2 : decode cJ0_checkIndex_df160 2 = .ok (.getstatic 1053, 3) := by decide +kernel
theorem dJ0_checkIndex_df160_5 : decode cJ0_checkIndex_df160 5 = .ok (.invokestatic 1059, 3) := by decide +kernel
theorem dJ0_checkIndex_df160_8 : decode cJ0_checkIndex_df160 8 = .ok (.pop, 1) := by decide +kernel
theorem dJ0_checkIndex_df160_9 : decode cJ0_checkIndex_df160 9 = .ok (.return_, 1) := by decide +kernel
theorem dJ1_charAt_3b067_0 : decode cJ1_charAt_3b067 0 = .ok (.iload_n 1, 1) := by decide +kernel
theorem dJ1_charAt_3b067_1 : decode cJ1_charAt_3b067 1 = .ok (.aload_n 0, 1) := by decide +kernel
theorem dJ1_charAt_3b067_2 : decode cJ1_charAt_3b067 2 = .ok (.arraylength, 1) := by decide +kernel
theorem dJ1_charAt_3b067_3 : decode cJ1_charAt_3b067 3 = .ok (.invokestatic 9, 3) := by decide +kernel
theorem dJ1_charAt_3b067_6 : decode cJ1_charAt_3b067 6 = .ok (.aload_n 0, 1) := by decide +kernel
theorem dJ1_charAt_3b067_7 : decode cJ1_charAt_3b067 7 = .ok (.iload_n 1, 1) := by decide +kernel
theorem dJ1_charAt_3b067_8 : decode cJ1_charAt_3b067 8 = .ok (.baload, 1) := by decide +kernel
theorem dJ1_charAt_3b067_9 : decode cJ1_charAt_3b067 9 = .ok (.sipush 255, 3) := by decide +kernel
theorem dJ1_charAt_3b067_12 : decode cJ1_charAt_3b067 12 = .ok (.iand, 1) := by decide +kernel
theorem dJ1_charAt_3b067_13 : decode cJ1_charAt_3b067 13 = .ok (.i2c, 1) := by decide +kernel
theorem dJ1_charAt_3b067_14 : decode cJ1_charAt_3b067 14 = .ok (.ireturn, 1) := by decide +kernel
theorem dJ2_getChar_3b067_0 : decode cJ2_getChar_3b067 0 = .ok (.getstatic 44, 3) := by decide +kernel
theorem dJ2_getChar_3b067_3 : decode cJ2_getChar_3b067 3 = .ok (.ifCond .ne 25, 3) := by decide +kernel
theorem dJ2_getChar_3b067_6 : decode cJ2_getChar_3b067 6 = .ok (.iload_n 1, 1) := by decide +kernel
theorem dJ2_getChar_3b067_7 : decode cJ2_getChar_3b067 7 = .ok (.ifCond .lt 11, 3) := by decide +kernel
theorem dJ2_getChar_3b067_10 : decode cJ2_getChar_3b067 10 = .ok (.iload_n 1, 1) := by decide +kernel
theorem dJ2_getChar_3b067_11 : decode cJ2_getChar_3b067 11 = .ok (.aload_n 0, 1) := by decide +kernel
theorem dJ2_getChar_3b067_12 : decode cJ2_getChar_3b067 12 = .ok (.invokestatic 48, 3) := by decide +kernel
theorem dJ2_getChar_3b067_15 : decode cJ2_getChar_3b067 15 = .ok (.if_icmp .lt 13, 3) := by decide +kernel
theorem dJ2_getChar_3b067_18 : decode cJ2_getChar_3b067 18 = .ok (.new 52, 3) := by decide +kernel
theorem dJ2_getChar_3b067_21 : decode cJ2_getChar_3b067 21 = .ok (.dup, 1) := by decide +kernel
theorem dJ2_getChar_3b067_22 : decode cJ2_getChar_3b067 22 = .ok (.ldc 54, 2) := by decide +kernel
theorem dJ2_getChar_3b067_24 : decode cJ2_getChar_3b067 24 = .ok (.invokespecial 56, 3) := by decide +kernel
theorem dJ2_getChar_3b067_27 : decode cJ2_getChar_3b067 27 = .ok (.athrow, 1) := by decide +kernel
theorem dJ2_getChar_3b067_28 : decode cJ2_getChar_3b067 28 = .ok (.iload_n 1, 1) := by decide +kernel
theorem dJ2_getChar_3b067_29 : decode cJ2_getChar_3b067 29 = .ok (.iconst 1, 1) := by decide +kernel
theorem dJ2_getChar_3b067_30 : decode cJ2_getChar_3b067 30 = .ok (.ishl, 1) := by decide +kernel
theorem dJ2_getChar_3b067_31 : decode cJ2_getChar_3b067 31 = .ok (.istore_n 1, 1) := by decide +kernel
theorem dJ2_getChar_3b067_32 : decode cJ2_getChar_3b067 32 = .ok (.aload_n 0, 1) := by decide +kernel
theorem dJ2_getChar_3b067_33 : decode cJ2_getChar_3b067 33 = .ok (.iload_n 1, 1) := by decide +kernel
theorem dJ2_getChar_3b067_34 : decode cJ2_getChar_3b067 34 = .ok (.iinc 1 1, 3) := by decide +kernel
theorem dJ2_getChar_3b067_37 : decode cJ2_getChar_3b067 37 = .ok (.baload, 1) := by decide +kernel
theorem dJ2_getChar_3b067_38 : decode cJ2_getChar_3b067 38 = .ok (.sipush 255, 3) := by decide +kernel
theorem dJ2_getChar_3b067_41 : decode cJ2_getChar_3b067 41 = .ok (.iand, 1) := by decide +kernel
theorem dJ2_getChar_3b067_42 : decode cJ2_getChar_3b067 42 = .ok (.getstatic 59, 3) := by decide +kernel
theorem dJ2_getChar_3b067_45 : decode cJ2_getChar_3b067 45 = .ok (.ishl, 1) := by decide +kernel
theorem dJ2_getChar_3b067_46 : decode cJ2_getChar_3b067 46 = .ok (.aload_n 0, 1) := by decide +kernel
theorem dJ2_getChar_3b067_47 : decode cJ2_getChar_3b067 47 = .ok (.iload_n 1, 1) := by decide +kernel
theorem dJ2_getChar_3b067_48 : decode cJ2_getChar_3b067 48 = .ok (.baload, 1) := by decide +kernel
theorem dJ2_getChar_3b067_49 : decode cJ2_getChar_3b067 49 = .ok (.sipush 255, 3) := by decide +kernel
theorem dJ2_getChar_3b067_52 : decode cJ2_getChar_3b067 52 = .ok (.iand, 1) := by decide +kernel
theorem dJ2_getChar_3b067_53 : decode cJ2_getChar_3b067 53 = .ok (.getstatic 63, 3) := by decide +kernel
theorem dJ2_getChar_3b067_56 : decode cJ2_getChar_3b067 56 = .ok (.ishl, 1) := by decide +kernel
theorem dJ2_getChar_3b067_57 : decode cJ2_getChar_3b067 57 = .ok (.ior, 1) := by decide +kernel
theorem dJ2_getChar_3b067_58 : decode cJ2_getChar_3b067 58 = .ok (.i2c, 1) := by decide +kernel
theorem dJ2_getChar_3b067_59 : decode cJ2_getChar_3b067 59 = .ok (.ireturn, 1) := by decide +kernel
theorem dJ2_length_9d52b_0 : decode cJ2_length_9d52b 0 = .ok (.aload_n 0, 1) := by decide +kernel
theorem dJ2_length_9d52b_1 : decode cJ2_length_9d52b 1 = .ok (.arraylength, 1) := by decide +kernel
theorem dJ2_length_9d52b_2 : decode cJ2_length_9d52b 2 = .ok (.iconst 1, 1) := by decide +kernel
theorem dJ2_length_9d52b_3 : decode cJ2_length_9d52b 3 = .ok (.ishr, 1) := by decide +kernel
theorem dJ2_length_9d52b_4 : decode cJ2_length_9d52b 4 = .ok (.ireturn, 1) := by decide +kernel
theorem dJ2_charAt_3b067_0 : decode cJ2_charAt_3b067 0 = .ok (.iload_n 1, 1) := by decide +kernel
theorem dJ2_charAt_3b067_1 : decode cJ2_charAt_3b067 1 = .ok (.aload_n 0, 1) := by decide +kernel
theorem dJ2_charAt_3b067_2 : decode cJ2_charAt_3b067 2 = .ok (.invokestatic 67, 3) := by decide +kernel
theorem dJ2_charAt_3b067_5 : decode cJ2_charAt_3b067 5 = .ok (.aload_n 0, 1) := by decide +kernel
theorem dJ2_charAt_3b067_6 : decode cJ2_charAt_3b067 6 = .ok (.iload_n 1, 1) := by decide +kernel
theorem dJ2_charAt_3b067_7 : decode cJ2_charAt_3b067 7 = .ok (.invokestatic 71, 3) := by decide +kernel
theorem dJ2_charAt_3b067_10 : decode cJ2_charAt_3b067 10 = .ok (.ireturn, 1) := by decide +kernel
theorem dJ2_checkIndex_2214a_0 : decode cJ2_checkIndex_2214a 0 = .ok (.iload_n 0, 1) := by decide +kernel
theorem dJ2_checkIndex_2214a_1 : decode cJ2_checkIndex_2214a 1 = .ok (.aload_n 1, 1) := by decide +kernel
theorem dJ2_checkIndex_2214a_2 : decode cJ2_checkIndex_2214a 2 = .ok (.invokestatic 48, 3) := by decide +kernel
theorem dJ2_checkIndex_2214a_5 : decode cJ2_checkIndex_2214a 5 = .ok (.invokestatic 414, 3) := by decide +kernel
theorem dJ2_checkIndex_2214a_8 : decode cJ2_checkIndex_2214a 8 = .ok (.return_, 1) := by decide +kernel
theorem dJ7_fill_53178_0 : decode cJ7_fill_53178 0 = .ok (.iconst 0, 1) := by decide +kernel
theorem dJ7_fill_53178_1 : decode cJ7_fill_53178 1 = .ok (.istore_n 2, 1) := by decide +kernel
theorem dJ7_fill_53178_2 : decode cJ7_fill_53178 2 = .ok (.aload_n 0, 1) := by decide +kernel
theorem dJ7_fill_53178_3 : decode cJ7_fill_53178 3 = .ok (.arraylength, 1) := by decide +kernel
theorem dJ7_fill_53178_4 : decode cJ7_fill_53178 4 = .ok (.istore_n 3, 1) := by decide +kernel
theorem dJ7_fill_53178_5 : decode cJ7_fill_53178 5 = .ok (.iload_n 2, 1) := by decide +kernel
theorem dJ7_fill_53178_6 : decode cJ7_fill_53178 6 = .ok (.iload_n 3, 1) := by decide +kernel
theorem dJ7_fill_53178_7 : decode cJ7_fill_53178 7 = .ok (.if_icmp .ge 13, 3) := by decide +kernel
theorem dJ7_fill_53178_10 : decode cJ7_fill_53178 10 = .ok (.aload_n 0, 1) := by decide +kernel
theorem dJ7_fill_53178_11 : decode cJ7_fill_53178 11 = .ok (.iload_n 2, 1) := by decide +kernel
theorem dJ7_fill_53178_12 : decode cJ7_fill_53178 12 = .ok (.iload_n 1, 1) := by decide +kernel
theorem dJ7_fill_53178_13 : decode cJ7_fill_53178 13 = .ok (.iastore, 1) := by decide +kernel
theorem dJ7_fill_53178_14 : decode cJ7_fill_53178 14 = .ok (.iinc 2 1, 3) := by decide +kernel
theorem dJ7_fill_53178_17 : decode cJ7_fill_53178 17 = .ok (.goto (-12), 3) := by decide +kernel
theorem dJ7_fill_53178_20 : decode cJ7_fill_53178 20 = .ok (.return_, 1) := by decide +kernel
theorem dJ3_checkIndex_8e157_0 : decode cJ3_checkIndex_8e157 0 = .ok (.iload_n 0, 1) := by decide +kernel
theorem dJ3_checkIndex_8e157_1 : decode cJ3_checkIndex_8e157 1 = .ok (.ifCond .lt 8, 3) := by decide +kernel
theorem dJ3_checkIndex_8e157_4 : decode cJ3_checkIndex_8e157 4 = .ok (.iload_n 0, 1) := by decide +kernel
theorem dJ3_checkIndex_8e157_5 : decode cJ3_checkIndex_8e157 5 = .ok (.iload_n 1, 1) := by decide +kernel
theorem dJ3_checkIndex_8e157_6 : decode cJ3_checkIndex_8e157 6 = .ok (.if_icmp .lt 10, 3) := by decide +kernel
theorem dJ3_checkIndex_8e157_9 : decode cJ3_checkIndex_8e157 9 = .ok (.aload_n 2, 1) := by decide +kernel
theorem dJ3_checkIndex_8e157_10 : decode cJ3_checkIndex_8e157 10 = .ok (.iload_n 0, 1) := by decide +kernel
theorem dJ3_checkIndex_8e157_11 : decode cJ3_checkIndex_8e157 11 = .ok (.iload_n 1, 1) := by decide +kernel
theorem dJ3_checkIndex_8e157_12 : decode cJ3_checkIndex_8e157 12 = .ok (.invokestatic 95, 3) := by decide +kernel
theorem dJ3_checkIndex_8e157_15 : decode cJ3_checkIndex_8e157 15 = .ok (.athrow, 1) := by decide +kernel
theorem dJ3_checkIndex_8e157_16 : decode cJ3_checkIndex_8e157 16 = .ok (.iload_n 0, 1) := by decide +kernel
theorem dJ3_checkIndex_8e157_17 : decode cJ3_checkIndex_8e157 17 = .ok (.ireturn, 1) := by decide +kernel
