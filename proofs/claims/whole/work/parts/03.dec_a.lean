theorem dX0_init_0 : decode cX0_init 0 = .ok (.aload_n 0, 1) := by decide +kernel
theorem dX0_init_1 : decode cX0_init 1 = .ok (.invokespecial 3, 3) := by decide +kernel
theorem dX0_init_4 : decode cX0_init 4 = .ok (.aload_n 0, 1) := by decide +kernel
theorem dX0_init_5 : decode cX0_init 5 = .ok (.bipush 6, 2) := by decide +kernel
theorem dX0_init_7 : decode cX0_init 7 = .ok (.newarray .int, 2) := by decide +kernel
theorem dX0_init_9 : decode cX0_init 9 = .ok (.putfield 11, 3) := by decide +kernel
theorem dX0_init_12 : decode cX0_init 12 = .ok (.aload_n 0, 1) := by decide +kernel
theorem dX0_init_13 : decode cX0_init 13 = .ok (.bipush 6, 2) := by decide +kernel
theorem dX0_init_15 : decode cX0_init 15 = .ok (.newarray .int, 2) := by decide +kernel
theorem dX0_init_17 : decode cX0_init 17 = .ok (.putfield 15, 3) := by decide +kernel
theorem dX0_init_20 : decode cX0_init 20 = .ok (.aload_n 0, 1) := by decide +kernel
theorem dX0_init_21 : decode cX0_init 21 = .ok (.bipush 6, 2) := by decide +kernel
theorem dX0_init_23 : decode cX0_init 23 = .ok (.newarray .int, 2) := by decide +kernel
theorem dX0_init_25 : decode cX0_init 25 = .ok (.putfield 18, 3) := by decide +kernel
theorem dX0_init_28 : decode cX0_init 28 = .ok (.aload_n 0, 1) := by decide +kernel
theorem dX0_init_29 : decode cX0_init 29 = .ok (.bipush 6, 2) := by decide +kernel
theorem dX0_init_31 : decode cX0_init 31 = .ok (.newarray .int, 2) := by decide +kernel
theorem dX0_init_33 : decode cX0_init 33 = .ok (.putfield 21, 3) := by decide +kernel
theorem dX0_init_36 : decode cX0_init 36 = .ok (.aload_n 0, 1) := by decide +kernel
theorem dX0_init_37 : decode cX0_init 37 = .ok (.iconst 5, 1) := by decide +kernel
theorem dX0_init_38 : decode cX0_init 38 = .ok (.newarray .int, 2) := by decide +kernel
theorem dX0_init_40 : decode cX0_init 40 = .ok (.putfield 24, 3) := by decide +kernel
theorem dX0_init_43 : decode cX0_init 43 = .ok (.aload_n 0, 1) := by decide +kernel
theorem dX0_init_44 : decode cX0_init 44 = .ok (.iconst 5, 1) := by decide +kernel
theorem dX0_init_45 : decode cX0_init 45 = .ok (.newarray .int, 2) := by decide +kernel
theorem dX0_init_47 : decode cX0_init 47 = .ok (.putfield 27, 3) := by decide +kernel
theorem dX0_init_50 : decode cX0_init 50 = .ok (.aload_n 0, 1) := by decide +kernel
theorem dX0_init_51 : decode cX0_init 51 = .ok (.iconst 5, 1) := by decide +kernel
theorem dX0_init_52 : decode cX0_init 52 = .ok (.newarray .int, 2) := by decide +kernel
theorem dX0_init_54 : decode cX0_init 54 = .ok (.putfield 30, 3) := by decide +kernel
theorem dX0_init_57 : decode cX0_init 57 = .ok (.aload_n 0, 1) := by decide +kernel
theorem dX0_init_58 : decode cX0_init 58 = .ok (.iconst 5, 1) := by decide +kernel
theorem dX0_init_59 : decode cX0_init 59 = .ok (.newarray .int, 2) := by decide +kernel
theorem dX0_init_61 : decode cX0_init 61 = .ok (.putfield 33, 3) := by decide +kernel
theorem dX0_init_64 : decode cX0_init 64 = .ok (.aload_n 0, 1) := by decide +kernel
theorem dX0_init_65 : decode cX0_init 65 = .ok (.new 36, 3) := by decide +kernel
theorem dX0_init_68 : decode cX0_init 68 = .ok (.dup, 1) := by decide +kernel
theorem dX0_init_69 : decode cX0_init 69 = .ok (.invokespecial 38, 3) := by decide +kernel
theorem dX0_init_72 : decode cX0_init 72 = .ok (.putfield 39, 3) := by decide +kernel
theorem dX0_init_75 : decode cX0_init 75 = .ok (.aload_n 0, 1) := by decide +kernel
theorem dX0_init_76 : decode cX0_init 76 = .ok (.new 36, 3) := by decide +kernel
theorem dX0_init_79 : decode cX0_init 79 = .ok (.dup, 1) := by decide +kernel
theorem dX0_init_80 : decode cX0_init 80 = .ok (.invokespecial 38, 3) := by decide +kernel
theorem dX0_init_83 : decode cX0_init 83 = .ok (.putfield 43, 3) := by decide +kernel
theorem dX0_init_86 : decode cX0_init 86 = .ok (.aload_n 0, 1) := by decide +kernel
theorem dX0_init_87 : decode cX0_init 87 = .ok (.bipush 7, 2) := by decide +kernel
theorem dX0_init_89 : decode cX0_init 89 = .ok (.newarray .int, 2) := by decide +kernel
theorem dX0_init_91 : decode cX0_init 91 = .ok (.putfield 48, 3) := by decide +kernel
theorem dX0_init_94 : decode cX0_init 94 = .ok (.aload_n 0, 1) := by decide +kernel
theorem dX0_init_95 : decode cX0_init 95 = .ok (.iconst 0, 1) := by decide +kernel
theorem dX0_init_96 : decode cX0_init 96 = .ok (.putfield 51, 3) := by decide +kernel
theorem dX0_init_99 : decode cX0_init 99 = .ok (.aload_n 0, 1) := by decide +kernel
theorem dX0_init_100 : decode cX0_init 100 = .ok (.iconst 0, 1) := by decide +kernel
theorem dX0_init_101 : decode cX0_init 101 = .ok (.putfield 55, 3) := by decide +kernel
theorem dX0_init_104 : decode cX0_init 104 = .ok (.aload_n 0, 1) := by decide +kernel
theorem dX0_init_105 : decode cX0_init 105 = .ok (.bipush 7, 2) := by decide +kernel
theorem dX0_init_107 : decode cX0_init 107 = .ok (.putfield 58, 3) := by decide +kernel
theorem dX0_init_110 : decode cX0_init 110 = .ok (.aload_n 0, 1) := by decide +kernel
theorem dX0_init_111 : decode cX0_init 111 = .ok (.iconst 0, 1) := by decide +kernel
theorem dX0_init_112 : decode cX0_init 112 = .ok (.putfield 61, 3) := by decide +kernel
theorem dX0_init_115 : decode cX0_init 115 = .ok (.aload_n 0, 1) := by decide +kernel
theorem dX0_init_116 : decode cX0_init 116 = .ok (.iconst 0, 1) := by decide +kernel
theorem dX0_init_117 : decode cX0_init 117 = .ok (.putfield 64, 3) := by decide +kernel
theorem dX0_init_120 : decode cX0_init 120 = .ok (.return_, 1) := by decide +kernel
theorem dX0_clear_0 : decode cX0_clear 0 = .ok (.aload_n 0, 1) := by decide +kernel
theorem dX0_clear_1 : decode cX0_clear 1 = .ok (.iconst 0, 1) := by decide +kernel
theorem dX0_clear_2 : decode cX0_clear 2 = .ok (.putfield 51, 3) := by decide +kernel
theorem dX0_clear_5 : decode cX0_clear 5 = .ok (.aload_n 0, 1) := by decide +kernel
theorem dX0_clear_6 : decode cX0_clear 6 = .ok (.iconst 0, 1) := by decide +kernel
theorem dX0_clear_7 : decode cX0_clear 7 = .ok (.putfield 55, 3) := by decide +kernel
theorem dX0_clear_10 : decode cX0_clear 10 = .ok (.aload_n 0, 1) := by decide +kernel
theorem dX0_clear_11 : decode cX0_clear 11 = .ok (.bipush 7, 2) := by decide +kernel
theorem dX0_clear_13 : decode cX0_clear 13 = .ok (.putfield 58, 3) := by decide +kernel
theorem dX0_clear_16 : decode cX0_clear 16 = .ok (.aload_n 0, 1) := by decide +kernel
theorem dX0_clear_17 : decode cX0_clear 17 = .ok (.iconst 0, 1) := by decide +kernel
theorem dX0_clear_18 : decode cX0_clear 18 = .ok (.putfield 61, 3) := by decide +kernel
theorem dX0_clear_21 : decode cX0_clear 21 = .ok (.aload_n 0, 1) := by decide +kernel
theorem dX0_clear_22 : decode cX0_clear 22 = .ok (.iconst 0, 1) := by decide +kernel
theorem dX0_clear_23 : decode cX0_clear 23 = .ok (.putfield 64, 3) := by decide +kernel
theorem dX0_clear_26 : decode cX0_clear 26 = .ok (.aload_n 0, 1) := by decide +kernel
theorem dX0_clear_27 : decode cX0_clear 27 = .ok (.getfield 39, 3) := by decide +kernel
theorem dX0_clear_30 : decode cX0_clear 30 = .ok (.invokevirtual 67, 3) := by decide +kernel
theorem dX0_clear_33 : decode cX0_clear 33 = .ok (.aload_n 0, 1) := by decide +kernel
theorem dX0_clear_34 : decode cX0_clear 34 = .ok (.getfield 43, 3) := by decide +kernel
theorem dX0_clear_37 : decode cX0_clear 37 = .ok (.invokevirtual 67, 3) := by decide +kernel
theorem dX0_clear_40 : decode cX0_clear 40 = .ok (.return_, 1) := by decide +kernel
theorem dX0_hasHearth_0 : decode cX0_hasHearth 0 = .ok (.iload_n 1, 1) := by decide +kernel
theorem dX0_hasHearth_1 : decode cX0_hasHearth 1 = .ok (.ifCond .lt 21, 3) := by decide +kernel
theorem dX0_hasHearth_4 : decode cX0_hasHearth 4 = .ok (.iload_n 1, 1) := by decide +kernel
theorem dX0_hasHearth_5 : decode cX0_hasHearth 5 = .ok (.aload_n 0, 1) := by decide +kernel
theorem dX0_hasHearth_6 : decode cX0_hasHearth 6 = .ok (.getfield 51, 3) := by decide +kernel
theorem dX0_hasHearth_9 : decode cX0_hasHearth 9 = .ok (.if_icmp .ge 13, 3) := by decide +kernel
theorem dX0_hasHearth_12 : decode cX0_hasHearth 12 = .ok (.iload_n 1, 1) := by decide +kernel
theorem dX0_hasHearth_13 : decode cX0_hasHearth 13 = .ok (.bipush 6, 2) := by decide +kernel
theorem dX0_hasHearth_15 : decode cX0_hasHearth 15 = .ok (.if_icmp .ge 7, 3) := by decide +kernel
theorem dX0_hasHearth_18 : decode cX0_hasHearth 18 = .ok (.iconst 1, 1) := by decide +kernel
theorem dX0_hasHearth_19 : decode cX0_hasHearth 19 = .ok (.goto 4, 3) := by decide +kernel
theorem dX0_hasHearth_22 : decode cX0_hasHearth 22 = .ok (.iconst 0, 1) := by decide +kernel
theorem dX0_hasHearth_23 : decode cX0_hasHearth 23 = .ok (.ireturn, 1) := by decide +kernel
theorem dX0_hasStool_0 : decode cX0_hasStool 0 = .ok (.iload_n 1, 1) := by decide +kernel
theorem dX0_hasStool_1 : decode cX0_hasStool 1 = .ok (.ifCond .lt 20, 3) := by decide +kernel
theorem dX0_hasStool_4 : decode cX0_hasStool 4 = .ok (.iload_n 1, 1) := by decide +kernel
theorem dX0_hasStool_5 : decode cX0_hasStool 5 = .ok (.aload_n 0, 1) := by decide +kernel
theorem dX0_hasStool_6 : decode cX0_hasStool 6 = .ok (.getfield 55, 3) := by decide +kernel
theorem dX0_hasStool_9 : decode cX0_hasStool 9 = .ok (.if_icmp .ge 12, 3) := by decide +kernel
theorem dX0_hasStool_12 : decode cX0_hasStool 12 = .ok (.iload_n 1, 1) := by decide +kernel
theorem dX0_hasStool_13 : decode cX0_hasStool 13 = .ok (.iconst 5, 1) := by decide +kernel
theorem dX0_hasStool_14 : decode cX0_hasStool 14 = .ok (.if_icmp .ge 7, 3) := by decide +kernel
theorem dX0_hasStool_17 : decode cX0_hasStool 17 = .ok (.iconst 1, 1) := by decide +kernel
theorem dX0_hasStool_18 : decode cX0_hasStool 18 = .ok (.goto 4, 3) := by decide +kernel
theorem dX0_hasStool_21 : decode cX0_hasStool 21 = .ok (.iconst 0, 1) := by decide +kernel
theorem dX0_hasStool_22 : decode cX0_hasStool 22 = .ok (.ireturn, 1) := by decide +kernel
theorem dX0_allStools_0 : decode cX0_allStools 0 = .ok (.iconst 1, 1) := by decide +kernel
theorem dX0_allStools_1 : decode cX0_allStools 1 = .ok (.aload_n 0, 1) := by decide +kernel
theorem dX0_allStools_2 : decode cX0_allStools 2 = .ok (.getfield 55, 3) := by decide +kernel
theorem dX0_allStools_5 : decode cX0_allStools 5 = .ok (.ishl, 1) := by decide +kernel
theorem dX0_allStools_6 : decode cX0_allStools 6 = .ok (.iconst 1, 1) := by decide +kernel
theorem dX0_allStools_7 : decode cX0_allStools 7 = .ok (.isub, 1) := by decide +kernel
theorem dX0_allStools_8 : decode cX0_allStools 8 = .ok (.ireturn, 1) := by decide +kernel
theorem dX0_wayOf_0 : decode cX0_wayOf 0 = .ok (.aload_n 0, 1) := by decide +kernel
theorem dX0_wayOf_1 : decode cX0_wayOf 1 = .ok (.iload_n 1, 1) := by decide +kernel
theorem dX0_wayOf_2 : decode cX0_wayOf 2 = .ok (.invokevirtual 70, 3) := by decide +kernel
theorem dX0_wayOf_5 : decode cX0_wayOf 5 = .ok (.ifCond .eq 30, 3) := by decide +kernel
theorem dX0_wayOf_8 : decode cX0_wayOf 8 = .ok (.aload_n 0, 1) := by decide +kernel
theorem dX0_wayOf_9 : decode cX0_wayOf 9 = .ok (.iload_n 2, 1) := by decide +kernel
theorem dX0_wayOf_10 : decode cX0_wayOf 10 = .ok (.invokevirtual 74, 3) := by decide +kernel
theorem dX0_wayOf_13 : decode cX0_wayOf 13 = .ok (.ifCond .eq 22, 3) := by decide +kernel
theorem dX0_wayOf_16 : decode cX0_wayOf 16 = .ok (.aload_n 0, 1) := by decide +kernel
theorem dX0_wayOf_17 : decode cX0_wayOf 17 = .ok (.getfield 24, 3) := by decide +kernel
theorem dX0_wayOf_20 : decode cX0_wayOf 20 = .ok (.iload_n 1, 1) := by decide +kernel
theorem dX0_wayOf_21 : decode cX0_wayOf 21 = .ok (.iaload, 1) := by decide +kernel
theorem dX0_wayOf_22 : decode cX0_wayOf 22 = .ok (.aload_n 0, 1) := by decide +kernel
theorem dX0_wayOf_23 : decode cX0_wayOf 23 = .ok (.getfield 11, 3) := by decide +kernel
theorem dX0_wayOf_26 : decode cX0_wayOf 26 = .ok (.iload_n 2, 1) := by decide +kernel
theorem dX0_wayOf_27 : decode cX0_wayOf 27 = .ok (.iaload, 1) := by decide +kernel
theorem dX0_wayOf_28 : decode cX0_wayOf 28 = .ok (.isub, 1) := by decide +kernel
theorem dX0_wayOf_29 : decode cX0_wayOf 29 = .ok (.invokestatic 77, 3) := by decide +kernel
theorem dX0_wayOf_32 : decode cX0_wayOf 32 = .ok (.goto 4, 3) := by decide +kernel
theorem dX0_wayOf_35 : decode cX0_wayOf 35 = .ok (.iconst 0, 1) := by decide +kernel
theorem dX0_wayOf_36 : decode cX0_wayOf 36 = .ok (.ireturn, 1) := by decide +kernel
theorem dX0_quarrelIn_0 : decode cX0_quarrelIn 0 = .ok (.iconst (-1), 1) := by decide +kernel
theorem dX0_quarrelIn_1 : decode cX0_quarrelIn 1 = .ok (.istore_n 2, 1) := by decide +kernel
theorem dX0_quarrelIn_2 : decode cX0_quarrelIn 2 = .ok (.iconst 0, 1) := by decide +kernel
theorem dX0_quarrelIn_3 : decode cX0_quarrelIn 3 = .ok (.istore_n 3, 1) := by decide +kernel
theorem dX0_quarrelIn_4 : decode cX0_quarrelIn 4 = .ok (.iload_n 3, 1) := by decide +kernel
theorem dX0_quarrelIn_5 : decode cX0_quarrelIn 5 = .ok (.aload_n 0, 1) := by decide +kernel
theorem dX0_quarrelIn_6 : decode cX0_quarrelIn 6 = .ok (.getfield 55, 3) := by decide +kernel
theorem dX0_quarrelIn_9 : decode cX0_quarrelIn 9 = .ok (.if_icmp .ge 44, 3) := by decide +kernel
theorem dX0_quarrelIn_12 : decode cX0_quarrelIn 12 = .ok (.iload_n 1, 1) := by decide +kernel
theorem dX0_quarrelIn_13 : decode cX0_quarrelIn 13 = .ok (.iload_n 3, 1) := by decide +kernel
theorem dX0_quarrelIn_14 : decode cX0_quarrelIn 14 = .ok (.ishr, 1) := by decide +kernel
theorem dX0_quarrelIn_15 : decode cX0_quarrelIn 15 = .ok (.iconst 1, 1) := by decide +kernel
theorem dX0_quarrelIn_16 : decode cX0_quarrelIn 16 = .ok (.iand, 1) := by decide +kernel
theorem dX0_quarrelIn_17 : decode cX0_quarrelIn 17 = .ok (.ifCond .eq 30, 3) := by decide +kernel
theorem dX0_quarrelIn_20 : decode cX0_quarrelIn 20 = .ok (.iload_n 2, 1) := by decide +kernel
theorem dX0_quarrelIn_21 : decode cX0_quarrelIn 21 = .ok (.iconst (-1), 1) := by decide +kernel
theorem dX0_quarrelIn_22 : decode cX0_quarrelIn 22 = .ok (.if_icmp .ne 13, 3) := by decide +kernel
theorem dX0_quarrelIn_25 : decode cX0_quarrelIn 25 = .ok (.aload_n 0, 1) := by decide +kernel
theorem dX0_quarrelIn_26 : decode cX0_quarrelIn 26 = .ok (.getfield 30, 3) := by decide +kernel
theorem dX0_quarrelIn_29 : decode cX0_quarrelIn 29 = .ok (.iload_n 3, 1) := by decide +kernel
theorem dX0_quarrelIn_30 : decode cX0_quarrelIn 30 = .ok (.iaload, 1) := by decide +kernel
theorem dX0_quarrelIn_31 : decode cX0_quarrelIn 31 = .ok (.istore_n 2, 1) := by decide +kernel
theorem dX0_quarrelIn_32 : decode cX0_quarrelIn 32 = .ok (.goto 15, 3) := by decide +kernel
theorem dX0_quarrelIn_35 : decode cX0_quarrelIn 35 = .ok (.aload_n 0, 1) := by decide +kernel
theorem dX0_quarrelIn_36 : decode cX0_quarrelIn 36 = .ok (.getfield 30, 3) := by decide +kernel
theorem dX0_quarrelIn_39 : decode cX0_quarrelIn 39 = .ok (.iload_n 3, 1) := by decide +kernel
theorem dX0_quarrelIn_40 : decode cX0_quarrelIn 40 = .ok (.iaload, 1) := by decide +kernel
theorem dX0_quarrelIn_41 : decode cX0_quarrelIn 41 = .ok (.iload_n 2, 1) := by decide +kernel
theorem dX0_quarrelIn_42 : decode cX0_quarrelIn 42 = .ok (.if_icmp .eq 5, 3) := by decide +kernel
theorem dX0_quarrelIn_45 : decode cX0_quarrelIn 45 = .ok (.iconst 1, 1) := by decide +kernel
theorem dX0_quarrelIn_46 : decode cX0_quarrelIn 46 = .ok (.ireturn, 1) := by decide +kernel
theorem dX0_quarrelIn_47 : decode cX0_quarrelIn 47 = .ok (.iinc 3 1, 3) := by decide +kernel
theorem dX0_quarrelIn_50 : decode cX0_quarrelIn 50 = .ok (.goto (-46), 3) := by decide +kernel
theorem dX0_quarrelIn_53 : decode cX0_quarrelIn 53 = .ok (.iconst 0, 1) := by decide +kernel
theorem dX0_quarrelIn_54 : decode cX0_quarrelIn 54 = .ok (.ireturn, 1) := by decide +kernel
theorem dX0_loadOf_0 : decode cX0_loadOf 0 = .ok (.aload_n 0, 1) := by decide +kernel
theorem dX0_loadOf_1 : decode cX0_loadOf 1 = .ok (.iload_n 2, 1) := by decide +kernel
theorem dX0_loadOf_2 : decode cX0_loadOf 2 = .ok (.invokevirtual 70, 3) := by decide +kernel
theorem dX0_loadOf_5 : decode cX0_loadOf 5 = .ok (.ifCond .eq 16, 3) := by decide +kernel
theorem dX0_loadOf_8 : decode cX0_loadOf 8 = .ok (.aload_n 0, 1) := by decide +kernel
theorem dX0_loadOf_9 : decode cX0_loadOf 9 = .ok (.iload_n 3, 1) := by decide +kernel
theorem dX0_loadOf_10 : decode cX0_loadOf 10 = .ok (.invokevirtual 74, 3) := by decide +kernel
theorem dX0_loadOf_13 : decode cX0_loadOf 13 = .ok (.ifCond .eq 8, 3) := by decide +kernel
theorem dX0_loadOf_16 : decode cX0_loadOf 16 = .ok (.iload 4, 2) := by decide +kernel
theorem dX0_loadOf_18 : decode cX0_loadOf 18 = .ok (.ifCond .gt 5, 3) := by decide +kernel
theorem dX0_loadOf_21 : decode cX0_loadOf 21 = .ok (.iconst 0, 1) := by decide +kernel
theorem dX0_loadOf_22 : decode cX0_loadOf 22 = .ok (.ireturn, 1) := by decide +kernel
theorem dX0_loadOf_23 : decode cX0_loadOf 23 = .ok (.aload_n 0, 1) := by decide +kernel
theorem dX0_loadOf_24 : decode cX0_loadOf 24 = .ok (.aload_n 1, 1) := by decide +kernel
theorem dX0_loadOf_25 : decode cX0_loadOf 25 = .ok (.iload_n 2, 1) := by decide +kernel
theorem dX0_loadOf_26 : decode cX0_loadOf 26 = .ok (.iload_n 3, 1) := by decide +kernel
theorem dX0_loadOf_27 : decode cX0_loadOf 27 = .ok (.iload 4, 2) := by decide +kernel
theorem dX0_loadOf_29 : decode cX0_loadOf 29 = .ok (.iload 5, 2) := by decide +kernel
theorem dX0_loadOf_31 : decode cX0_loadOf 31 = .ok (.invokevirtual 83, 3) := by decide +kernel
theorem dX0_loadOf_34 : decode cX0_loadOf 34 = .ok (.aload_n 0, 1) := by decide +kernel
theorem dX0_loadOf_35 : decode cX0_loadOf 35 = .ok (.getfield 39, 3) := by decide +kernel
theorem dX0_loadOf_38 : decode cX0_loadOf 38 = .ok (.invokevirtual 87, 3) := by decide +kernel
theorem dX0_loadOf_41 : decode cX0_loadOf 41 = .ok (.ifCond .eq 17, 3) := by decide +kernel
theorem dX0_loadOf_44 : decode cX0_loadOf 44 = .ok (.aload_n 0, 1) := by decide +kernel
theorem dX0_loadOf_45 : decode cX0_loadOf 45 = .ok (.getfield 39, 3) := by decide +kernel
theorem dX0_loadOf_48 : decode cX0_loadOf 48 = .ok (.aload_n 0, 1) := by decide +kernel
theorem dX0_loadOf_49 : decode cX0_loadOf 49 = .ok (.getfield 48, 3) := by decide +kernel
theorem dX0_loadOf_52 : decode cX0_loadOf 52 = .ok (.invokevirtual 91, 3) := by decide +kernel
theorem dX0_loadOf_55 : decode cX0_loadOf 55 = .ok (.goto 17, 3) := by decide +kernel
theorem dX0_loadOf_58 : decode cX0_loadOf 58 = .ok (.aload_n 0, 1) := by decide +kernel
theorem dX0_loadOf_59 : decode cX0_loadOf 59 = .ok (.getfield 48, 3) := by decide +kernel
theorem dX0_loadOf_62 : decode cX0_loadOf 62 = .ok (.iconst 1, 1) := by decide +kernel
theorem dX0_loadOf_63 : decode cX0_loadOf 63 = .ok (.iaload, 1) := by decide +kernel
theorem dX0_loadOf_64 : decode cX0_loadOf 64 = .ok (.iload 4, 2) := by decide +kernel
theorem dX0_loadOf_66 : decode cX0_loadOf 66 = .ok (.iadd, 1) := by decide +kernel
theorem dX0_loadOf_67 : decode cX0_loadOf 67 = .ok (.iconst 1, 1) := by decide +kernel
theorem dX0_loadOf_68 : decode cX0_loadOf 68 = .ok (.isub, 1) := by decide +kernel
theorem dX0_loadOf_69 : decode cX0_loadOf 69 = .ok (.iload 4, 2) := by decide +kernel
theorem dX0_loadOf_71 : decode cX0_loadOf 71 = .ok (.idiv, 1) := by decide +kernel
theorem dX0_loadOf_72 : decode cX0_loadOf 72 = .ok (.istore 6, 2) := by decide +kernel
theorem dX0_loadOf_74 : decode cX0_loadOf 74 = .ok (.iconst 0, 1) := by decide +kernel
theorem dX0_loadOf_75 : decode cX0_loadOf 75 = .ok (.sipush 999, 3) := by decide +kernel
theorem dX0_loadOf_78 : decode cX0_loadOf 78 = .ok (.iload 6, 2) := by decide +kernel
theorem dX0_loadOf_80 : decode cX0_loadOf 80 = .ok (.invokestatic 95, 3) := by decide +kernel
theorem dX0_loadOf_83 : decode cX0_loadOf 83 = .ok (.invokestatic 99, 3) := by decide +kernel
theorem dX0_loadOf_86 : decode cX0_loadOf 86 = .ok (.ireturn, 1) := by decide +kernel
theorem dX0_wearOf_0 : decode cX0_wearOf 0 = .ok (.aload_n 0, 1) := by decide +kernel
theorem dX0_wearOf_1 : decode cX0_wearOf 1 = .ok (.iload_n 2, 1) := by decide +kernel
theorem dX0_wearOf_2 : decode cX0_wearOf 2 = .ok (.invokevirtual 70, 3) := by decide +kernel
theorem dX0_wearOf_5 : decode cX0_wearOf 5 = .ok (.ifCond .eq 11, 3) := by decide +kernel
theorem dX0_wearOf_8 : decode cX0_wearOf 8 = .ok (.aload_n 0, 1) := by decide +kernel
theorem dX0_wearOf_9 : decode cX0_wearOf 9 = .ok (.iload_n 3, 1) := by decide +kernel
theorem dX0_wearOf_10 : decode cX0_wearOf 10 = .ok (.invokevirtual 74, 3) := by decide +kernel
theorem dX0_wearOf_13 : decode cX0_wearOf 13 = .ok (.ifCond .ne 5, 3) := by decide +kernel
theorem dX0_wearOf_16 : decode cX0_wearOf 16 = .ok (.iconst 0, 1) := by decide +kernel
theorem dX0_wearOf_17 : decode cX0_wearOf 17 = .ok (.ireturn, 1) := by decide +kernel
theorem dX0_wearOf_18 : decode cX0_wearOf 18 = .ok (.aload_n 0, 1) := by decide +kernel
theorem dX0_wearOf_19 : decode cX0_wearOf 19 = .ok (.aload_n 1, 1) := by decide +kernel
theorem dX0_wearOf_20 : decode cX0_wearOf 20 = .ok (.iload_n 2, 1) := by decide +kernel
theorem dX0_wearOf_21 : decode cX0_wearOf 21 = .ok (.iload_n 3, 1) := by decide +kernel
theorem dX0_wearOf_22 : decode cX0_wearOf 22 = .ok (.iload 4, 2) := by decide +kernel
theorem dX0_wearOf_24 : decode cX0_wearOf 24 = .ok (.iconst 0, 1) := by decide +kernel
theorem dX0_wearOf_25 : decode cX0_wearOf 25 = .ok (.invokevirtual 83, 3) := by decide +kernel
theorem dX0_wearOf_28 : decode cX0_wearOf 28 = .ok (.aload_n 0, 1) := by decide +kernel
theorem dX0_wearOf_29 : decode cX0_wearOf 29 = .ok (.getfield 43, 3) := by decide +kernel
theorem dX0_wearOf_32 : decode cX0_wearOf 32 = .ok (.invokevirtual 87, 3) := by decide +kernel
theorem dX0_wearOf_35 : decode cX0_wearOf 35 = .ok (.ifCond .eq 17, 3) := by decide +kernel
theorem dX0_wearOf_38 : decode cX0_wearOf 38 = .ok (.aload_n 0, 1) := by decide +kernel
theorem dX0_wearOf_39 : decode cX0_wearOf 39 = .ok (.getfield 43, 3) := by decide +kernel
theorem dX0_wearOf_42 : decode cX0_wearOf 42 = .ok (.aload_n 0, 1) := by decide +kernel
theorem dX0_wearOf_43 : decode cX0_wearOf 43 = .ok (.getfield 48, 3) := by decide +kernel
theorem dX0_wearOf_46 : decode cX0_wearOf 46 = .ok (.invokevirtual 91, 3) := by decide +kernel
theorem dX0_wearOf_49 : decode cX0_wearOf 49 = .ok (.goto 4, 3) := by decide +kernel
theorem dX0_wearOf_52 : decode cX0_wearOf 52 = .ok (.iconst 1, 1) := by decide +kernel
theorem dX0_wearOf_53 : decode cX0_wearOf 53 = .ok (.istore 5, 2) := by decide +kernel
theorem dX0_wearOf_55 : decode cX0_wearOf 55 = .ok (.iconst 0, 1) := by decide +kernel
theorem dX0_wearOf_56 : decode cX0_wearOf 56 = .ok (.aload_n 1, 1) := by decide +kernel
theorem dX0_wearOf_57 : decode cX0_wearOf 57 = .ok (.getfield 102, 3) := by decide +kernel
theorem dX0_wearOf_60 : decode cX0_wearOf 60 = .ok (.iload_n 2, 1) := by decide +kernel
theorem dX0_wearOf_61 : decode cX0_wearOf 61 = .ok (.iaload, 1) := by decide +kernel
theorem dX0_wearOf_62 : decode cX0_wearOf 62 = .ok (.iload 5, 2) := by decide +kernel
theorem dX0_wearOf_64 : decode cX0_wearOf 64 = .ok (.invokestatic 95, 3) := by decide +kernel
theorem dX0_wearOf_67 : decode cX0_wearOf 67 = .ok (.invokestatic 99, 3) := by decide +kernel
theorem dX0_wearOf_70 : decode cX0_wearOf 70 = .ok (.ireturn, 1) := by decide +kernel
theorem dX0_setTerms_0 : decode cX0_setTerms 0 = .ok (.aload_n 0, 1) := by decide +kernel
theorem dX0_setTerms_1 : decode cX0_setTerms 1 = .ok (.getfield 48, 3) := by decide +kernel
theorem dX0_setTerms_4 : decode cX0_setTerms 4 = .ok (.iconst 1, 1) := by decide +kernel
theorem dX0_setTerms_5 : decode cX0_setTerms 5 = .ok (.iconst 0, 1) := by decide +kernel
theorem dX0_setTerms_6 : decode cX0_setTerms 6 = .ok (.aload_n 0, 1) := by decide +kernel
theorem dX0_setTerms_7 : decode cX0_setTerms 7 = .ok (.getfield 15, 3) := by decide +kernel
theorem dX0_setTerms_10 : decode cX0_setTerms 10 = .ok (.iload_n 3, 1) := by decide +kernel
theorem dX0_setTerms_11 : decode cX0_setTerms 11 = .ok (.iaload, 1) := by decide +kernel
theorem dX0_setTerms_12 : decode cX0_setTerms 12 = .ok (.iload 5, 2) := by decide +kernel
theorem dX0_setTerms_14 : decode cX0_setTerms 14 = .ok (.iadd, 1) := by decide +kernel
theorem dX0_setTerms_15 : decode cX0_setTerms 15 = .ok (.invokestatic 99, 3) := by decide +kernel
theorem dX0_setTerms_18 : decode cX0_setTerms 18 = .ok (.iastore, 1) := by decide +kernel
theorem dX0_setTerms_19 : decode cX0_setTerms 19 = .ok (.aload_n 0, 1) := by decide +kernel
theorem dX0_setTerms_20 : decode cX0_setTerms 20 = .ok (.getfield 48, 3) := by decide +kernel
theorem dX0_setTerms_23 : decode cX0_setTerms 23 = .ok (.iconst 2, 1) := by decide +kernel
theorem dX0_setTerms_24 : decode cX0_setTerms 24 = .ok (.iload 4, 2) := by decide +kernel
theorem dX0_setTerms_26 : decode cX0_setTerms 26 = .ok (.iastore, 1) := by decide +kernel
theorem dX0_setTerms_27 : decode cX0_setTerms 27 = .ok (.aload_n 0, 1) := by decide +kernel
theorem dX0_setTerms_28 : decode cX0_setTerms 28 = .ok (.getfield 48, 3) := by decide +kernel
theorem dX0_setTerms_31 : decode cX0_setTerms 31 = .ok (.iconst 3, 1) := by decide +kernel
theorem dX0_setTerms_32 : decode cX0_setTerms 32 = .ok (.aload_n 0, 1) := by decide +kernel
theorem dX0_setTerms_33 : decode cX0_setTerms 33 = .ok (.getfield 21, 3) := by decide +kernel
theorem dX0_setTerms_36 : decode cX0_setTerms 36 = .ok (.iload_n 3, 1) := by decide +kernel
theorem dX0_setTerms_37 : decode cX0_setTerms 37 = .ok (.iaload, 1) := by decide +kernel
theorem dX0_setTerms_38 : decode cX0_setTerms 38 = .ok (.iastore, 1) := by decide +kernel
theorem dX0_setTerms_39 : decode cX0_setTerms 39 = .ok (.aload_n 0, 1) := by decide +kernel
theorem dX0_setTerms_40 : decode cX0_setTerms 40 = .ok (.getfield 48, 3) := by decide +kernel
theorem dX0_setTerms_43 : decode cX0_setTerms 43 = .ok (.iconst 4, 1) := by decide +kernel
theorem dX0_setTerms_44 : decode cX0_setTerms 44 = .ok (.aload_n 1, 1) := by decide +kernel
theorem dX0_setTerms_45 : decode cX0_setTerms 45 = .ok (.getfield 107, 3) := by decide +kernel
theorem dX0_setTerms_48 : decode cX0_setTerms 48 = .ok (.iload_n 2, 1) := by decide +kernel
theorem dX0_setTerms_49 : decode cX0_setTerms 49 = .ok (.iaload, 1) := by decide +kernel
theorem dX0_setTerms_50 : decode cX0_setTerms 50 = .ok (.iastore, 1) := by decide +kernel
theorem dX0_setTerms_51 : decode cX0_setTerms 51 = .ok (.aload_n 0, 1) := by decide +kernel
theorem dX0_setTerms_52 : decode cX0_setTerms 52 = .ok (.getfield 48, 3) := by decide +kernel
theorem dX0_setTerms_55 : decode cX0_setTerms 55 = .ok (.iconst 5, 1) := by decide +kernel
theorem dX0_setTerms_56 : decode cX0_setTerms 56 = .ok (.aload_n 1, 1) := by decide +kernel
theorem dX0_setTerms_57 : decode cX0_setTerms 57 = .ok (.getfield 102, 3) := by decide +kernel
theorem dX0_setTerms_60 : decode cX0_setTerms 60 = .ok (.iload_n 2, 1) := by decide +kernel
theorem dX0_setTerms_61 : decode cX0_setTerms 61 = .ok (.iaload, 1) := by decide +kernel
theorem dX0_setTerms_62 : decode cX0_setTerms 62 = .ok (.iastore, 1) := by decide +kernel
theorem dX0_setTerms_63 : decode cX0_setTerms 63 = .ok (.aload_n 0, 1) := by decide +kernel
theorem dX0_setTerms_64 : decode cX0_setTerms 64 = .ok (.getfield 48, 3) := by decide +kernel
theorem dX0_setTerms_67 : decode cX0_setTerms 67 = .ok (.bipush 6, 2) := by decide +kernel
theorem dX0_setTerms_69 : decode cX0_setTerms 69 = .ok (.aload_n 1, 1) := by decide +kernel
theorem dX0_setTerms_70 : decode cX0_setTerms 70 = .ok (.getfield 108, 3) := by decide +kernel
theorem dX0_setTerms_73 : decode cX0_setTerms 73 = .ok (.iastore, 1) := by decide +kernel
theorem dX0_setTerms_74 : decode cX0_setTerms 74 = .ok (.return_, 1) := by decide +kernel
theorem dX0_bearing_0 : decode cX0_bearing 0 = .ok (.iconst 0, 1) := by decide +kernel
theorem dX0_bearing_1 : decode cX0_bearing 1 = .ok (.istore 6, 2) := by decide +kernel
theorem dX0_bearing_3 : decode cX0_bearing 3 = .ok (.iconst 0, 1) := by decide +kernel
theorem dX0_bearing_4 : decode cX0_bearing 4 = .ok (.istore 7, 2) := by decide +kernel
theorem dX0_bearing_6 : decode cX0_bearing 6 = .ok (.iload 7, 2) := by decide +kernel
theorem dX0_bearing_8 : decode cX0_bearing 8 = .ok (.aload_n 0, 1) := by decide +kernel
theorem dX0_bearing_9 : decode cX0_bearing 9 = .ok (.getfield 55, 3) := by decide +kernel
theorem dX0_bearing_12 : decode cX0_bearing 12 = .ok (.if_icmp .ge 61, 3) := by decide +kernel
theorem dX0_bearing_15 : decode cX0_bearing 15 = .ok (.iload_n 3, 1) := by decide +kernel
theorem dX0_bearing_16 : decode cX0_bearing 16 = .ok (.iload 7, 2) := by decide +kernel
theorem dX0_bearing_18 : decode cX0_bearing 18 = .ok (.ishr, 1) := by decide +kernel
theorem dX0_bearing_19 : decode cX0_bearing 19 = .ok (.iconst 1, 1) := by decide +kernel
theorem dX0_bearing_20 : decode cX0_bearing 20 = .ok (.iand, 1) := by decide +kernel
theorem dX0_bearing_21 : decode cX0_bearing 21 = .ok (.ifCond .eq 7, 3) := by decide +kernel
theorem dX0_bearing_24 : decode cX0_bearing 24 = .ok (.iconst 1, 1) := by decide +kernel
theorem dX0_bearing_25 : decode cX0_bearing 25 = .ok (.goto 4, 3) := by decide +kernel
theorem dX0_bearing_28 : decode cX0_bearing 28 = .ok (.iconst 0, 1) := by decide +kernel
theorem dX0_bearing_29 : decode cX0_bearing 29 = .ok (.istore 8, 2) := by decide +kernel
theorem dX0_bearing_31 : decode cX0_bearing 31 = .ok (.iload 8, 2) := by decide +kernel
theorem dX0_bearing_33 : decode cX0_bearing 33 = .ok (.ifCond .eq 34, 3) := by decide +kernel
theorem dX0_bearing_36 : decode cX0_bearing 36 = .ok (.aload_n 0, 1) := by decide +kernel
theorem dX0_bearing_37 : decode cX0_bearing 37 = .ok (.aload_n 1, 1) := by decide +kernel
theorem dX0_bearing_38 : decode cX0_bearing 38 = .ok (.iload 7, 2) := by decide +kernel
theorem dX0_bearing_40 : decode cX0_bearing 40 = .ok (.iload_n 2, 1) := by decide +kernel
theorem dX0_bearing_41 : decode cX0_bearing 41 = .ok (.iload 4, 2) := by decide +kernel
theorem dX0_bearing_43 : decode cX0_bearing 43 = .ok (.iload 5, 2) := by decide +kernel
theorem dX0_bearing_45 : decode cX0_bearing 45 = .ok (.invokevirtual 111, 3) := by decide +kernel
theorem dX0_bearing_48 : decode cX0_bearing 48 = .ok (.aload_n 1, 1) := by decide +kernel
theorem dX0_bearing_49 : decode cX0_bearing 49 = .ok (.getfield 102, 3) := by decide +kernel
theorem dX0_bearing_52 : decode cX0_bearing 52 = .ok (.iload 7, 2) := by decide +kernel
theorem dX0_bearing_54 : decode cX0_bearing 54 = .ok (.iaload, 1) := by decide +kernel
theorem dX0_bearing_55 : decode cX0_bearing 55 = .ok (.if_icmp .gt 12, 3) := by decide +kernel
theorem dX0_bearing_58 : decode cX0_bearing 58 = .ok (.iload 6, 2) := by decide +kernel
theorem dX0_bearing_60 : decode cX0_bearing 60 = .ok (.iconst 1, 1) := by decide +kernel
theorem dX0_bearing_61 : decode cX0_bearing 61 = .ok (.iload 7, 2) := by decide +kernel
theorem dX0_bearing_63 : decode cX0_bearing 63 = .ok (.ishl, 1) := by decide +kernel
theorem dX0_bearing_64 : decode cX0_bearing 64 = .ok (.ior, 1) := by decide +kernel
theorem dX0_bearing_65 : decode cX0_bearing 65 = .ok (.istore 6, 2) := by decide +kernel
theorem dX0_bearing_67 : decode cX0_bearing 67 = .ok (.iinc 7 1, 3) := by decide +kernel
theorem dX0_bearing_70 : decode cX0_bearing 70 = .ok (.goto (-64), 3) := by decide +kernel
theorem dX0_bearing_73 : decode cX0_bearing 73 = .ok (.iload 6, 2) := by decide +kernel
theorem dX0_bearing_75 : decode cX0_bearing 75 = .ok (.ireturn, 1) := by decide +kernel
theorem dX1_init_0 : decode cX1_init 0 = .ok (.aload_n 0, 1) := by decide +kernel
theorem dX1_init_1 : decode cX1_init 1 = .ok (.invokespecial 3, 3) := by decide +kernel
theorem dX1_init_4 : decode cX1_init 4 = .ok (.aload_n 0, 1) := by decide +kernel
theorem dX1_init_5 : decode cX1_init 5 = .ok (.sipush 270, 3) := by decide +kernel
theorem dX1_init_8 : decode cX1_init 8 = .ok (.newarray .int, 2) := by decide +kernel
theorem dX1_init_10 : decode cX1_init 10 = .ok (.putfield 9, 3) := by decide +kernel
theorem dX1_init_13 : decode cX1_init 13 = .ok (.aload_n 0, 1) := by decide +kernel
theorem dX1_init_14 : decode cX1_init 14 = .ok (.bipush 30, 2) := by decide +kernel
theorem dX1_init_16 : decode cX1_init 16 = .ok (.newarray .int, 2) := by decide +kernel
theorem dX1_init_18 : decode cX1_init 18 = .ok (.putfield 13, 3) := by decide +kernel
theorem dX1_init_21 : decode cX1_init 21 = .ok (.aload_n 0, 1) := by decide +kernel
theorem dX1_init_22 : decode cX1_init 22 = .ok (.iconst 0, 1) := by decide +kernel
theorem dX1_init_23 : decode cX1_init 23 = .ok (.putfield 16, 3) := by decide +kernel
theorem dX1_init_26 : decode cX1_init 26 = .ok (.aload_n 0, 1) := by decide +kernel
theorem dX1_init_27 : decode cX1_init 27 = .ok (.iconst 0, 1) := by decide +kernel
theorem dX1_init_28 : decode cX1_init 28 = .ok (.putfield 20, 3) := by decide +kernel
theorem dX1_init_31 : decode cX1_init 31 = .ok (.return_, 1) := by decide +kernel
theorem dX1_clear_0 : decode cX1_clear 0 = .ok (.aload_n 0, 1) := by decide +kernel
theorem dX1_clear_1 : decode cX1_clear 1 = .ok (.iconst 0, 1) := by decide +kernel
theorem dX1_clear_2 : decode cX1_clear 2 = .ok (.putfield 16, 3) := by decide +kernel
theorem dX1_clear_5 : decode cX1_clear 5 = .ok (.aload_n 0, 1) := by decide +kernel
theorem dX1_clear_6 : decode cX1_clear 6 = .ok (.iconst 0, 1) := by decide +kernel
theorem dX1_clear_7 : decode cX1_clear 7 = .ok (.putfield 20, 3) := by decide +kernel
theorem dX1_clear_10 : decode cX1_clear 10 = .ok (.return_, 1) := by decide +kernel
theorem dX1_isTold_0 : decode cX1_isTold 0 = .ok (.aload_n 0, 1) := by decide +kernel
theorem dX1_isTold_1 : decode cX1_isTold 1 = .ok (.getfield 16, 3) := by decide +kernel
theorem dX1_isTold_4 : decode cX1_isTold 4 = .ok (.ifCond .le 7, 3) := by decide +kernel
theorem dX1_isTold_7 : decode cX1_isTold 7 = .ok (.iconst 1, 1) := by decide +kernel
theorem dX1_isTold_8 : decode cX1_isTold 8 = .ok (.goto 4, 3) := by decide +kernel
theorem dX1_isTold_11 : decode cX1_isTold 11 = .ok (.iconst 0, 1) := by decide +kernel
theorem dX1_isTold_12 : decode cX1_isTold 12 = .ok (.ireturn, 1) := by decide +kernel
theorem dX1_add_0 : decode cX1_add 0 = .ok (.aload_n 0, 1) := by decide +kernel
theorem dX1_add_1 : decode cX1_add 1 = .ok (.getfield 16, 3) := by decide +kernel
theorem dX1_add_4 : decode cX1_add 4 = .ok (.ifCond .lt 33, 3) := by decide +kernel
theorem dX1_add_7 : decode cX1_add 7 = .ok (.aload_n 0, 1) := by decide +kernel
theorem dX1_add_8 : decode cX1_add 8 = .ok (.getfield 16, 3) := by decide +kernel
theorem dX1_add_11 : decode cX1_add 11 = .ok (.sipush 270, 3) := by decide +kernel
theorem dX1_add_14 : decode cX1_add 14 = .ok (.if_icmp .ge 23, 3) := by decide +kernel
theorem dX1_add_17 : decode cX1_add 17 = .ok (.aload_n 0, 1) := by decide +kernel
theorem dX1_add_18 : decode cX1_add 18 = .ok (.getfield 9, 3) := by decide +kernel
theorem dX1_add_21 : decode cX1_add 21 = .ok (.aload_n 0, 1) := by decide +kernel
theorem dX1_add_22 : decode cX1_add 22 = .ok (.getfield 16, 3) := by decide +kernel
theorem dX1_add_25 : decode cX1_add 25 = .ok (.iload_n 1, 1) := by decide +kernel
theorem dX1_add_26 : decode cX1_add 26 = .ok (.iastore, 1) := by decide +kernel
theorem dX1_add_27 : decode cX1_add 27 = .ok (.aload_n 0, 1) := by decide +kernel
theorem dX1_add_28 : decode cX1_add 28 = .ok (.dup, 1) := by decide +kernel
theorem dX1_add_29 : decode cX1_add 29 = .ok (.getfield 16, 3) := by decide +kernel
theorem dX1_add_32 : decode cX1_add 32 = .ok (.iconst 1, 1) := by decide +kernel
theorem dX1_add_33 : decode cX1_add 33 = .ok (.iadd, 1) := by decide +kernel
theorem dX1_add_34 : decode cX1_add 34 = .ok (.putfield 16, 3) := by decide +kernel
theorem dX1_add_37 : decode cX1_add 37 = .ok (.return_, 1) := by decide +kernel
theorem dX1_valueBy_0 : decode cX1_valueBy 0 = .ok (.iconst 0, 1) := by decide +kernel
theorem dX1_valueBy_1 : decode cX1_valueBy 1 = .ok (.istore_n 2, 1) := by decide +kernel
theorem dX1_valueBy_2 : decode cX1_valueBy 2 = .ok (.iconst 0, 1) := by decide +kernel
theorem dX1_valueBy_3 : decode cX1_valueBy 3 = .ok (.istore_n 3, 1) := by decide +kernel
theorem dX1_valueBy_4 : decode cX1_valueBy 4 = .ok (.iload_n 3, 1) := by decide +kernel
theorem dX1_valueBy_5 : decode cX1_valueBy 5 = .ok (.aload_n 0, 1) := by decide +kernel
theorem dX1_valueBy_6 : decode cX1_valueBy 6 = .ok (.getfield 16, 3) := by decide +kernel
theorem dX1_valueBy_9 : decode cX1_valueBy 9 = .ok (.if_icmp .ge 146, 3) := by decide +kernel
theorem dX1_valueBy_12 : decode cX1_valueBy 12 = .ok (.iload_n 3, 1) := by decide +kernel
theorem dX1_valueBy_13 : decode cX1_valueBy 13 = .ok (.sipush 270, 3) := by decide +kernel
theorem dX1_valueBy_16 : decode cX1_valueBy 16 = .ok (.if_icmp .ge 139, 3) := by decide +kernel
theorem dX1_valueBy_19 : decode cX1_valueBy 19 = .ok (.aload_n 0, 1) := by decide +kernel
theorem dX1_valueBy_20 : decode cX1_valueBy 20 = .ok (.getfield 9, 3) := by decide +kernel
theorem dX1_valueBy_23 : decode cX1_valueBy 23 = .ok (.iload_n 3, 1) := by decide +kernel
theorem dX1_valueBy_24 : decode cX1_valueBy 24 = .ok (.iaload, 1) := by decide +kernel
theorem dX1_valueBy_25 : decode cX1_valueBy 25 = .ok (.istore 4, 2) := by decide +kernel
theorem dX1_valueBy_27 : decode cX1_valueBy 27 = .ok (.iload 4, 2) := by decide +kernel
theorem dX1_valueBy_29 : decode cX1_valueBy 29 = .ok (.bipush (-6), 2) := by decide +kernel
theorem dX1_valueBy_31 : decode cX1_valueBy 31 = .ok (.if_icmp .lt 44, 3) := by decide +kernel
theorem dX1_valueBy_34 : decode cX1_valueBy 34 = .ok (.iload_n 2, 1) := by decide +kernel
theorem dX1_valueBy_35 : decode cX1_valueBy 35 = .ok (.bipush 30, 2) := by decide +kernel
theorem dX1_valueBy_37 : decode cX1_valueBy 37 = .ok (.if_icmp .ge 112, 3) := by decide +kernel
theorem dX1_valueBy_40 : decode cX1_valueBy 40 = .ok (.aload_n 0, 1) := by decide +kernel
theorem dX1_valueBy_41 : decode cX1_valueBy 41 = .ok (.getfield 13, 3) := by decide +kernel
theorem dX1_valueBy_44 : decode cX1_valueBy 44 = .ok (.iload_n 2, 1) := by decide +kernel
theorem dX1_valueBy_45 : decode cX1_valueBy 45 = .ok (.iload 4, 2) := by decide +kernel
theorem dX1_valueBy_47 : decode cX1_valueBy 47 = .ok (.ifCond .ge 11, 3) := by decide +kernel
theorem dX1_valueBy_50 : decode cX1_valueBy 50 = .ok (.iload 4, 2) := by decide +kernel
theorem dX1_valueBy_52 : decode cX1_valueBy 52 = .ok (.ineg, 1) := by decide +kernel
theorem dX1_valueBy_53 : decode cX1_valueBy 53 = .ok (.aload_n 1, 1) := by decide +kernel
theorem dX1_valueBy_54 : decode cX1_valueBy 54 = .ok (.arraylength, 1) := by decide +kernel
theorem dX1_valueBy_55 : decode cX1_valueBy 55 = .ok (.if_icmp .lt 8, 3) := by decide +kernel
theorem dX1_valueBy_58 : decode cX1_valueBy 58 = .ok (.iload 4, 2) := by decide +kernel
theorem dX1_valueBy_60 : decode cX1_valueBy 60 = .ok (.goto 8, 3) := by decide +kernel
theorem dX1_valueBy_63 : decode cX1_valueBy 63 = .ok (.aload_n 1, 1) := by decide +kernel
theorem dX1_valueBy_64 : decode cX1_valueBy 64 = .ok (.iload 4, 2) := by decide +kernel
theorem dX1_valueBy_66 : decode cX1_valueBy 66 = .ok (.ineg, 1) := by decide +kernel
theorem dX1_valueBy_67 : decode cX1_valueBy 67 = .ok (.iaload, 1) := by decide +kernel
theorem dX1_valueBy_68 : decode cX1_valueBy 68 = .ok (.iastore, 1) := by decide +kernel
theorem dX1_valueBy_69 : decode cX1_valueBy 69 = .ok (.iinc 2 1, 3) := by decide +kernel
theorem dX1_valueBy_72 : decode cX1_valueBy 72 = .ok (.goto 77, 3) := by decide +kernel
theorem dX1_valueBy_75 : decode cX1_valueBy 75 = .ok (.iload 4, 2) := by decide +kernel
theorem dX1_valueBy_77 : decode cX1_valueBy 77 = .ok (.bipush (-9), 2) := by decide +kernel
theorem dX1_valueBy_79 : decode cX1_valueBy 79 = .ok (.if_icmp .ne 34, 3) := by decide +kernel
theorem dX1_valueBy_82 : decode cX1_valueBy 82 = .ok (.iload_n 2, 1) := by decide +kernel
theorem dX1_valueBy_83 : decode cX1_valueBy 83 = .ok (.ifCond .le 66, 3) := by decide +kernel
theorem dX1_valueBy_86 : decode cX1_valueBy 86 = .ok (.aload_n 0, 1) := by decide +kernel
theorem dX1_valueBy_87 : decode cX1_valueBy 87 = .ok (.getfield 13, 3) := by decide +kernel
theorem dX1_valueBy_90 : decode cX1_valueBy 90 = .ok (.iload_n 2, 1) := by decide +kernel
theorem dX1_valueBy_91 : decode cX1_valueBy 91 = .ok (.iconst 1, 1) := by decide +kernel
theorem dX1_valueBy_92 : decode cX1_valueBy 92 = .ok (.isub, 1) := by decide +kernel
theorem dX1_valueBy_93 : decode cX1_valueBy 93 = .ok (.aload_n 0, 1) := by decide +kernel
theorem dX1_valueBy_94 : decode cX1_valueBy 94 = .ok (.getfield 13, 3) := by decide +kernel
theorem dX1_valueBy_97 : decode cX1_valueBy 97 = .ok (.iload_n 2, 1) := by decide +kernel
theorem dX1_valueBy_98 : decode cX1_valueBy 98 = .ok (.iconst 1, 1) := by decide +kernel
theorem dX1_valueBy_99 : decode cX1_valueBy 99 = .ok (.isub, 1) := by decide +kernel
theorem dX1_valueBy_100 : decode cX1_valueBy 100 = .ok (.iaload, 1) := by decide +kernel
theorem dX1_valueBy_101 : decode cX1_valueBy 101 = .ok (.ifCond .ne 7, 3) := by decide +kernel
theorem dX1_valueBy_104 : decode cX1_valueBy 104 = .ok (.iconst 1, 1) := by decide +kernel
theorem dX1_valueBy_105 : decode cX1_valueBy 105 = .ok (.goto 4, 3) := by decide +kernel
theorem dX1_valueBy_108 : decode cX1_valueBy 108 = .ok (.iconst 0, 1) := by decide +kernel
theorem dX1_valueBy_109 : decode cX1_valueBy 109 = .ok (.iastore, 1) := by decide +kernel
theorem dX1_valueBy_110 : decode cX1_valueBy 110 = .ok (.goto 39, 3) := by decide +kernel
theorem dX1_valueBy_113 : decode cX1_valueBy 113 = .ok (.iload_n 2, 1) := by decide +kernel
theorem dX1_valueBy_114 : decode cX1_valueBy 114 = .ok (.iconst 1, 1) := by decide +kernel
theorem dX1_valueBy_115 : decode cX1_valueBy 115 = .ok (.if_icmp .le 34, 3) := by decide +kernel
theorem dX1_valueBy_118 : decode cX1_valueBy 118 = .ok (.iinc 2 (-1), 3) := by decide +kernel
theorem dX1_valueBy_121 : decode cX1_valueBy 121 = .ok (.aload_n 0, 1) := by decide +kernel
theorem dX1_valueBy_122 : decode cX1_valueBy 122 = .ok (.getfield 13, 3) := by decide +kernel
theorem dX1_valueBy_125 : decode cX1_valueBy 125 = .ok (.iload_n 2, 1) := by decide +kernel
theorem dX1_valueBy_126 : decode cX1_valueBy 126 = .ok (.iconst 1, 1) := by decide +kernel
theorem dX1_valueBy_127 : decode cX1_valueBy 127 = .ok (.isub, 1) := by decide +kernel
theorem dX1_valueBy_128 : decode cX1_valueBy 128 = .ok (.iload 4, 2) := by decide +kernel
theorem dX1_valueBy_130 : decode cX1_valueBy 130 = .ok (.ineg, 1) := by decide +kernel
theorem dX1_valueBy_131 : decode cX1_valueBy 131 = .ok (.aload_n 0, 1) := by decide +kernel
theorem dX1_valueBy_132 : decode cX1_valueBy 132 = .ok (.getfield 13, 3) := by decide +kernel
theorem dX1_valueBy_135 : decode cX1_valueBy 135 = .ok (.iload_n 2, 1) := by decide +kernel
theorem dX1_valueBy_136 : decode cX1_valueBy 136 = .ok (.iconst 1, 1) := by decide +kernel
theorem dX1_valueBy_137 : decode cX1_valueBy 137 = .ok (.isub, 1) := by decide +kernel
theorem dX1_valueBy_138 : decode cX1_valueBy 138 = .ok (.iaload, 1) := by decide +kernel
theorem dX1_valueBy_139 : decode cX1_valueBy 139 = .ok (.aload_n 0, 1) := by decide +kernel
theorem dX1_valueBy_140 : decode cX1_valueBy 140 = .ok (.getfield 13, 3) := by decide +kernel
theorem dX1_valueBy_143 : decode cX1_valueBy 143 = .ok (.iload_n 2, 1) := by decide +kernel
theorem dX1_valueBy_144 : decode cX1_valueBy 144 = .ok (.iaload, 1) := by decide +kernel
theorem dX1_valueBy_145 : decode cX1_valueBy 145 = .ok (.invokestatic 25, 3) := by decide +kernel
theorem dX1_valueBy_148 : decode cX1_valueBy 148 = .ok (.iastore, 1) := by decide +kernel
theorem dX1_valueBy_149 : decode cX1_valueBy 149 = .ok (.iinc 3 1, 3) := by decide +kernel
theorem dX1_valueBy_152 : decode cX1_valueBy 152 = .ok (.goto (-148), 3) := by decide +kernel
theorem dX1_valueBy_155 : decode cX1_valueBy 155 = .ok (.iload_n 2, 1) := by decide +kernel
theorem dX1_valueBy_156 : decode cX1_valueBy 156 = .ok (.ifCond .le 12, 3) := by decide +kernel
theorem dX1_valueBy_159 : decode cX1_valueBy 159 = .ok (.aload_n 0, 1) := by decide +kernel
theorem dX1_valueBy_160 : decode cX1_valueBy 160 = .ok (.getfield 13, 3) := by decide +kernel
theorem dX1_valueBy_163 : decode cX1_valueBy 163 = .ok (.iconst 0, 1) := by decide +kernel
theorem dX1_valueBy_164 : decode cX1_valueBy 164 = .ok (.iaload, 1) := by decide +kernel
theorem dX1_valueBy_165 : decode cX1_valueBy 165 = .ok (.goto 4, 3) := by decide +kernel
theorem dX1_valueBy_168 : decode cX1_valueBy 168 = .ok (.iconst 0, 1) := by decide +kernel
theorem dX1_valueBy_169 : decode cX1_valueBy 169 = .ok (.ireturn, 1) := by decide +kernel
theorem dX1_joined_0 : decode cX1_joined 0 = .ok (.iload_n 0, 1) := by decide +kernel
theorem dX1_joined_1 : decode cX1_joined 1 = .ok (.lookupswitch 166 #[(8, 152), (37, 107), (42, 91), (43, 83), (45, 87), (47, 95), (60, 119), (61, 141), (62, 130)], 83) := by decide +kernel
theorem dX1_joined_84 : decode cX1_joined 84 = .ok (.iload_n 1, 1) := by decide +kernel
theorem dX1_joined_85 : decode cX1_joined 85 = .ok (.iload_n 2, 1) := by decide +kernel
theorem dX1_joined_86 : decode cX1_joined 86 = .ok (.iadd, 1) := by decide +kernel
theorem dX1_joined_87 : decode cX1_joined 87 = .ok (.ireturn, 1) := by decide +kernel
theorem dX1_joined_88 : decode cX1_joined 88 = .ok (.iload_n 1, 1) := by decide +kernel
theorem dX1_joined_89 : decode cX1_joined 89 = .ok (.iload_n 2, 1) := by decide +kernel
theorem dX1_joined_90 : decode cX1_joined 90 = .ok (.isub, 1) := by decide +kernel
theorem dX1_joined_91 : decode cX1_joined 91 = .ok (.ireturn, 1) := by decide +kernel
theorem dX1_joined_92 : decode cX1_joined 92 = .ok (.iload_n 1, 1) := by decide +kernel
theorem dX1_joined_93 : decode cX1_joined 93 = .ok (.iload_n 2, 1) := by decide +kernel
theorem dX1_joined_94 : decode cX1_joined 94 = .ok (.imul, 1) := by decide +kernel
theorem dX1_joined_95 : decode cX1_joined 95 = .ok (.ireturn, 1) := by decide +kernel
theorem dX1_joined_96 : decode cX1_joined 96 = .ok (.iload_n 2, 1) := by decide +kernel
theorem dX1_joined_97 : decode cX1_joined 97 = .ok (.ifCond .ne 7, 3) := by decide +kernel
theorem dX1_joined_100 : decode cX1_joined 100 = .ok (.iconst 0, 1) := by decide +kernel
theorem dX1_joined_101 : decode cX1_joined 101 = .ok (.goto 6, 3) := by decide +kernel
theorem dX1_joined_104 : decode cX1_joined 104 = .ok (.iload_n 1, 1) := by decide +kernel
theorem dX1_joined_105 : decode cX1_joined 105 = .ok (.iload_n 2, 1) := by decide +kernel
theorem dX1_joined_106 : decode cX1_joined 106 = .ok (.idiv, 1) := by decide +kernel
theorem dX1_joined_107 : decode cX1_joined 107 = .ok (.ireturn, 1) := by decide +kernel
theorem dX1_joined_108 : decode cX1_joined 108 = .ok (.iload_n 2, 1) := by decide +kernel
theorem dX1_joined_109 : decode cX1_joined 109 = .ok (.ifCond .ne 7, 3) := by decide +kernel
theorem dX1_joined_112 : decode cX1_joined 112 = .ok (.iconst 0, 1) := by decide +kernel
theorem dX1_joined_113 : decode cX1_joined 113 = .ok (.goto 6, 3) := by decide +kernel
theorem dX1_joined_116 : decode cX1_joined 116 = .ok (.iload_n 1, 1) := by decide +kernel
theorem dX1_joined_117 : decode cX1_joined 117 = .ok (.iload_n 2, 1) := by decide +kernel
theorem dX1_joined_118 : decode cX1_joined 118 = .ok (.irem, 1) := by decide +kernel
theorem dX1_joined_119 : decode cX1_joined 119 = .ok (.ireturn, 1) := by decide +kernel
theorem dX1_joined_120 : decode cX1_joined 120 = .ok (.iload_n 1, 1) := by decide +kernel
theorem dX1_joined_121 : decode cX1_joined 121 = .ok (.iload_n 2, 1) := by decide +kernel
theorem dX1_joined_122 : decode cX1_joined 122 = .ok (.if_icmp .ge 7, 3) := by decide +kernel
theorem dX1_joined_125 : decode cX1_joined 125 = .ok (.iconst 1, 1) := by decide +kernel
theorem dX1_joined_126 : decode cX1_joined 126 = .ok (.goto 4, 3) := by decide +kernel
theorem dX1_joined_129 : decode cX1_joined 129 = .ok (.iconst 0, 1) := by decide +kernel
theorem dX1_joined_130 : decode cX1_joined 130 = .ok (.ireturn, 1) := by decide +kernel
theorem dX1_joined_131 : decode cX1_joined 131 = .ok (.iload_n 1, 1) := by decide +kernel
theorem dX1_joined_132 : decode cX1_joined 132 = .ok (.iload_n 2, 1) := by decide +kernel
theorem dX1_joined_133 : decode cX1_joined 133 = .ok (.if_icmp .le 7, 3) := by decide +kernel
theorem dX1_joined_136 : decode cX1_joined 136 = .ok (.iconst 1, 1) := by decide +kernel
theorem dX1_joined_137 : decode cX1_joined 137 = .ok (.goto 4, 3) := by decide +kernel
theorem dX1_joined_140 : decode cX1_joined 140 = .ok (.iconst 0, 1) := by decide +kernel
theorem dX1_joined_141 : decode cX1_joined 141 = .ok (.ireturn, 1) := by decide +kernel
theorem dX1_joined_142 : decode cX1_joined 142 = .ok (.iload_n 1, 1) := by decide +kernel
theorem dX1_joined_143 : decode cX1_joined 143 = .ok (.iload_n 2, 1) := by decide +kernel
theorem dX1_joined_144 : decode cX1_joined 144 = .ok (.if_icmp .ne 7, 3) := by decide +kernel
theorem dX1_joined_147 : decode cX1_joined 147 = .ok (.iconst 1, 1) := by decide +kernel
theorem dX1_joined_148 : decode cX1_joined 148 = .ok (.goto 4, 3) := by decide +kernel
theorem dX1_joined_151 : decode cX1_joined 151 = .ok (.iconst 0, 1) := by decide +kernel
theorem dX1_joined_152 : decode cX1_joined 152 = .ok (.ireturn, 1) := by decide +kernel
theorem dX1_joined_153 : decode cX1_joined 153 = .ok (.iload_n 1, 1) := by decide +kernel
theorem dX1_joined_154 : decode cX1_joined 154 = .ok (.ifCond .eq 11, 3) := by decide +kernel
theorem dX1_joined_157 : decode cX1_joined 157 = .ok (.iload_n 2, 1) := by decide +kernel
theorem dX1_joined_158 : decode cX1_joined 158 = .ok (.ifCond .eq 7, 3) := by decide +kernel
theorem dX1_joined_161 : decode cX1_joined 161 = .ok (.iconst 1, 1) := by decide +kernel
theorem dX1_joined_162 : decode cX1_joined 162 = .ok (.goto 4, 3) := by decide +kernel
theorem dX1_joined_165 : decode cX1_joined 165 = .ok (.iconst 0, 1) := by decide +kernel
theorem dX1_joined_166 : decode cX1_joined 166 = .ok (.ireturn, 1) := by decide +kernel
theorem dX1_joined_167 : decode cX1_joined 167 = .ok (.iload_n 1, 1) := by decide +kernel
theorem dX1_joined_168 : decode cX1_joined 168 = .ok (.ifCond .ne 7, 3) := by decide +kernel
theorem dX1_joined_171 : decode cX1_joined 171 = .ok (.iload_n 2, 1) := by decide +kernel
theorem dX1_joined_172 : decode cX1_joined 172 = .ok (.ifCond .eq 7, 3) := by decide +kernel
theorem dX1_joined_175 : decode cX1_joined 175 = .ok (.iconst 1, 1) := by decide +kernel
theorem dX1_joined_176 : decode cX1_joined 176 = .ok (.goto 4, 3) := by decide +kernel
theorem dX1_joined_179 : decode cX1_joined 179 = .ok (.iconst 0, 1) := by decide +kernel
theorem dX1_joined_180 : decode cX1_joined 180 = .ok (.ireturn, 1) := by decide +kernel
theorem dX2_init_0 : decode cX2_init 0 = .ok (.aload_n 0, 1) := by decide +kernel
theorem dX2_init_1 : decode cX2_init 1 = .ok (.invokespecial 1, 3) := by decide +kernel
theorem dX2_init_4 : decode cX2_init 4 = .ok (.aload_n 0, 1) := by decide +kernel
theorem dX2_init_5 : decode cX2_init 5 = .ok (.new 7, 3) := by decide +kernel
theorem dX2_init_8 : decode cX2_init 8 = .ok (.dup, 1) := by decide +kernel
theorem dX2_init_9 : decode cX2_init 9 = .ok (.invokespecial 9, 3) := by decide +kernel
theorem dX2_init_12 : decode cX2_init 12 = .ok (.putfield 10, 3) := by decide +kernel
theorem dX2_init_15 : decode cX2_init 15 = .ok (.return_, 1) := by decide +kernel
theorem dX2_either_0 : decode cX2_either 0 = .ok (.aload_n 0, 1) := by decide +kernel
theorem dX2_either_1 : decode cX2_either 1 = .ok (.aload_n 1, 1) := by decide +kernel
theorem dX2_either_2 : decode cX2_either 2 = .ok (.iload_n 2, 1) := by decide +kernel
theorem dX2_either_3 : decode cX2_either 3 = .ok (.invokevirtual 16, 3) := by decide +kernel
theorem dX2_either_6 : decode cX2_either 6 = .ok (.istore_n 3, 1) := by decide +kernel
theorem dX2_either_7 : decode cX2_either 7 = .ok (.iconst 0, 1) := by decide +kernel
theorem dX2_either_8 : decode cX2_either 8 = .ok (.istore 4, 2) := by decide +kernel
theorem dX2_either_10 : decode cX2_either 10 = .ok (.iload_n 3, 1) := by decide +kernel
theorem dX2_either_11 : decode cX2_either 11 = .ok (.ifCond .eq 48, 3) := by decide +kernel
theorem dX2_either_14 : decode cX2_either 14 = .ok (.iload 4, 2) := by decide +kernel
theorem dX2_either_16 : decode cX2_either 16 = .ok (.bipush 30, 2) := by decide +kernel
theorem dX2_either_18 : decode cX2_either 18 = .ok (.if_icmp .ge 41, 3) := by decide +kernel
theorem dX2_either_21 : decode cX2_either 21 = .ok (.aload_n 0, 1) := by decide +kernel
theorem dX2_either_22 : decode cX2_either 22 = .ok (.getfield 10, 3) := by decide +kernel
theorem dX2_either_25 : decode cX2_either 25 = .ok (.getfield 22, 3) := by decide +kernel
theorem dX2_either_28 : decode cX2_either 28 = .ok (.bipush 7, 2) := by decide +kernel
theorem dX2_either_30 : decode cX2_either 30 = .ok (.if_icmp .ne 29, 3) := by decide +kernel
theorem dX2_either_33 : decode cX2_either 33 = .ok (.aload_n 0, 1) := by decide +kernel
theorem dX2_either_34 : decode cX2_either 34 = .ok (.getfield 10, 3) := by decide +kernel
theorem dX2_either_37 : decode cX2_either 37 = .ok (.invokevirtual 26, 3) := by decide +kernel
theorem dX2_either_40 : decode cX2_either 40 = .ok (.aload_n 0, 1) := by decide +kernel
theorem dX2_either_41 : decode cX2_either 41 = .ok (.aload_n 1, 1) := by decide +kernel
theorem dX2_either_42 : decode cX2_either 42 = .ok (.iload_n 2, 1) := by decide +kernel
theorem dX2_either_43 : decode cX2_either 43 = .ok (.invokevirtual 16, 3) := by decide +kernel
theorem dX2_either_46 : decode cX2_either 46 = .ok (.istore_n 3, 1) := by decide +kernel
theorem dX2_either_47 : decode cX2_either 47 = .ok (.aload_n 1, 1) := by decide +kernel
theorem dX2_either_48 : decode cX2_either 48 = .ok (.bipush (-7), 2) := by decide +kernel
theorem dX2_either_50 : decode cX2_either 50 = .ok (.invokevirtual 29, 3) := by decide +kernel
theorem dX2_either_53 : decode cX2_either 53 = .ok (.iinc 4 1, 3) := by decide +kernel
theorem dX2_either_56 : decode cX2_either 56 = .ok (.goto (-46), 3) := by decide +kernel
theorem dX2_either_59 : decode cX2_either 59 = .ok (.iload_n 3, 1) := by decide +kernel
theorem dX2_either_60 : decode cX2_either 60 = .ok (.ireturn, 1) := by decide +kernel
theorem dX2_both_0 : decode cX2_both 0 = .ok (.aload_n 0, 1) := by decide +kernel
theorem dX2_both_1 : decode cX2_both 1 = .ok (.aload_n 1, 1) := by decide +kernel
theorem dX2_both_2 : decode cX2_both 2 = .ok (.iload_n 2, 1) := by decide +kernel
theorem dX2_both_3 : decode cX2_both 3 = .ok (.invokevirtual 33, 3) := by decide +kernel
theorem dX2_both_6 : decode cX2_both 6 = .ok (.istore_n 3, 1) := by decide +kernel
theorem dX2_both_7 : decode cX2_both 7 = .ok (.iconst 0, 1) := by decide +kernel
theorem dX2_both_8 : decode cX2_both 8 = .ok (.istore 4, 2) := by decide +kernel
theorem dX2_both_10 : decode cX2_both 10 = .ok (.iload_n 3, 1) := by decide +kernel
theorem dX2_both_11 : decode cX2_both 11 = .ok (.ifCond .eq 48, 3) := by decide +kernel
theorem dX2_both_14 : decode cX2_both 14 = .ok (.iload 4, 2) := by decide +kernel
theorem dX2_both_16 : decode cX2_both 16 = .ok (.bipush 30, 2) := by decide +kernel
theorem dX2_both_18 : decode cX2_both 18 = .ok (.if_icmp .ge 41, 3) := by decide +kernel
theorem dX2_both_21 : decode cX2_both 21 = .ok (.aload_n 0, 1) := by decide +kernel
theorem dX2_both_22 : decode cX2_both 22 = .ok (.getfield 10, 3) := by decide +kernel
theorem dX2_both_25 : decode cX2_both 25 = .ok (.getfield 22, 3) := by decide +kernel
theorem dX2_both_28 : decode cX2_both 28 = .ok (.bipush 8, 2) := by decide +kernel
theorem dX2_both_30 : decode cX2_both 30 = .ok (.if_icmp .ne 29, 3) := by decide +kernel
theorem dX2_both_33 : decode cX2_both 33 = .ok (.aload_n 0, 1) := by decide +kernel
theorem dX2_both_34 : decode cX2_both 34 = .ok (.getfield 10, 3) := by decide +kernel
theorem dX2_both_37 : decode cX2_both 37 = .ok (.invokevirtual 26, 3) := by decide +kernel
theorem dX2_both_40 : decode cX2_both 40 = .ok (.aload_n 0, 1) := by decide +kernel
theorem dX2_both_41 : decode cX2_both 41 = .ok (.aload_n 1, 1) := by decide +kernel
theorem dX2_both_42 : decode cX2_both 42 = .ok (.iload_n 2, 1) := by decide +kernel
theorem dX2_both_43 : decode cX2_both 43 = .ok (.invokevirtual 33, 3) := by decide +kernel
theorem dX2_both_46 : decode cX2_both 46 = .ok (.istore_n 3, 1) := by decide +kernel
theorem dX2_both_47 : decode cX2_both 47 = .ok (.aload_n 1, 1) := by decide +kernel
theorem dX2_both_48 : decode cX2_both 48 = .ok (.bipush (-8), 2) := by decide +kernel
theorem dX2_both_50 : decode cX2_both 50 = .ok (.invokevirtual 29, 3) := by decide +kernel
theorem dX2_both_53 : decode cX2_both 53 = .ok (.iinc 4 1, 3) := by decide +kernel
theorem dX2_both_56 : decode cX2_both 56 = .ok (.goto (-46), 3) := by decide +kernel
theorem dX2_both_59 : decode cX2_both 59 = .ok (.iload_n 3, 1) := by decide +kernel
theorem dX2_both_60 : decode cX2_both 60 = .ok (.ireturn, 1) := by decide +kernel
theorem dX2_one_0 : decode cX2_one 0 = .ok (.aload_n 0, 1) := by decide +kernel
theorem dX2_one_1 : decode cX2_one 1 = .ok (.getfield 10, 3) := by decide +kernel
theorem dX2_one_4 : decode cX2_one 4 = .ok (.getfield 22, 3) := by decide +kernel
theorem dX2_one_7 : decode cX2_one 7 = .ok (.bipush 9, 2) := by decide +kernel
theorem dX2_one_9 : decode cX2_one 9 = .ok (.if_icmp .eq 10, 3) := by decide +kernel
theorem dX2_one_12 : decode cX2_one 12 = .ok (.aload_n 0, 1) := by decide +kernel
theorem dX2_one_13 : decode cX2_one 13 = .ok (.aload_n 1, 1) := by decide +kernel
theorem dX2_one_14 : decode cX2_one 14 = .ok (.iload_n 2, 1) := by decide +kernel
theorem dX2_one_15 : decode cX2_one 15 = .ok (.invokevirtual 36, 3) := by decide +kernel
theorem dX2_one_18 : decode cX2_one 18 = .ok (.ireturn, 1) := by decide +kernel
theorem dX2_one_19 : decode cX2_one 19 = .ok (.iload_n 2, 1) := by decide +kernel
theorem dX2_one_20 : decode cX2_one 20 = .ok (.bipush 7, 2) := by decide +kernel
theorem dX2_one_22 : decode cX2_one 22 = .ok (.if_icmp .lt 12, 3) := by decide +kernel
theorem dX2_one_25 : decode cX2_one 25 = .ok (.aload_n 0, 1) := by decide +kernel
theorem dX2_one_26 : decode cX2_one 26 = .ok (.getfield 10, 3) := by decide +kernel
theorem dX2_one_29 : decode cX2_one 29 = .ok (.iconst 2, 1) := by decide +kernel
theorem dX2_one_30 : decode cX2_one 30 = .ok (.invokevirtual 39, 3) := by decide +kernel
theorem dX2_one_33 : decode cX2_one 33 = .ok (.ireturn, 1) := by decide +kernel
theorem dX2_one_34 : decode cX2_one 34 = .ok (.aload_n 0, 1) := by decide +kernel
theorem dX2_one_35 : decode cX2_one 35 = .ok (.getfield 10, 3) := by decide +kernel
theorem dX2_one_38 : decode cX2_one 38 = .ok (.invokevirtual 26, 3) := by decide +kernel
theorem dX2_one_41 : decode cX2_one 41 = .ok (.aload_n 0, 1) := by decide +kernel
theorem dX2_one_42 : decode cX2_one 42 = .ok (.aload_n 1, 1) := by decide +kernel
theorem dX2_one_43 : decode cX2_one 43 = .ok (.iload_n 2, 1) := by decide +kernel
theorem dX2_one_44 : decode cX2_one 44 = .ok (.iconst 1, 1) := by decide +kernel
theorem dX2_one_45 : decode cX2_one 45 = .ok (.iadd, 1) := by decide +kernel
theorem dX2_one_46 : decode cX2_one 46 = .ok (.invokevirtual 33, 3) := by decide +kernel
theorem dX2_one_49 : decode cX2_one 49 = .ok (.istore_n 3, 1) := by decide +kernel
theorem dX2_one_50 : decode cX2_one 50 = .ok (.aload_n 1, 1) := by decide +kernel
theorem dX2_one_51 : decode cX2_one 51 = .ok (.bipush (-9), 2) := by decide +kernel
theorem dX2_one_53 : decode cX2_one 53 = .ok (.invokevirtual 29, 3) := by decide +kernel
theorem dX2_one_56 : decode cX2_one 56 = .ok (.iload_n 3, 1) := by decide +kernel
theorem dX2_one_57 : decode cX2_one 57 = .ok (.ireturn, 1) := by decide +kernel
theorem dX2_relation_0 : decode cX2_relation 0 = .ok (.aload_n 0, 1) := by decide +kernel
theorem dX2_relation_1 : decode cX2_relation 1 = .ok (.aload_n 1, 1) := by decide +kernel
theorem dX2_relation_2 : decode cX2_relation 2 = .ok (.iload_n 2, 1) := by decide +kernel
theorem dX2_relation_3 : decode cX2_relation 3 = .ok (.invokevirtual 43, 3) := by decide +kernel
theorem dX2_relation_6 : decode cX2_relation 6 = .ok (.ifCond .ne 5, 3) := by decide +kernel
theorem dX2_relation_9 : decode cX2_relation 9 = .ok (.iconst 0, 1) := by decide +kernel
theorem dX2_relation_10 : decode cX2_relation 10 = .ok (.ireturn, 1) := by decide +kernel
theorem dX2_relation_11 : decode cX2_relation 11 = .ok (.aload_n 0, 1) := by decide +kernel
theorem dX2_relation_12 : decode cX2_relation 12 = .ok (.getfield 10, 3) := by decide +kernel
theorem dX2_relation_15 : decode cX2_relation 15 = .ok (.getfield 22, 3) := by decide +kernel
theorem dX2_relation_18 : decode cX2_relation 18 = .ok (.istore_n 3, 1) := by decide +kernel
theorem dX2_relation_19 : decode cX2_relation 19 = .ok (.iload_n 3, 1) := by decide +kernel
theorem dX2_relation_20 : decode cX2_relation 20 = .ok (.bipush 60, 2) := by decide +kernel
theorem dX2_relation_22 : decode cX2_relation 22 = .ok (.if_icmp .eq 17, 3) := by decide +kernel
theorem dX2_relation_25 : decode cX2_relation 25 = .ok (.iload_n 3, 1) := by decide +kernel
theorem dX2_relation_26 : decode cX2_relation 26 = .ok (.bipush 62, 2) := by decide +kernel
theorem dX2_relation_28 : decode cX2_relation 28 = .ok (.if_icmp .eq 11, 3) := by decide +kernel
theorem dX2_relation_31 : decode cX2_relation 31 = .ok (.iload_n 3, 1) := by decide +kernel
theorem dX2_relation_32 : decode cX2_relation 32 = .ok (.bipush 61, 2) := by decide +kernel
theorem dX2_relation_34 : decode cX2_relation 34 = .ok (.if_icmp .eq 5, 3) := by decide +kernel
theorem dX2_relation_37 : decode cX2_relation 37 = .ok (.iconst 1, 1) := by decide +kernel
theorem dX2_relation_38 : decode cX2_relation 38 = .ok (.ireturn, 1) := by decide +kernel
theorem dX2_relation_39 : decode cX2_relation 39 = .ok (.aload_n 0, 1) := by decide +kernel
theorem dX2_relation_40 : decode cX2_relation 40 = .ok (.getfield 10, 3) := by decide +kernel
theorem dX2_relation_43 : decode cX2_relation 43 = .ok (.invokevirtual 26, 3) := by decide +kernel
theorem dX2_relation_46 : decode cX2_relation 46 = .ok (.aload_n 0, 1) := by decide +kernel
theorem dX2_relation_47 : decode cX2_relation 47 = .ok (.aload_n 1, 1) := by decide +kernel
theorem dX2_relation_48 : decode cX2_relation 48 = .ok (.iload_n 2, 1) := by decide +kernel
theorem dX2_relation_49 : decode cX2_relation 49 = .ok (.invokevirtual 43, 3) := by decide +kernel
theorem dX2_relation_52 : decode cX2_relation 52 = .ok (.istore 4, 2) := by decide +kernel
theorem dX2_relation_54 : decode cX2_relation 54 = .ok (.aload_n 1, 1) := by decide +kernel
theorem dX2_relation_55 : decode cX2_relation 55 = .ok (.iload_n 3, 1) := by decide +kernel
theorem dX2_relation_56 : decode cX2_relation 56 = .ok (.ineg, 1) := by decide +kernel
theorem dX2_relation_57 : decode cX2_relation 57 = .ok (.invokevirtual 29, 3) := by decide +kernel
theorem dX2_relation_60 : decode cX2_relation 60 = .ok (.iload 4, 2) := by decide +kernel
theorem dX2_relation_62 : decode cX2_relation 62 = .ok (.ireturn, 1) := by decide +kernel
theorem dX2_sum_0 : decode cX2_sum 0 = .ok (.aload_n 0, 1) := by decide +kernel
theorem dX2_sum_1 : decode cX2_sum 1 = .ok (.aload_n 1, 1) := by decide +kernel
theorem dX2_sum_2 : decode cX2_sum 2 = .ok (.iload_n 2, 1) := by decide +kernel
theorem dX2_sum_3 : decode cX2_sum 3 = .ok (.invokevirtual 46, 3) := by decide +kernel
theorem dX2_sum_6 : decode cX2_sum 6 = .ok (.istore_n 3, 1) := by decide +kernel
theorem dX2_sum_7 : decode cX2_sum 7 = .ok (.iconst 0, 1) := by decide +kernel
theorem dX2_sum_8 : decode cX2_sum 8 = .ok (.istore 4, 2) := by decide +kernel
theorem dX2_sum_10 : decode cX2_sum 10 = .ok (.iload_n 3, 1) := by decide +kernel
theorem dX2_sum_11 : decode cX2_sum 11 = .ok (.ifCond .eq 70, 3) := by decide +kernel
theorem dX2_sum_14 : decode cX2_sum 14 = .ok (.iload 4, 2) := by decide +kernel
theorem dX2_sum_16 : decode cX2_sum 16 = .ok (.bipush 30, 2) := by decide +kernel
theorem dX2_sum_18 : decode cX2_sum 18 = .ok (.if_icmp .ge 63, 3) := by decide +kernel
theorem dX2_sum_21 : decode cX2_sum 21 = .ok (.aload_n 0, 1) := by decide +kernel
theorem dX2_sum_22 : decode cX2_sum 22 = .ok (.getfield 10, 3) := by decide +kernel
theorem dX2_sum_25 : decode cX2_sum 25 = .ok (.getfield 22, 3) := by decide +kernel
theorem dX2_sum_28 : decode cX2_sum 28 = .ok (.bipush 43, 2) := by decide +kernel
theorem dX2_sum_30 : decode cX2_sum 30 = .ok (.if_icmp .eq 15, 3) := by decide +kernel
theorem dX2_sum_33 : decode cX2_sum 33 = .ok (.aload_n 0, 1) := by decide +kernel
theorem dX2_sum_34 : decode cX2_sum 34 = .ok (.getfield 10, 3) := by decide +kernel
theorem dX2_sum_37 : decode cX2_sum 37 = .ok (.getfield 22, 3) := by decide +kernel
theorem dX2_sum_40 : decode cX2_sum 40 = .ok (.bipush 45, 2) := by decide +kernel
theorem dX2_sum_42 : decode cX2_sum 42 = .ok (.if_icmp .ne 39, 3) := by decide +kernel
theorem dX2_sum_45 : decode cX2_sum 45 = .ok (.aload_n 0, 1) := by decide +kernel
theorem dX2_sum_46 : decode cX2_sum 46 = .ok (.getfield 10, 3) := by decide +kernel
theorem dX2_sum_49 : decode cX2_sum 49 = .ok (.getfield 22, 3) := by decide +kernel
theorem dX2_sum_52 : decode cX2_sum 52 = .ok (.istore 5, 2) := by decide +kernel
theorem dX2_sum_54 : decode cX2_sum 54 = .ok (.aload_n 0, 1) := by decide +kernel
theorem dX2_sum_55 : decode cX2_sum 55 = .ok (.getfield 10, 3) := by decide +kernel
theorem dX2_sum_58 : decode cX2_sum 58 = .ok (.invokevirtual 26, 3) := by decide +kernel
theorem dX2_sum_61 : decode cX2_sum 61 = .ok (.aload_n 0, 1) := by decide +kernel
theorem dX2_sum_62 : decode cX2_sum 62 = .ok (.aload_n 1, 1) := by decide +kernel
theorem dX2_sum_63 : decode cX2_sum 63 = .ok (.iload_n 2, 1) := by decide +kernel
theorem dX2_sum_64 : decode cX2_sum 64 = .ok (.invokevirtual 46, 3) := by decide +kernel
theorem dX2_sum_67 : decode cX2_sum 67 = .ok (.istore_n 3, 1) := by decide +kernel
theorem dX2_sum_68 : decode cX2_sum 68 = .ok (.aload_n 1, 1) := by decide +kernel
theorem dX2_sum_69 : decode cX2_sum 69 = .ok (.iload 5, 2) := by decide +kernel
theorem dX2_sum_71 : decode cX2_sum 71 = .ok (.ineg, 1) := by decide +kernel
theorem dX2_sum_72 : decode cX2_sum 72 = .ok (.invokevirtual 29, 3) := by decide +kernel
theorem dX2_sum_75 : decode cX2_sum 75 = .ok (.iinc 4 1, 3) := by decide +kernel
theorem dX2_sum_78 : decode cX2_sum 78 = .ok (.goto (-68), 3) := by decide +kernel
theorem dX2_sum_81 : decode cX2_sum 81 = .ok (.iload_n 3, 1) := by decide +kernel
theorem dX2_sum_82 : decode cX2_sum 82 = .ok (.ireturn, 1) := by decide +kernel
theorem dX2_term_0 : decode cX2_term 0 = .ok (.aload_n 0, 1) := by decide +kernel
theorem dX2_term_1 : decode cX2_term 1 = .ok (.aload_n 1, 1) := by decide +kernel
theorem dX2_term_2 : decode cX2_term 2 = .ok (.iload_n 2, 1) := by decide +kernel
theorem dX2_term_3 : decode cX2_term 3 = .ok (.invokevirtual 49, 3) := by decide +kernel
theorem dX2_term_6 : decode cX2_term 6 = .ok (.istore_n 3, 1) := by decide +kernel
theorem dX2_term_7 : decode cX2_term 7 = .ok (.iconst 0, 1) := by decide +kernel
theorem dX2_term_8 : decode cX2_term 8 = .ok (.istore 4, 2) := by decide +kernel
theorem dX2_term_10 : decode cX2_term 10 = .ok (.iload_n 3, 1) := by decide +kernel
theorem dX2_term_11 : decode cX2_term 11 = .ok (.ifCond .eq 59, 3) := by decide +kernel
theorem dX2_term_14 : decode cX2_term 14 = .ok (.iload 4, 2) := by decide +kernel
theorem dX2_term_16 : decode cX2_term 16 = .ok (.bipush 30, 2) := by decide +kernel
theorem dX2_term_18 : decode cX2_term 18 = .ok (.if_icmp .ge 52, 3) := by decide +kernel
theorem dX2_term_21 : decode cX2_term 21 = .ok (.aload_n 0, 1) := by decide +kernel
theorem dX2_term_22 : decode cX2_term 22 = .ok (.getfield 10, 3) := by decide +kernel
theorem dX2_term_25 : decode cX2_term 25 = .ok (.getfield 22, 3) := by decide +kernel
theorem dX2_term_28 : decode cX2_term 28 = .ok (.invokestatic 52, 3) := by decide +kernel
theorem dX2_term_31 : decode cX2_term 31 = .ok (.ifCond .eq 39, 3) := by decide +kernel
theorem dX2_term_34 : decode cX2_term 34 = .ok (.aload_n 0, 1) := by decide +kernel
theorem dX2_term_35 : decode cX2_term 35 = .ok (.getfield 10, 3) := by decide +kernel
theorem dX2_term_38 : decode cX2_term 38 = .ok (.getfield 22, 3) := by decide +kernel
theorem dX2_term_41 : decode cX2_term 41 = .ok (.istore 5, 2) := by decide +kernel
theorem dX2_term_43 : decode cX2_term 43 = .ok (.aload_n 0, 1) := by decide +kernel
theorem dX2_term_44 : decode cX2_term 44 = .ok (.getfield 10, 3) := by decide +kernel
theorem dX2_term_47 : decode cX2_term 47 = .ok (.invokevirtual 26, 3) := by decide +kernel
theorem dX2_term_50 : decode cX2_term 50 = .ok (.aload_n 0, 1) := by decide +kernel
theorem dX2_term_51 : decode cX2_term 51 = .ok (.aload_n 1, 1) := by decide +kernel
theorem dX2_term_52 : decode cX2_term 52 = .ok (.iload_n 2, 1) := by decide +kernel
theorem dX2_term_53 : decode cX2_term 53 = .ok (.invokevirtual 49, 3) := by decide +kernel
theorem dX2_term_56 : decode cX2_term 56 = .ok (.istore_n 3, 1) := by decide +kernel
theorem dX2_term_57 : decode cX2_term 57 = .ok (.aload_n 1, 1) := by decide +kernel
theorem dX2_term_58 : decode cX2_term 58 = .ok (.iload 5, 2) := by decide +kernel
theorem dX2_term_60 : decode cX2_term 60 = .ok (.ineg, 1) := by decide +kernel
theorem dX2_term_61 : decode cX2_term 61 = .ok (.invokevirtual 29, 3) := by decide +kernel
theorem dX2_term_64 : decode cX2_term 64 = .ok (.iinc 4 1, 3) := by decide +kernel
theorem dX2_term_67 : decode cX2_term 67 = .ok (.goto (-57), 3) := by decide +kernel
theorem dX2_term_70 : decode cX2_term 70 = .ok (.iload_n 3, 1) := by decide +kernel
theorem dX2_term_71 : decode cX2_term 71 = .ok (.ireturn, 1) := by decide +kernel
theorem dX2_isTimes_0 : decode cX2_isTimes 0 = .ok (.iload_n 0, 1) := by decide +kernel
theorem dX2_isTimes_1 : decode cX2_isTimes 1 = .ok (.bipush 42, 2) := by decide +kernel
theorem dX2_isTimes_3 : decode cX2_isTimes 3 = .ok (.if_icmp .eq 15, 3) := by decide +kernel
theorem dX2_isTimes_6 : decode cX2_isTimes 6 = .ok (.iload_n 0, 1) := by decide +kernel
theorem dX2_isTimes_7 : decode cX2_isTimes 7 = .ok (.bipush 47, 2) := by decide +kernel
theorem dX2_isTimes_9 : decode cX2_isTimes 9 = .ok (.if_icmp .eq 9, 3) := by decide +kernel
theorem dX2_isTimes_12 : decode cX2_isTimes 12 = .ok (.iload_n 0, 1) := by decide +kernel
theorem dX2_isTimes_13 : decode cX2_isTimes 13 = .ok (.bipush 37, 2) := by decide +kernel
theorem dX2_isTimes_15 : decode cX2_isTimes 15 = .ok (.if_icmp .ne 7, 3) := by decide +kernel
theorem dX2_isTimes_18 : decode cX2_isTimes 18 = .ok (.iconst 1, 1) := by decide +kernel
theorem dX2_isTimes_19 : decode cX2_isTimes 19 = .ok (.goto 4, 3) := by decide +kernel
theorem dX2_isTimes_22 : decode cX2_isTimes 22 = .ok (.iconst 0, 1) := by decide +kernel
theorem dX2_isTimes_23 : decode cX2_isTimes 23 = .ok (.ireturn, 1) := by decide +kernel
theorem dX2_unit_0 : decode cX2_unit 0 = .ok (.aload_n 0, 1) := by decide +kernel
theorem dX2_unit_1 : decode cX2_unit 1 = .ok (.getfield 10, 3) := by decide +kernel
theorem dX2_unit_4 : decode cX2_unit 4 = .ok (.getfield 22, 3) := by decide +kernel
theorem dX2_unit_7 : decode cX2_unit 7 = .ok (.istore_n 3, 1) := by decide +kernel
theorem dX2_unit_8 : decode cX2_unit 8 = .ok (.iload_n 3, 1) := by decide +kernel
theorem dX2_unit_9 : decode cX2_unit 9 = .ok (.iconst 1, 1) := by decide +kernel
theorem dX2_unit_10 : decode cX2_unit 10 = .ok (.if_icmp .lt 13, 3) := by decide +kernel
theorem dX2_unit_13 : decode cX2_unit 13 = .ok (.iload_n 3, 1) := by decide +kernel
theorem dX2_unit_14 : decode cX2_unit 14 = .ok (.bipush 6, 2) := by decide +kernel
theorem dX2_unit_16 : decode cX2_unit 16 = .ok (.if_icmp .gt 7, 3) := by decide +kernel
theorem dX2_unit_19 : decode cX2_unit 19 = .ok (.iconst 1, 1) := by decide +kernel
theorem dX2_unit_20 : decode cX2_unit 20 = .ok (.goto 4, 3) := by decide +kernel
theorem dX2_unit_23 : decode cX2_unit 23 = .ok (.iconst 0, 1) := by decide +kernel
theorem dX2_unit_24 : decode cX2_unit 24 = .ok (.istore 4, 2) := by decide +kernel
theorem dX2_unit_26 : decode cX2_unit 26 = .ok (.iload_n 3, 1) := by decide +kernel
theorem dX2_unit_27 : decode cX2_unit 27 = .ok (.bipush 40, 2) := by decide +kernel
theorem dX2_unit_29 : decode cX2_unit 29 = .ok (.if_icmp .ne 7, 3) := by decide +kernel
theorem dX2_unit_32 : decode cX2_unit 32 = .ok (.iconst 1, 1) := by decide +kernel
theorem dX2_unit_33 : decode cX2_unit 33 = .ok (.goto 4, 3) := by decide +kernel
theorem dX2_unit_36 : decode cX2_unit 36 = .ok (.iconst 0, 1) := by decide +kernel
theorem dX2_unit_37 : decode cX2_unit 37 = .ok (.istore 5, 2) := by decide +kernel
theorem dX2_unit_39 : decode cX2_unit 39 = .ok (.iload 4, 2) := by decide +kernel
theorem dX2_unit_41 : decode cX2_unit 41 = .ok (.ifCond .ne 14, 3) := by decide +kernel
theorem dX2_unit_44 : decode cX2_unit 44 = .ok (.iload 5, 2) := by decide +kernel
theorem dX2_unit_46 : decode cX2_unit 46 = .ok (.ifCond .ne 9, 3) := by decide +kernel
theorem dX2_unit_49 : decode cX2_unit 49 = .ok (.iload_n 3, 1) := by decide +kernel
theorem dX2_unit_50 : decode cX2_unit 50 = .ok (.bipush 100, 2) := by decide +kernel
theorem dX2_unit_52 : decode cX2_unit 52 = .ok (.if_icmp .ne 7, 3) := by decide +kernel
theorem dX2_unit_55 : decode cX2_unit 55 = .ok (.iconst 1, 1) := by decide +kernel
theorem dX2_unit_56 : decode cX2_unit 56 = .ok (.goto 4, 3) := by decide +kernel
theorem dX2_unit_59 : decode cX2_unit 59 = .ok (.iconst 0, 1) := by decide +kernel
theorem dX2_unit_60 : decode cX2_unit 60 = .ok (.istore 6, 2) := by decide +kernel
theorem dX2_unit_62 : decode cX2_unit 62 = .ok (.iload 6, 2) := by decide +kernel
theorem dX2_unit_64 : decode cX2_unit 64 = .ok (.ifCond .eq 23, 3) := by decide +kernel
theorem dX2_unit_67 : decode cX2_unit 67 = .ok (.aload_n 1, 1) := by decide +kernel
theorem dX2_unit_68 : decode cX2_unit 68 = .ok (.getfield 55, 3) := by decide +kernel
theorem dX2_unit_71 : decode cX2_unit 71 = .ok (.bipush 30, 2) := by decide +kernel
theorem dX2_unit_73 : decode cX2_unit 73 = .ok (.if_icmp .ge 14, 3) := by decide +kernel
theorem dX2_unit_76 : decode cX2_unit 76 = .ok (.iload 5, 2) := by decide +kernel
theorem dX2_unit_78 : decode cX2_unit 78 = .ok (.ifCond .eq 18, 3) := by decide +kernel
theorem dX2_unit_81 : decode cX2_unit 81 = .ok (.iload_n 2, 1) := by decide +kernel
theorem dX2_unit_82 : decode cX2_unit 82 = .ok (.bipush 7, 2) := by decide +kernel
theorem dX2_unit_84 : decode cX2_unit 84 = .ok (.if_icmp .lt 12, 3) := by decide +kernel
theorem dX2_unit_87 : decode cX2_unit 87 = .ok (.aload_n 0, 1) := by decide +kernel
theorem dX2_unit_88 : decode cX2_unit 88 = .ok (.getfield 10, 3) := by decide +kernel
theorem dX2_unit_91 : decode cX2_unit 91 = .ok (.iconst 2, 1) := by decide +kernel
theorem dX2_unit_92 : decode cX2_unit 92 = .ok (.invokevirtual 39, 3) := by decide +kernel
theorem dX2_unit_95 : decode cX2_unit 95 = .ok (.ireturn, 1) := by decide +kernel
theorem dX2_unit_96 : decode cX2_unit 96 = .ok (.aload_n 1, 1) := by decide +kernel
theorem dX2_unit_97 : decode cX2_unit 97 = .ok (.dup, 1) := by decide +kernel
theorem dX2_unit_98 : decode cX2_unit 98 = .ok (.getfield 55, 3) := by decide +kernel
theorem dX2_unit_101 : decode cX2_unit 101 = .ok (.iconst 1, 1) := by decide +kernel
theorem dX2_unit_102 : decode cX2_unit 102 = .ok (.iadd, 1) := by decide +kernel
theorem dX2_unit_103 : decode cX2_unit 103 = .ok (.putfield 55, 3) := by decide +kernel
theorem dX2_unit_106 : decode cX2_unit 106 = .ok (.iload 5, 2) := by decide +kernel
theorem dX2_unit_108 : decode cX2_unit 108 = .ok (.ifCond .ne 24, 3) := by decide +kernel
theorem dX2_unit_111 : decode cX2_unit 111 = .ok (.aload_n 1, 1) := by decide +kernel
theorem dX2_unit_112 : decode cX2_unit 112 = .ok (.iload 4, 2) := by decide +kernel
theorem dX2_unit_114 : decode cX2_unit 114 = .ok (.ifCond .eq 8, 3) := by decide +kernel
theorem dX2_unit_117 : decode cX2_unit 117 = .ok (.iload_n 3, 1) := by decide +kernel
theorem dX2_unit_118 : decode cX2_unit 118 = .ok (.ineg, 1) := by decide +kernel
theorem dX2_unit_119 : decode cX2_unit 119 = .ok (.goto 10, 3) := by decide +kernel
theorem dX2_unit_122 : decode cX2_unit 122 = .ok (.aload_n 0, 1) := by decide +kernel
theorem dX2_unit_123 : decode cX2_unit 123 = .ok (.getfield 10, 3) := by decide +kernel
theorem dX2_unit_126 : decode cX2_unit 126 = .ok (.getfield 58, 3) := by decide +kernel
theorem dX2_unit_129 : decode cX2_unit 129 = .ok (.invokevirtual 29, 3) := by decide +kernel
theorem dX2_unit_132 : decode cX2_unit 132 = .ok (.aload_n 0, 1) := by decide +kernel
theorem dX2_unit_133 : decode cX2_unit 133 = .ok (.getfield 10, 3) := by decide +kernel
theorem dX2_unit_136 : decode cX2_unit 136 = .ok (.invokevirtual 26, 3) := by decide +kernel
theorem dX2_unit_139 : decode cX2_unit 139 = .ok (.iload 5, 2) := by decide +kernel
theorem dX2_unit_141 : decode cX2_unit 141 = .ok (.ifCond .eq 26, 3) := by decide +kernel
theorem dX2_unit_144 : decode cX2_unit 144 = .ok (.aload_n 0, 1) := by decide +kernel
theorem dX2_unit_145 : decode cX2_unit 145 = .ok (.aload_n 1, 1) := by decide +kernel
theorem dX2_unit_146 : decode cX2_unit 146 = .ok (.iload_n 2, 1) := by decide +kernel
theorem dX2_unit_147 : decode cX2_unit 147 = .ok (.iconst 1, 1) := by decide +kernel
theorem dX2_unit_148 : decode cX2_unit 148 = .ok (.iadd, 1) := by decide +kernel
theorem dX2_unit_149 : decode cX2_unit 149 = .ok (.invokevirtual 61, 3) := by decide +kernel
theorem dX2_unit_152 : decode cX2_unit 152 = .ok (.ifCond .eq 19, 3) := by decide +kernel
theorem dX2_unit_155 : decode cX2_unit 155 = .ok (.aload_n 0, 1) := by decide +kernel
theorem dX2_unit_156 : decode cX2_unit 156 = .ok (.getfield 10, 3) := by decide +kernel
theorem dX2_unit_159 : decode cX2_unit 159 = .ok (.bipush 41, 2) := by decide +kernel
theorem dX2_unit_161 : decode cX2_unit 161 = .ok (.invokevirtual 64, 3) := by decide +kernel
theorem dX2_unit_164 : decode cX2_unit 164 = .ok (.ifCond .eq 7, 3) := by decide +kernel
theorem dX2_unit_167 : decode cX2_unit 167 = .ok (.iconst 1, 1) := by decide +kernel
theorem dX2_unit_168 : decode cX2_unit 168 = .ok (.goto 4, 3) := by decide +kernel
theorem dX2_unit_171 : decode cX2_unit 171 = .ok (.iconst 0, 1) := by decide +kernel
theorem dX2_unit_172 : decode cX2_unit 172 = .ok (.ireturn, 1) := by decide +kernel
theorem dX3_init_0 : decode cX3_init 0 = .ok (.aload_n 0, 1) := by decide +kernel
theorem dX3_init_1 : decode cX3_init 1 = .ok (.invokespecial 3, 3) := by decide +kernel
theorem dX3_init_4 : decode cX3_init 4 = .ok (.aload_n 0, 1) := by decide +kernel
theorem dX3_init_5 : decode cX3_init 5 = .ok (.iconst 2, 1) := by decide +kernel
theorem dX3_init_6 : decode cX3_init 6 = .ok (.bipush 6, 2) := by decide +kernel
theorem dX3_init_8 : decode cX3_init 8 = .ok (.multianewarray 11 2, 4) := by decide +kernel
theorem dX3_init_12 : decode cX3_init 12 = .ok (.putfield 13, 3) := by decide +kernel
theorem dX3_init_15 : decode cX3_init 15 = .ok (.aload_n 0, 1) := by decide +kernel
theorem dX3_init_16 : decode cX3_init 16 = .ok (.iconst 2, 1) := by decide +kernel
theorem dX3_init_17 : decode cX3_init 17 = .ok (.bipush 6, 2) := by decide +kernel
theorem dX3_init_19 : decode cX3_init 19 = .ok (.multianewarray 11 2, 4) := by decide +kernel
theorem dX3_init_23 : decode cX3_init 23 = .ok (.putfield 18, 3) := by decide +kernel
theorem dX3_init_26 : decode cX3_init 26 = .ok (.aload_n 0, 1) := by decide +kernel
theorem dX3_init_27 : decode cX3_init 27 = .ok (.iconst (-1), 1) := by decide +kernel
theorem dX3_init_28 : decode cX3_init 28 = .ok (.putfield 21, 3) := by decide +kernel
theorem dX3_init_31 : decode cX3_init 31 = .ok (.aload_n 0, 1) := by decide +kernel
theorem dX3_init_32 : decode cX3_init 32 = .ok (.iconst (-1), 1) := by decide +kernel
theorem dX3_init_33 : decode cX3_init 33 = .ok (.putfield 25, 3) := by decide +kernel
theorem dX3_init_36 : decode cX3_init 36 = .ok (.return_, 1) := by decide +kernel
theorem dX3_findRests_0 : decode cX3_findRests 0 = .ok (.iconst 0, 1) := by decide +kernel
theorem dX3_findRests_1 : decode cX3_findRests 1 = .ok (.istore 5, 2) := by decide +kernel
theorem dX3_findRests_3 : decode cX3_findRests 3 = .ok (.iload 5, 2) := by decide +kernel
theorem dX3_findRests_5 : decode cX3_findRests 5 = .ok (.aload_n 1, 1) := by decide +kernel
theorem dX3_findRests_6 : decode cX3_findRests 6 = .ok (.getfield 28, 3) := by decide +kernel
theorem dX3_findRests_9 : decode cX3_findRests 9 = .ok (.if_icmp .ge 20, 3) := by decide +kernel
theorem dX3_findRests_12 : decode cX3_findRests 12 = .ok (.aload_n 0, 1) := by decide +kernel
theorem dX3_findRests_13 : decode cX3_findRests 13 = .ok (.aload_n 1, 1) := by decide +kernel
theorem dX3_findRests_14 : decode cX3_findRests 14 = .ok (.aload_n 2, 1) := by decide +kernel
theorem dX3_findRests_15 : decode cX3_findRests 15 = .ok (.iload 5, 2) := by decide +kernel
theorem dX3_findRests_17 : decode cX3_findRests 17 = .ok (.iload_n 3, 1) := by decide +kernel
theorem dX3_findRests_18 : decode cX3_findRests 18 = .ok (.iload 4, 2) := by decide +kernel
theorem dX3_findRests_20 : decode cX3_findRests 20 = .ok (.invokevirtual 31, 3) := by decide +kernel
theorem dX3_findRests_23 : decode cX3_findRests 23 = .ok (.iinc 5 1, 3) := by decide +kernel
theorem dX3_findRests_26 : decode cX3_findRests 26 = .ok (.goto (-23), 3) := by decide +kernel
theorem dX3_findRests_29 : decode cX3_findRests 29 = .ok (.iconst 0, 1) := by decide +kernel
theorem dX3_findRests_30 : decode cX3_findRests 30 = .ok (.istore 5, 2) := by decide +kernel
theorem dX3_findRests_32 : decode cX3_findRests 32 = .ok (.iconst 0, 1) := by decide +kernel
theorem dX3_findRests_33 : decode cX3_findRests 33 = .ok (.istore 6, 2) := by decide +kernel
theorem dX3_findRests_35 : decode cX3_findRests 35 = .ok (.iload 6, 2) := by decide +kernel
theorem dX3_findRests_37 : decode cX3_findRests 37 = .ok (.aload_n 1, 1) := by decide +kernel
theorem dX3_findRests_38 : decode cX3_findRests 38 = .ok (.getfield 28, 3) := by decide +kernel
theorem dX3_findRests_41 : decode cX3_findRests 41 = .ok (.if_icmp .ge 79, 3) := by decide +kernel
theorem dX3_findRests_44 : decode cX3_findRests 44 = .ok (.iconst 0, 1) := by decide +kernel
theorem dX3_findRests_45 : decode cX3_findRests 45 = .ok (.istore 7, 2) := by decide +kernel
theorem dX3_findRests_47 : decode cX3_findRests 47 = .ok (.iload 7, 2) := by decide +kernel
theorem dX3_findRests_49 : decode cX3_findRests 49 = .ok (.aload_n 1, 1) := by decide +kernel
theorem dX3_findRests_50 : decode cX3_findRests 50 = .ok (.getfield 28, 3) := by decide +kernel
theorem dX3_findRests_53 : decode cX3_findRests 53 = .ok (.if_icmp .ge 61, 3) := by decide +kernel
theorem dX3_findRests_56 : decode cX3_findRests 56 = .ok (.aload_n 0, 1) := by decide +kernel
theorem dX3_findRests_57 : decode cX3_findRests 57 = .ok (.iconst 0, 1) := by decide +kernel
theorem dX3_findRests_58 : decode cX3_findRests 58 = .ok (.iload 6, 2) := by decide +kernel
theorem dX3_findRests_60 : decode cX3_findRests 60 = .ok (.iload 7, 2) := by decide +kernel
theorem dX3_findRests_62 : decode cX3_findRests 62 = .ok (.aload_n 1, 1) := by decide +kernel
theorem dX3_findRests_63 : decode cX3_findRests 63 = .ok (.getfield 28, 3) := by decide +kernel
theorem dX3_findRests_66 : decode cX3_findRests 66 = .ok (.invokevirtual 35, 3) := by decide +kernel
theorem dX3_findRests_69 : decode cX3_findRests 69 = .ok (.ifCond .eq 39, 3) := by decide +kernel
theorem dX3_findRests_72 : decode cX3_findRests 72 = .ok (.aload_n 0, 1) := by decide +kernel
theorem dX3_findRests_73 : decode cX3_findRests 73 = .ok (.iconst 1, 1) := by decide +kernel
theorem dX3_findRests_74 : decode cX3_findRests 74 = .ok (.iload 7, 2) := by decide +kernel
theorem dX3_findRests_76 : decode cX3_findRests 76 = .ok (.iload 6, 2) := by decide +kernel
theorem dX3_findRests_78 : decode cX3_findRests 78 = .ok (.aload_n 1, 1) := by decide +kernel
theorem dX3_findRests_79 : decode cX3_findRests 79 = .ok (.getfield 28, 3) := by decide +kernel
theorem dX3_findRests_82 : decode cX3_findRests 82 = .ok (.invokevirtual 35, 3) := by decide +kernel
theorem dX3_findRests_85 : decode cX3_findRests 85 = .ok (.ifCond .eq 23, 3) := by decide +kernel
theorem dX3_findRests_88 : decode cX3_findRests 88 = .ok (.iload 5, 2) := by decide +kernel
theorem dX3_findRests_90 : decode cX3_findRests 90 = .ok (.ifCond .ne 15, 3) := by decide +kernel
theorem dX3_findRests_93 : decode cX3_findRests 93 = .ok (.aload_n 0, 1) := by decide +kernel
theorem dX3_findRests_94 : decode cX3_findRests 94 = .ok (.iload 6, 2) := by decide +kernel
theorem dX3_findRests_96 : decode cX3_findRests 96 = .ok (.putfield 21, 3) := by decide +kernel
theorem dX3_findRests_99 : decode cX3_findRests 99 = .ok (.aload_n 0, 1) := by decide +kernel
theorem dX3_findRests_100 : decode cX3_findRests 100 = .ok (.iload 7, 2) := by decide +kernel
theorem dX3_findRests_102 : decode cX3_findRests 102 = .ok (.putfield 25, 3) := by decide +kernel
theorem dX3_findRests_105 : decode cX3_findRests 105 = .ok (.iinc 5 1, 3) := by decide +kernel
theorem dX3_findRests_108 : decode cX3_findRests 108 = .ok (.iinc 7 1, 3) := by decide +kernel
theorem dX3_findRests_111 : decode cX3_findRests 111 = .ok (.goto (-64), 3) := by decide +kernel
theorem dX3_findRests_114 : decode cX3_findRests 114 = .ok (.iinc 6 1, 3) := by decide +kernel
theorem dX3_findRests_117 : decode cX3_findRests 117 = .ok (.goto (-82), 3) := by decide +kernel
theorem dX3_findRests_120 : decode cX3_findRests 120 = .ok (.iload 5, 2) := by decide +kernel
theorem dX3_findRests_122 : decode cX3_findRests 122 = .ok (.ireturn, 1) := by decide +kernel
theorem dX3_weigh_0 : decode cX3_weigh 0 = .ok (.iconst 1, 1) := by decide +kernel
theorem dX3_weigh_1 : decode cX3_weigh 1 = .ok (.iload 4, 2) := by decide +kernel
theorem dX3_weigh_3 : decode cX3_weigh 3 = .ok (.ishl, 1) := by decide +kernel
theorem dX3_weigh_4 : decode cX3_weigh 4 = .ok (.iconst 1, 1) := by decide +kernel
theorem dX3_weigh_5 : decode cX3_weigh 5 = .ok (.iload 5, 2) := by decide +kernel
theorem dX3_weigh_7 : decode cX3_weigh 7 = .ok (.ishl, 1) := by decide +kernel
theorem dX3_weigh_8 : decode cX3_weigh 8 = .ok (.ior, 1) := by decide +kernel
theorem dX3_weigh_9 : decode cX3_weigh 9 = .ok (.istore 6, 2) := by decide +kernel
theorem dX3_weigh_11 : decode cX3_weigh 11 = .ok (.aload_n 1, 1) := by decide +kernel
theorem dX3_weigh_12 : decode cX3_weigh 12 = .ok (.aload_n 2, 1) := by decide +kernel
theorem dX3_weigh_13 : decode cX3_weigh 13 = .ok (.iload_n 3, 1) := by decide +kernel
theorem dX3_weigh_14 : decode cX3_weigh 14 = .ok (.iload 6, 2) := by decide +kernel
theorem dX3_weigh_16 : decode cX3_weigh 16 = .ok (.iconst 1, 1) := by decide +kernel
theorem dX3_weigh_17 : decode cX3_weigh 17 = .ok (.iconst 0, 1) := by decide +kernel
theorem dX3_weigh_18 : decode cX3_weigh 18 = .ok (.invokevirtual 39, 3) := by decide +kernel
theorem dX3_weigh_21 : decode cX3_weigh 21 = .ok (.istore 7, 2) := by decide +kernel
theorem dX3_weigh_23 : decode cX3_weigh 23 = .ok (.aload_n 1, 1) := by decide +kernel
theorem dX3_weigh_24 : decode cX3_weigh 24 = .ok (.getfield 43, 3) := by decide +kernel
theorem dX3_weigh_27 : decode cX3_weigh 27 = .ok (.iload_n 3, 1) := by decide +kernel
theorem dX3_weigh_28 : decode cX3_weigh 28 = .ok (.iaload, 1) := by decide +kernel
theorem dX3_weigh_29 : decode cX3_weigh 29 = .ok (.iconst 2, 1) := by decide +kernel
theorem dX3_weigh_30 : decode cX3_weigh 30 = .ok (.if_icmp .lt 16, 3) := by decide +kernel
theorem dX3_weigh_33 : decode cX3_weigh 33 = .ok (.aload_n 1, 1) := by decide +kernel
theorem dX3_weigh_34 : decode cX3_weigh 34 = .ok (.iload 6, 2) := by decide +kernel
theorem dX3_weigh_36 : decode cX3_weigh 36 = .ok (.invokevirtual 47, 3) := by decide +kernel
theorem dX3_weigh_39 : decode cX3_weigh 39 = .ok (.ifCond .ne 7, 3) := by decide +kernel
theorem dX3_weigh_42 : decode cX3_weigh 42 = .ok (.iconst 1, 1) := by decide +kernel
theorem dX3_weigh_43 : decode cX3_weigh 43 = .ok (.goto 4, 3) := by decide +kernel
theorem dX3_weigh_46 : decode cX3_weigh 46 = .ok (.iconst 0, 1) := by decide +kernel
theorem dX3_weigh_47 : decode cX3_weigh 47 = .ok (.istore 8, 2) := by decide +kernel
theorem dX3_weigh_49 : decode cX3_weigh 49 = .ok (.iload 8, 2) := by decide +kernel
theorem dX3_weigh_51 : decode cX3_weigh 51 = .ok (.ifCond .eq 16, 3) := by decide +kernel
theorem dX3_weigh_54 : decode cX3_weigh 54 = .ok (.aload_n 1, 1) := by decide +kernel
theorem dX3_weigh_55 : decode cX3_weigh 55 = .ok (.aload_n 2, 1) := by decide +kernel
theorem dX3_weigh_56 : decode cX3_weigh 56 = .ok (.iload_n 3, 1) := by decide +kernel
theorem dX3_weigh_57 : decode cX3_weigh 57 = .ok (.iload 6, 2) := by decide +kernel
theorem dX3_weigh_59 : decode cX3_weigh 59 = .ok (.iconst 2, 1) := by decide +kernel
theorem dX3_weigh_60 : decode cX3_weigh 60 = .ok (.iconst 0, 1) := by decide +kernel
theorem dX3_weigh_61 : decode cX3_weigh 61 = .ok (.invokevirtual 39, 3) := by decide +kernel
theorem dX3_weigh_64 : decode cX3_weigh 64 = .ok (.goto 4, 3) := by decide +kernel
theorem dX3_weigh_67 : decode cX3_weigh 67 = .ok (.iconst 0, 1) := by decide +kernel
theorem dX3_weigh_68 : decode cX3_weigh 68 = .ok (.istore 9, 2) := by decide +kernel
theorem dX3_weigh_70 : decode cX3_weigh 70 = .ok (.aload_n 0, 1) := by decide +kernel
theorem dX3_weigh_71 : decode cX3_weigh 71 = .ok (.getfield 13, 3) := by decide +kernel
theorem dX3_weigh_74 : decode cX3_weigh 74 = .ok (.iconst 0, 1) := by decide +kernel
theorem dX3_weigh_75 : decode cX3_weigh 75 = .ok (.aaload, 1) := by decide +kernel
theorem dX3_weigh_76 : decode cX3_weigh 76 = .ok (.iload_n 3, 1) := by decide +kernel
theorem dX3_weigh_77 : decode cX3_weigh 77 = .ok (.aload_n 1, 1) := by decide +kernel
theorem dX3_weigh_78 : decode cX3_weigh 78 = .ok (.iload 4, 2) := by decide +kernel
theorem dX3_weigh_80 : decode cX3_weigh 80 = .ok (.iload_n 3, 1) := by decide +kernel
theorem dX3_weigh_81 : decode cX3_weigh 81 = .ok (.iload 7, 2) := by decide +kernel
theorem dX3_weigh_83 : decode cX3_weigh 83 = .ok (.invokestatic 51, 3) := by decide +kernel
theorem dX3_weigh_86 : decode cX3_weigh 86 = .ok (.iastore, 1) := by decide +kernel
theorem dX3_weigh_87 : decode cX3_weigh 87 = .ok (.aload_n 0, 1) := by decide +kernel
theorem dX3_weigh_88 : decode cX3_weigh 88 = .ok (.getfield 13, 3) := by decide +kernel
theorem dX3_weigh_91 : decode cX3_weigh 91 = .ok (.iconst 1, 1) := by decide +kernel
theorem dX3_weigh_92 : decode cX3_weigh 92 = .ok (.aaload, 1) := by decide +kernel
theorem dX3_weigh_93 : decode cX3_weigh 93 = .ok (.iload_n 3, 1) := by decide +kernel
theorem dX3_weigh_94 : decode cX3_weigh 94 = .ok (.aload_n 1, 1) := by decide +kernel
theorem dX3_weigh_95 : decode cX3_weigh 95 = .ok (.iload 5, 2) := by decide +kernel
theorem dX3_weigh_97 : decode cX3_weigh 97 = .ok (.iload_n 3, 1) := by decide +kernel
theorem dX3_weigh_98 : decode cX3_weigh 98 = .ok (.iload 7, 2) := by decide +kernel
theorem dX3_weigh_100 : decode cX3_weigh 100 = .ok (.invokestatic 51, 3) := by decide +kernel
theorem dX3_weigh_103 : decode cX3_weigh 103 = .ok (.iastore, 1) := by decide +kernel
theorem dX3_weigh_104 : decode cX3_weigh 104 = .ok (.aload_n 0, 1) := by decide +kernel
theorem dX3_weigh_105 : decode cX3_weigh 105 = .ok (.getfield 18, 3) := by decide +kernel
theorem dX3_weigh_108 : decode cX3_weigh 108 = .ok (.iconst 0, 1) := by decide +kernel
theorem dX3_weigh_109 : decode cX3_weigh 109 = .ok (.aaload, 1) := by decide +kernel
theorem dX3_weigh_110 : decode cX3_weigh 110 = .ok (.iload_n 3, 1) := by decide +kernel
theorem dX3_weigh_111 : decode cX3_weigh 111 = .ok (.aload_n 1, 1) := by decide +kernel
theorem dX3_weigh_112 : decode cX3_weigh 112 = .ok (.iload 4, 2) := by decide +kernel
theorem dX3_weigh_114 : decode cX3_weigh 114 = .ok (.iload_n 3, 1) := by decide +kernel
theorem dX3_weigh_115 : decode cX3_weigh 115 = .ok (.iload 9, 2) := by decide +kernel
theorem dX3_weigh_117 : decode cX3_weigh 117 = .ok (.invokestatic 51, 3) := by decide +kernel
theorem dX3_weigh_120 : decode cX3_weigh 120 = .ok (.iastore, 1) := by decide +kernel
theorem dX3_weigh_121 : decode cX3_weigh 121 = .ok (.aload_n 0, 1) := by decide +kernel
theorem dX3_weigh_122 : decode cX3_weigh 122 = .ok (.getfield 18, 3) := by decide +kernel
theorem dX3_weigh_125 : decode cX3_weigh 125 = .ok (.iconst 1, 1) := by decide +kernel
theorem dX3_weigh_126 : decode cX3_weigh 126 = .ok (.aaload, 1) := by decide +kernel
theorem dX3_weigh_127 : decode cX3_weigh 127 = .ok (.iload_n 3, 1) := by decide +kernel
theorem dX3_weigh_128 : decode cX3_weigh 128 = .ok (.aload_n 1, 1) := by decide +kernel
theorem dX3_weigh_129 : decode cX3_weigh 129 = .ok (.iload 5, 2) := by decide +kernel
theorem dX3_weigh_131 : decode cX3_weigh 131 = .ok (.iload_n 3, 1) := by decide +kernel
theorem dX3_weigh_132 : decode cX3_weigh 132 = .ok (.iload 9, 2) := by decide +kernel
theorem dX3_weigh_134 : decode cX3_weigh 134 = .ok (.invokestatic 51, 3) := by decide +kernel
theorem dX3_weigh_137 : decode cX3_weigh 137 = .ok (.iastore, 1) := by decide +kernel
theorem dX3_weigh_138 : decode cX3_weigh 138 = .ok (.return_, 1) := by decide +kernel
theorem dX3_worth_0 : decode cX3_worth 0 = .ok (.iload_n 3, 1) := by decide +kernel
theorem dX3_worth_1 : decode cX3_worth 1 = .ok (.iload_n 1, 1) := by decide +kernel
theorem dX3_worth_2 : decode cX3_worth 2 = .ok (.ishr, 1) := by decide +kernel
theorem dX3_worth_3 : decode cX3_worth 3 = .ok (.iconst 1, 1) := by decide +kernel
theorem dX3_worth_4 : decode cX3_worth 4 = .ok (.iand, 1) := by decide +kernel
theorem dX3_worth_5 : decode cX3_worth 5 = .ok (.ifCond .eq 7, 3) := by decide +kernel
theorem dX3_worth_8 : decode cX3_worth 8 = .ok (.iconst 1, 1) := by decide +kernel
theorem dX3_worth_9 : decode cX3_worth 9 = .ok (.goto 4, 3) := by decide +kernel
theorem dX3_worth_12 : decode cX3_worth 12 = .ok (.iconst 0, 1) := by decide +kernel
theorem dX3_worth_13 : decode cX3_worth 13 = .ok (.istore 4, 2) := by decide +kernel
theorem dX3_worth_15 : decode cX3_worth 15 = .ok (.aload_n 0, 1) := by decide +kernel
theorem dX3_worth_16 : decode cX3_worth 16 = .ok (.iload_n 1, 1) := by decide +kernel
theorem dX3_worth_17 : decode cX3_worth 17 = .ok (.iload_n 2, 1) := by decide +kernel
theorem dX3_worth_18 : decode cX3_worth 18 = .ok (.invokevirtual 55, 3) := by decide +kernel
theorem dX3_worth_21 : decode cX3_worth 21 = .ok (.iload 4, 2) := by decide +kernel
theorem dX3_worth_23 : decode cX3_worth 23 = .ok (.ifCond .eq 7, 3) := by decide +kernel
theorem dX3_worth_26 : decode cX3_worth 26 = .ok (.iconst 0, 1) := by decide +kernel
theorem dX3_worth_27 : decode cX3_worth 27 = .ok (.goto 6, 3) := by decide +kernel
theorem dX3_worth_30 : decode cX3_worth 30 = .ok (.sipush 1000, 3) := by decide +kernel
theorem dX3_worth_33 : decode cX3_worth 33 = .ok (.iadd, 1) := by decide +kernel
theorem dX3_worth_34 : decode cX3_worth 34 = .ok (.ireturn, 1) := by decide +kernel
theorem dX3_staysAt_0 : decode cX3_staysAt 0 = .ok (.aload_n 0, 1) := by decide +kernel
theorem dX3_staysAt_1 : decode cX3_staysAt 1 = .ok (.iload_n 1, 1) := by decide +kernel
theorem dX3_staysAt_2 : decode cX3_staysAt 2 = .ok (.iload_n 2, 1) := by decide +kernel
theorem dX3_staysAt_3 : decode cX3_staysAt 3 = .ok (.iload_n 3, 1) := by decide +kernel
theorem dX3_staysAt_4 : decode cX3_staysAt 4 = .ok (.invokevirtual 59, 3) := by decide +kernel
theorem dX3_staysAt_7 : decode cX3_staysAt 7 = .ok (.istore 5, 2) := by decide +kernel
theorem dX3_staysAt_9 : decode cX3_staysAt 9 = .ok (.iconst 0, 1) := by decide +kernel
theorem dX3_staysAt_10 : decode cX3_staysAt 10 = .ok (.istore 6, 2) := by decide +kernel
theorem dX3_staysAt_12 : decode cX3_staysAt 12 = .ok (.iload 6, 2) := by decide +kernel
theorem dX3_staysAt_14 : decode cX3_staysAt 14 = .ok (.iload 4, 2) := by decide +kernel
theorem dX3_staysAt_16 : decode cX3_staysAt 16 = .ok (.if_icmp .ge 24, 3) := by decide +kernel
theorem dX3_staysAt_19 : decode cX3_staysAt 19 = .ok (.aload_n 0, 1) := by decide +kernel
theorem dX3_staysAt_20 : decode cX3_staysAt 20 = .ok (.iload_n 1, 1) := by decide +kernel
theorem dX3_staysAt_21 : decode cX3_staysAt 21 = .ok (.iload 6, 2) := by decide +kernel
theorem dX3_staysAt_23 : decode cX3_staysAt 23 = .ok (.iload_n 3, 1) := by decide +kernel
theorem dX3_staysAt_24 : decode cX3_staysAt 24 = .ok (.invokevirtual 59, 3) := by decide +kernel
theorem dX3_staysAt_27 : decode cX3_staysAt 27 = .ok (.iload 5, 2) := by decide +kernel
theorem dX3_staysAt_29 : decode cX3_staysAt 29 = .ok (.if_icmp .ge 5, 3) := by decide +kernel
theorem dX3_staysAt_32 : decode cX3_staysAt 32 = .ok (.iconst 0, 1) := by decide +kernel
theorem dX3_staysAt_33 : decode cX3_staysAt 33 = .ok (.ireturn, 1) := by decide +kernel
theorem dX3_staysAt_34 : decode cX3_staysAt 34 = .ok (.iinc 6 1, 3) := by decide +kernel
theorem dX3_staysAt_37 : decode cX3_staysAt 37 = .ok (.goto (-25), 3) := by decide +kernel
theorem dX3_staysAt_40 : decode cX3_staysAt 40 = .ok (.iconst 1, 1) := by decide +kernel
theorem dX3_staysAt_41 : decode cX3_staysAt 41 = .ok (.ireturn, 1) := by decide +kernel
theorem dX3_worthAt_0 : decode cX3_worthAt 0 = .ok (.iload_n 2, 1) := by decide +kernel
theorem dX3_worthAt_1 : decode cX3_worthAt 1 = .ok (.iload_n 3, 1) := by decide +kernel
theorem dX3_worthAt_2 : decode cX3_worthAt 2 = .ok (.if_icmp .ne 14, 3) := by decide +kernel
theorem dX3_worthAt_5 : decode cX3_worthAt 5 = .ok (.aload_n 0, 1) := by decide +kernel
theorem dX3_worthAt_6 : decode cX3_worthAt 6 = .ok (.getfield 18, 3) := by decide +kernel
theorem dX3_worthAt_9 : decode cX3_worthAt 9 = .ok (.iload_n 1, 1) := by decide +kernel
theorem dX3_worthAt_10 : decode cX3_worthAt 10 = .ok (.aaload, 1) := by decide +kernel
theorem dX3_worthAt_11 : decode cX3_worthAt 11 = .ok (.iload_n 2, 1) := by decide +kernel
theorem dX3_worthAt_12 : decode cX3_worthAt 12 = .ok (.iaload, 1) := by decide +kernel
theorem dX3_worthAt_13 : decode cX3_worthAt 13 = .ok (.goto 11, 3) := by decide +kernel
theorem dX3_worthAt_16 : decode cX3_worthAt 16 = .ok (.aload_n 0, 1) := by decide +kernel
theorem dX3_worthAt_17 : decode cX3_worthAt 17 = .ok (.getfield 13, 3) := by decide +kernel
theorem dX3_worthAt_20 : decode cX3_worthAt 20 = .ok (.iload_n 1, 1) := by decide +kernel
theorem dX3_worthAt_21 : decode cX3_worthAt 21 = .ok (.aaload, 1) := by decide +kernel
theorem dX3_worthAt_22 : decode cX3_worthAt 22 = .ok (.iload_n 2, 1) := by decide +kernel
theorem dX3_worthAt_23 : decode cX3_worthAt 23 = .ok (.iaload, 1) := by decide +kernel
theorem dX3_worthAt_24 : decode cX3_worthAt 24 = .ok (.ireturn, 1) := by decide +kernel
theorem dX4_init_0 : decode cX4_init 0 = .ok (.aload_n 0, 1) := by decide +kernel
theorem dX4_init_1 : decode cX4_init 1 = .ok (.invokespecial 1, 3) := by decide +kernel
theorem dX4_init_4 : decode cX4_init 4 = .ok (.aload_n 0, 1) := by decide +kernel
theorem dX4_init_5 : decode cX4_init 5 = .ok (.sipush 902, 3) := by decide +kernel
theorem dX4_init_8 : decode cX4_init 8 = .ok (.newarray .int, 2) := by decide +kernel
theorem dX4_init_10 : decode cX4_init 10 = .ok (.putfield 11, 3) := by decide +kernel
theorem dX4_init_13 : decode cX4_init 13 = .ok (.aload_n 0, 1) := by decide +kernel
theorem dX4_init_14 : decode cX4_init 14 = .ok (.iconst 0, 1) := by decide +kernel
theorem dX4_init_15 : decode cX4_init 15 = .ok (.putfield 15, 3) := by decide +kernel
theorem dX4_init_18 : decode cX4_init 18 = .ok (.aload_n 0, 1) := by decide +kernel
theorem dX4_init_19 : decode cX4_init 19 = .ok (.iconst 0, 1) := by decide +kernel
theorem dX4_init_20 : decode cX4_init 20 = .ok (.putfield 19, 3) := by decide +kernel
theorem dX4_init_23 : decode cX4_init 23 = .ok (.return_, 1) := by decide +kernel
theorem dX4_begin_0 : decode cX4_begin 0 = .ok (.aload_n 0, 1) := by decide +kernel
theorem dX4_begin_1 : decode cX4_begin 1 = .ok (.iconst 0, 1) := by decide +kernel
theorem dX4_begin_2 : decode cX4_begin 2 = .ok (.putfield 15, 3) := by decide +kernel
theorem dX4_begin_5 : decode cX4_begin 5 = .ok (.aload_n 0, 1) := by decide +kernel
theorem dX4_begin_6 : decode cX4_begin 6 = .ok (.iconst 0, 1) := by decide +kernel
theorem dX4_begin_7 : decode cX4_begin 7 = .ok (.putfield 19, 3) := by decide +kernel
theorem dX4_begin_10 : decode cX4_begin 10 = .ok (.aload_n 1, 1) := by decide +kernel
theorem dX4_begin_11 : decode cX4_begin 11 = .ok (.aload_n 0, 1) := by decide +kernel
theorem dX4_begin_12 : decode cX4_begin 12 = .ok (.getfield 11, 3) := by decide +kernel
theorem dX4_begin_15 : decode cX4_begin 15 = .ok (.iconst 0, 1) := by decide +kernel
theorem dX4_begin_16 : decode cX4_begin 16 = .ok (.invokevirtual 22, 3) := by decide +kernel
theorem dX4_begin_19 : decode cX4_begin 19 = .ok (.return_, 1) := by decide +kernel
theorem dX4_add_0 : decode cX4_add 0 = .ok (.aload_n 0, 1) := by decide +kernel
theorem dX4_add_1 : decode cX4_add 1 = .ok (.getfield 15, 3) := by decide +kernel
theorem dX4_add_4 : decode cX4_add 4 = .ok (.bipush 40, 2) := by decide +kernel
theorem dX4_add_6 : decode cX4_add 6 = .ok (.if_icmp .lt 26, 3) := by decide +kernel
theorem dX4_add_9 : decode cX4_add 9 = .ok (.aload_n 0, 1) := by decide +kernel
theorem dX4_add_10 : decode cX4_add 10 = .ok (.getfield 11, 3) := by decide +kernel
theorem dX4_add_13 : decode cX4_add 13 = .ok (.bipush 22, 2) := by decide +kernel
theorem dX4_add_15 : decode cX4_add 15 = .ok (.aload_n 0, 1) := by decide +kernel
theorem dX4_add_16 : decode cX4_add 16 = .ok (.getfield 11, 3) := by decide +kernel
theorem dX4_add_19 : decode cX4_add 19 = .ok (.iconst 0, 1) := by decide +kernel
theorem dX4_add_20 : decode cX4_add 20 = .ok (.sipush 880, 3) := by decide +kernel
theorem dX4_add_23 : decode cX4_add 23 = .ok (.invokestatic 26, 3) := by decide +kernel
theorem dX4_add_26 : decode cX4_add 26 = .ok (.aload_n 0, 1) := by decide +kernel
theorem dX4_add_27 : decode cX4_add 27 = .ok (.bipush 39, 2) := by decide +kernel
theorem dX4_add_29 : decode cX4_add 29 = .ok (.putfield 15, 3) := by decide +kernel
theorem dX4_add_32 : decode cX4_add 32 = .ok (.aload_n 0, 1) := by decide +kernel
theorem dX4_add_33 : decode cX4_add 33 = .ok (.dup, 1) := by decide +kernel
theorem dX4_add_34 : decode cX4_add 34 = .ok (.getfield 15, 3) := by decide +kernel
theorem dX4_add_37 : decode cX4_add 37 = .ok (.iconst 1, 1) := by decide +kernel
theorem dX4_add_38 : decode cX4_add 38 = .ok (.iadd, 1) := by decide +kernel
theorem dX4_add_39 : decode cX4_add 39 = .ok (.putfield 15, 3) := by decide +kernel
theorem dX4_add_42 : decode cX4_add 42 = .ok (.aload_n 0, 1) := by decide +kernel
theorem dX4_add_43 : decode cX4_add 43 = .ok (.iconst 0, 1) := by decide +kernel
theorem dX4_add_44 : decode cX4_add 44 = .ok (.putfield 19, 3) := by decide +kernel
theorem dX4_add_47 : decode cX4_add 47 = .ok (.aload_n 1, 1) := by decide +kernel
theorem dX4_add_48 : decode cX4_add 48 = .ok (.aload_n 0, 1) := by decide +kernel
theorem dX4_add_49 : decode cX4_add 49 = .ok (.getfield 11, 3) := by decide +kernel
theorem dX4_add_52 : decode cX4_add 52 = .ok (.aload_n 0, 1) := by decide +kernel
theorem dX4_add_53 : decode cX4_add 53 = .ok (.getfield 15, 3) := by decide +kernel
theorem dX4_add_56 : decode cX4_add 56 = .ok (.bipush 22, 2) := by decide +kernel
theorem dX4_add_58 : decode cX4_add 58 = .ok (.imul, 1) := by decide +kernel
theorem dX4_add_59 : decode cX4_add 59 = .ok (.invokevirtual 22, 3) := by decide +kernel
theorem dX4_add_62 : decode cX4_add 62 = .ok (.return_, 1) := by decide +kernel
theorem dX4_stepBack_0 : decode cX4_stepBack 0 = .ok (.aload_n 0, 1) := by decide +kernel
theorem dX4_stepBack_1 : decode cX4_stepBack 1 = .ok (.getfield 15, 3) := by decide +kernel
theorem dX4_stepBack_4 : decode cX4_stepBack 4 = .ok (.ifCond .ne 5, 3) := by decide +kernel
theorem dX4_stepBack_7 : decode cX4_stepBack 7 = .ok (.iconst 0, 1) := by decide +kernel
theorem dX4_stepBack_8 : decode cX4_stepBack 8 = .ok (.ireturn, 1) := by decide +kernel
theorem dX4_stepBack_9 : decode cX4_stepBack 9 = .ok (.aload_n 0, 1) := by decide +kernel
theorem dX4_stepBack_10 : decode cX4_stepBack 10 = .ok (.dup, 1) := by decide +kernel
theorem dX4_stepBack_11 : decode cX4_stepBack 11 = .ok (.getfield 15, 3) := by decide +kernel
theorem dX4_stepBack_14 : decode cX4_stepBack 14 = .ok (.iconst 1, 1) := by decide +kernel
theorem dX4_stepBack_15 : decode cX4_stepBack 15 = .ok (.isub, 1) := by decide +kernel
theorem dX4_stepBack_16 : decode cX4_stepBack 16 = .ok (.putfield 15, 3) := by decide +kernel
theorem dX4_stepBack_19 : decode cX4_stepBack 19 = .ok (.aload_n 0, 1) := by decide +kernel
theorem dX4_stepBack_20 : decode cX4_stepBack 20 = .ok (.dup, 1) := by decide +kernel
theorem dX4_stepBack_21 : decode cX4_stepBack 21 = .ok (.getfield 19, 3) := by decide +kernel
theorem dX4_stepBack_24 : decode cX4_stepBack 24 = .ok (.iconst 1, 1) := by decide +kernel
theorem dX4_stepBack_25 : decode cX4_stepBack 25 = .ok (.iadd, 1) := by decide +kernel
theorem dX4_stepBack_26 : decode cX4_stepBack 26 = .ok (.putfield 19, 3) := by decide +kernel
theorem dX4_stepBack_29 : decode cX4_stepBack 29 = .ok (.aload_n 1, 1) := by decide +kernel
theorem dX4_stepBack_30 : decode cX4_stepBack 30 = .ok (.aload_n 0, 1) := by decide +kernel
theorem dX4_stepBack_31 : decode cX4_stepBack 31 = .ok (.getfield 11, 3) := by decide +kernel
theorem dX4_stepBack_34 : decode cX4_stepBack 34 = .ok (.aload_n 0, 1) := by decide +kernel
theorem dX4_stepBack_35 : decode cX4_stepBack 35 = .ok (.getfield 15, 3) := by decide +kernel
theorem dX4_stepBack_38 : decode cX4_stepBack 38 = .ok (.bipush 22, 2) := by decide +kernel
theorem dX4_stepBack_40 : decode cX4_stepBack 40 = .ok (.imul, 1) := by decide +kernel
theorem dX4_stepBack_41 : decode cX4_stepBack 41 = .ok (.invokevirtual 32, 3) := by decide +kernel
theorem dX4_stepBack_44 : decode cX4_stepBack 44 = .ok (.iconst 1, 1) := by decide +kernel
theorem dX4_stepBack_45 : decode cX4_stepBack 45 = .ok (.ireturn, 1) := by decide +kernel
theorem dX4_stepOn_0 : decode cX4_stepOn 0 = .ok (.aload_n 0, 1) := by decide +kernel
theorem dX4_stepOn_1 : decode cX4_stepOn 1 = .ok (.getfield 19, 3) := by decide +kernel
theorem dX4_stepOn_4 : decode cX4_stepOn 4 = .ok (.ifCond .ne 5, 3) := by decide +kernel
theorem dX4_stepOn_7 : decode cX4_stepOn 7 = .ok (.iconst 0, 1) := by decide +kernel
theorem dX4_stepOn_8 : decode cX4_stepOn 8 = .ok (.ireturn, 1) := by decide +kernel
theorem dX4_stepOn_9 : decode cX4_stepOn 9 = .ok (.aload_n 0, 1) := by decide +kernel
theorem dX4_stepOn_10 : decode cX4_stepOn 10 = .ok (.dup, 1) := by decide +kernel
theorem dX4_stepOn_11 : decode cX4_stepOn 11 = .ok (.getfield 19, 3) := by decide +kernel
theorem dX4_stepOn_14 : decode cX4_stepOn 14 = .ok (.iconst 1, 1) := by decide +kernel
theorem dX4_stepOn_15 : decode cX4_stepOn 15 = .ok (.isub, 1) := by decide +kernel
theorem dX4_stepOn_16 : decode cX4_stepOn 16 = .ok (.putfield 19, 3) := by decide +kernel
theorem dX4_stepOn_19 : decode cX4_stepOn 19 = .ok (.aload_n 0, 1) := by decide +kernel
theorem dX4_stepOn_20 : decode cX4_stepOn 20 = .ok (.dup, 1) := by decide +kernel
theorem dX4_stepOn_21 : decode cX4_stepOn 21 = .ok (.getfield 15, 3) := by decide +kernel
theorem dX4_stepOn_24 : decode cX4_stepOn 24 = .ok (.iconst 1, 1) := by decide +kernel
theorem dX4_stepOn_25 : decode cX4_stepOn 25 = .ok (.iadd, 1) := by decide +kernel
theorem dX4_stepOn_26 : decode cX4_stepOn 26 = .ok (.putfield 15, 3) := by decide +kernel
theorem dX4_stepOn_29 : decode cX4_stepOn 29 = .ok (.aload_n 1, 1) := by decide +kernel
theorem dX4_stepOn_30 : decode cX4_stepOn 30 = .ok (.aload_n 0, 1) := by decide +kernel
theorem dX4_stepOn_31 : decode cX4_stepOn 31 = .ok (.getfield 11, 3) := by decide +kernel
theorem dX4_stepOn_34 : decode cX4_stepOn 34 = .ok (.aload_n 0, 1) := by decide +kernel
theorem dX4_stepOn_35 : decode cX4_stepOn 35 = .ok (.getfield 15, 3) := by decide +kernel
theorem dX4_stepOn_38 : decode cX4_stepOn 38 = .ok (.bipush 22, 2) := by decide +kernel
theorem dX4_stepOn_40 : decode cX4_stepOn 40 = .ok (.imul, 1) := by decide +kernel
theorem dX4_stepOn_41 : decode cX4_stepOn 41 = .ok (.invokevirtual 32, 3) := by decide +kernel
theorem dX4_stepOn_44 : decode cX4_stepOn 44 = .ok (.iconst 1, 1) := by decide +kernel
theorem dX4_stepOn_45 : decode cX4_stepOn 45 = .ok (.ireturn, 1) := by decide +kernel
theorem dX5_init_0 : decode cX5_init 0 = .ok (.aload_n 0, 1) := by decide +kernel
theorem dX5_init_1 : decode cX5_init 1 = .ok (.invokespecial 3, 3) := by decide +kernel
theorem dX5_init_4 : decode cX5_init 4 = .ok (.aload_n 0, 1) := by decide +kernel
theorem dX5_init_5 : decode cX5_init 5 = .ok (.new 9, 3) := by decide +kernel
theorem dX5_init_8 : decode cX5_init 8 = .ok (.dup, 1) := by decide +kernel
theorem dX5_init_9 : decode cX5_init 9 = .ok (.invokespecial 11, 3) := by decide +kernel
theorem dX5_init_12 : decode cX5_init 12 = .ok (.putfield 12, 3) := by decide +kernel
theorem dX5_init_15 : decode cX5_init 15 = .ok (.aload_n 0, 1) := by decide +kernel
theorem dX5_init_16 : decode cX5_init 16 = .ok (.bipush 20, 2) := by decide +kernel
theorem dX5_init_18 : decode cX5_init 18 = .ok (.newarray .long, 2) := by decide +kernel
theorem dX5_init_20 : decode cX5_init 20 = .ok (.putfield 18, 3) := by decide +kernel
theorem dX5_init_23 : decode cX5_init 23 = .ok (.aload_n 0, 1) := by decide +kernel
theorem dX5_init_24 : decode cX5_init 24 = .ok (.iconst 0, 1) := by decide +kernel
theorem dX5_init_25 : decode cX5_init 25 = .ok (.putfield 22, 3) := by decide +kernel
theorem dX5_init_28 : decode cX5_init 28 = .ok (.aload_n 0, 1) := by decide +kernel
theorem dX5_init_29 : decode cX5_init 29 = .ok (.iconst 0, 1) := by decide +kernel
theorem dX5_init_30 : decode cX5_init 30 = .ok (.putfield 26, 3) := by decide +kernel
theorem dX5_init_33 : decode cX5_init 33 = .ok (.aload_n 0, 1) := by decide +kernel
theorem dX5_init_34 : decode cX5_init 34 = .ok (.bipush 102, 2) := by decide +kernel
theorem dX5_init_36 : decode cX5_init 36 = .ok (.putfield 29, 3) := by decide +kernel
theorem dX5_init_39 : decode cX5_init 39 = .ok (.aload_n 0, 1) := by decide +kernel
theorem dX5_init_40 : decode cX5_init 40 = .ok (.iconst 0, 1) := by decide +kernel
theorem dX5_init_41 : decode cX5_init 41 = .ok (.putfield 32, 3) := by decide +kernel
theorem dX5_init_44 : decode cX5_init 44 = .ok (.aload_n 0, 1) := by decide +kernel
theorem dX5_init_45 : decode cX5_init 45 = .ok (.lconst 0, 1) := by decide +kernel
theorem dX5_init_46 : decode cX5_init 46 = .ok (.putfield 35, 3) := by decide +kernel
theorem dX5_init_49 : decode cX5_init 49 = .ok (.aload_n 0, 1) := by decide +kernel
theorem dX5_init_50 : decode cX5_init 50 = .ok (.iconst 0, 1) := by decide +kernel
theorem dX5_init_51 : decode cX5_init 51 = .ok (.putfield 39, 3) := by decide +kernel
theorem dX5_init_54 : decode cX5_init 54 = .ok (.aload_n 0, 1) := by decide +kernel
theorem dX5_init_55 : decode cX5_init 55 = .ok (.iconst (-1), 1) := by decide +kernel
theorem dX5_init_56 : decode cX5_init 56 = .ok (.putfield 42, 3) := by decide +kernel
theorem dX5_init_59 : decode cX5_init 59 = .ok (.iconst 1, 1) := by decide +kernel
theorem dX5_init_60 : decode cX5_init 60 = .ok (.istore_n 1, 1) := by decide +kernel
theorem dX5_init_61 : decode cX5_init 61 = .ok (.iconst 0, 1) := by decide +kernel
theorem dX5_init_62 : decode cX5_init 62 = .ok (.istore_n 2, 1) := by decide +kernel
theorem dX5_init_63 : decode cX5_init 63 = .ok (.iload_n 2, 1) := by decide +kernel
theorem dX5_init_64 : decode cX5_init 64 = .ok (.ldc 45, 2) := by decide +kernel
theorem dX5_init_66 : decode cX5_init 66 = .ok (.invokevirtual 47, 3) := by decide +kernel
theorem dX5_init_69 : decode cX5_init 69 = .ok (.if_icmp .ge 59, 3) := by decide +kernel
theorem dX5_init_72 : decode cX5_init 72 = .ok (.iload_n 1, 1) := by decide +kernel
theorem dX5_init_73 : decode cX5_init 73 = .ok (.aload_n 0, 1) := by decide +kernel
theorem dX5_init_74 : decode cX5_init 74 = .ok (.getfield 18, 3) := by decide +kernel
theorem dX5_init_77 : decode cX5_init 77 = .ok (.arraylength, 1) := by decide +kernel
theorem dX5_init_78 : decode cX5_init 78 = .ok (.if_icmp .ge 50, 3) := by decide +kernel
theorem dX5_init_81 : decode cX5_init 81 = .ok (.ldc 45, 2) := by decide +kernel
theorem dX5_init_83 : decode cX5_init 83 = .ok (.iload_n 2, 1) := by decide +kernel
theorem dX5_init_84 : decode cX5_init 84 = .ok (.invokevirtual 53, 3) := by decide +kernel
theorem dX5_init_87 : decode cX5_init 87 = .ok (.istore_n 3, 1) := by decide +kernel
theorem dX5_init_88 : decode cX5_init 88 = .ok (.iload_n 3, 1) := by decide +kernel
theorem dX5_init_89 : decode cX5_init 89 = .ok (.bipush 32, 2) := by decide +kernel
theorem dX5_init_91 : decode cX5_init 91 = .ok (.if_icmp .ne 9, 3) := by decide +kernel
theorem dX5_init_94 : decode cX5_init 94 = .ok (.iinc 1 1, 3) := by decide +kernel
theorem dX5_init_97 : decode cX5_init 97 = .ok (.goto 25, 3) := by decide +kernel
theorem dX5_init_100 : decode cX5_init 100 = .ok (.aload_n 0, 1) := by decide +kernel
theorem dX5_init_101 : decode cX5_init 101 = .ok (.getfield 18, 3) := by decide +kernel
theorem dX5_init_104 : decode cX5_init 104 = .ok (.iload_n 1, 1) := by decide +kernel
theorem dX5_init_105 : decode cX5_init 105 = .ok (.aload_n 0, 1) := by decide +kernel
theorem dX5_init_106 : decode cX5_init 106 = .ok (.getfield 18, 3) := by decide +kernel
theorem dX5_init_109 : decode cX5_init 109 = .ok (.iload_n 1, 1) := by decide +kernel
theorem dX5_init_110 : decode cX5_init 110 = .ok (.laload, 1) := by decide +kernel
theorem dX5_init_111 : decode cX5_init 111 = .ok (.ldc2_w 57, 3) := by decide +kernel
theorem dX5_init_114 : decode cX5_init 114 = .ok (.lmul, 1) := by decide +kernel
theorem dX5_init_115 : decode cX5_init 115 = .ok (.iload_n 3, 1) := by decide +kernel
theorem dX5_init_116 : decode cX5_init 116 = .ok (.bipush 96, 2) := by decide +kernel
theorem dX5_init_118 : decode cX5_init 118 = .ok (.isub, 1) := by decide +kernel
theorem dX5_init_119 : decode cX5_init 119 = .ok (.i2l, 1) := by decide +kernel
theorem dX5_init_120 : decode cX5_init 120 = .ok (.ladd, 1) := by decide +kernel
theorem dX5_init_121 : decode cX5_init 121 = .ok (.lastore, 1) := by decide +kernel
theorem dX5_init_122 : decode cX5_init 122 = .ok (.iinc 2 1, 3) := by decide +kernel
theorem dX5_init_125 : decode cX5_init 125 = .ok (.goto (-62), 3) := by decide +kernel
theorem dX5_init_128 : decode cX5_init 128 = .ok (.return_, 1) := by decide +kernel
theorem dX5_begin_0 : decode cX5_begin 0 = .ok (.aload_n 0, 1) := by decide +kernel
theorem dX5_begin_1 : decode cX5_begin 1 = .ok (.iconst 0, 1) := by decide +kernel
theorem dX5_begin_2 : decode cX5_begin 2 = .ok (.putfield 22, 3) := by decide +kernel
theorem dX5_begin_5 : decode cX5_begin 5 = .ok (.aload_n 0, 1) := by decide +kernel
theorem dX5_begin_6 : decode cX5_begin 6 = .ok (.iconst 0, 1) := by decide +kernel
theorem dX5_begin_7 : decode cX5_begin 7 = .ok (.putfield 39, 3) := by decide +kernel
theorem dX5_begin_10 : decode cX5_begin 10 = .ok (.aload_n 0, 1) := by decide +kernel
theorem dX5_begin_11 : decode cX5_begin 11 = .ok (.iconst (-1), 1) := by decide +kernel
theorem dX5_begin_12 : decode cX5_begin 12 = .ok (.putfield 42, 3) := by decide +kernel
theorem dX5_begin_15 : decode cX5_begin 15 = .ok (.aload_n 0, 1) := by decide +kernel
theorem dX5_begin_16 : decode cX5_begin 16 = .ok (.invokevirtual 59, 3) := by decide +kernel
theorem dX5_begin_19 : decode cX5_begin 19 = .ok (.return_, 1) := by decide +kernel
theorem dX5_advance_0 : decode cX5_advance 0 = .ok (.aload_n 0, 1) := by decide +kernel
theorem dX5_advance_1 : decode cX5_advance 1 = .ok (.getfield 12, 3) := by decide +kernel
theorem dX5_advance_4 : decode cX5_advance 4 = .ok (.getfield 62, 3) := by decide +kernel
theorem dX5_advance_7 : decode cX5_advance 7 = .ok (.astore_n 1, 1) := by decide +kernel
theorem dX5_advance_8 : decode cX5_advance 8 = .ok (.aload_n 0, 1) := by decide +kernel
theorem dX5_advance_9 : decode cX5_advance 9 = .ok (.getfield 22, 3) := by decide +kernel
theorem dX5_advance_12 : decode cX5_advance 12 = .ok (.istore_n 2, 1) := by decide +kernel
theorem dX5_advance_13 : decode cX5_advance 13 = .ok (.iload_n 2, 1) := by decide +kernel
theorem dX5_advance_14 : decode cX5_advance 14 = .ok (.aload_n 0, 1) := by decide +kernel
theorem dX5_advance_15 : decode cX5_advance 15 = .ok (.getfield 12, 3) := by decide +kernel
theorem dX5_advance_18 : decode cX5_advance 18 = .ok (.getfield 66, 3) := by decide +kernel
theorem dX5_advance_21 : decode cX5_advance 21 = .ok (.if_icmp .ge 25, 3) := by decide +kernel
theorem dX5_advance_24 : decode cX5_advance 24 = .ok (.aload_n 1, 1) := by decide +kernel
theorem dX5_advance_25 : decode cX5_advance 25 = .ok (.iload_n 2, 1) := by decide +kernel
theorem dX5_advance_26 : decode cX5_advance 26 = .ok (.baload, 1) := by decide +kernel
theorem dX5_advance_27 : decode cX5_advance 27 = .ok (.bipush 32, 2) := by decide +kernel
theorem dX5_advance_29 : decode cX5_advance 29 = .ok (.if_icmp .eq 11, 3) := by decide +kernel
theorem dX5_advance_32 : decode cX5_advance 32 = .ok (.aload_n 1, 1) := by decide +kernel
theorem dX5_advance_33 : decode cX5_advance 33 = .ok (.iload_n 2, 1) := by decide +kernel
theorem dX5_advance_34 : decode cX5_advance 34 = .ok (.baload, 1) := by decide +kernel
theorem dX5_advance_35 : decode cX5_advance 35 = .ok (.bipush 10, 2) := by decide +kernel
theorem dX5_advance_37 : decode cX5_advance 37 = .ok (.if_icmp .ne 9, 3) := by decide +kernel
theorem dX5_advance_40 : decode cX5_advance 40 = .ok (.iinc 2 1, 3) := by decide +kernel
theorem dX5_advance_43 : decode cX5_advance 43 = .ok (.goto (-30), 3) := by decide +kernel
theorem dX5_advance_46 : decode cX5_advance 46 = .ok (.aload_n 0, 1) := by decide +kernel
theorem dX5_advance_47 : decode cX5_advance 47 = .ok (.iload_n 2, 1) := by decide +kernel
theorem dX5_advance_48 : decode cX5_advance 48 = .ok (.putfield 26, 3) := by decide +kernel
theorem dX5_advance_51 : decode cX5_advance 51 = .ok (.aload_n 0, 1) := by decide +kernel
theorem dX5_advance_52 : decode cX5_advance 52 = .ok (.iload_n 2, 1) := by decide +kernel
theorem dX5_advance_53 : decode cX5_advance 53 = .ok (.iconst 1, 1) := by decide +kernel
theorem dX5_advance_54 : decode cX5_advance 54 = .ok (.iadd, 1) := by decide +kernel
theorem dX5_advance_55 : decode cX5_advance 55 = .ok (.putfield 22, 3) := by decide +kernel
theorem dX5_advance_58 : decode cX5_advance 58 = .ok (.iload_n 2, 1) := by decide +kernel
theorem dX5_advance_59 : decode cX5_advance 59 = .ok (.aload_n 0, 1) := by decide +kernel
theorem dX5_advance_60 : decode cX5_advance 60 = .ok (.getfield 12, 3) := by decide +kernel
theorem dX5_advance_63 : decode cX5_advance 63 = .ok (.getfield 66, 3) := by decide +kernel
theorem dX5_advance_66 : decode cX5_advance 66 = .ok (.if_icmp .lt 17, 3) := by decide +kernel
theorem dX5_advance_69 : decode cX5_advance 69 = .ok (.aload_n 0, 1) := by decide +kernel
theorem dX5_advance_70 : decode cX5_advance 70 = .ok (.bipush 102, 2) := by decide +kernel
theorem dX5_advance_72 : decode cX5_advance 72 = .ok (.putfield 29, 3) := by decide +kernel
theorem dX5_advance_75 : decode cX5_advance 75 = .ok (.aload_n 0, 1) := by decide +kernel
theorem dX5_advance_76 : decode cX5_advance 76 = .ok (.iload_n 2, 1) := by decide +kernel
theorem dX5_advance_77 : decode cX5_advance 77 = .ok (.putfield 22, 3) := by decide +kernel
theorem dX5_advance_80 : decode cX5_advance 80 = .ok (.goto 79, 3) := by decide +kernel
theorem dX5_advance_83 : decode cX5_advance 83 = .ok (.aload_n 1, 1) := by decide +kernel
theorem dX5_advance_84 : decode cX5_advance 84 = .ok (.iload_n 2, 1) := by decide +kernel
theorem dX5_advance_85 : decode cX5_advance 85 = .ok (.baload, 1) := by decide +kernel
theorem dX5_advance_86 : decode cX5_advance 86 = .ok (.bipush 97, 2) := by decide +kernel
theorem dX5_advance_88 : decode cX5_advance 88 = .ok (.if_icmp .lt 18, 3) := by decide +kernel
theorem dX5_advance_91 : decode cX5_advance 91 = .ok (.aload_n 1, 1) := by decide +kernel
theorem dX5_advance_92 : decode cX5_advance 92 = .ok (.iload_n 2, 1) := by decide +kernel
theorem dX5_advance_93 : decode cX5_advance 93 = .ok (.baload, 1) := by decide +kernel
theorem dX5_advance_94 : decode cX5_advance 94 = .ok (.bipush 122, 2) := by decide +kernel
theorem dX5_advance_96 : decode cX5_advance 96 = .ok (.if_icmp .gt 10, 3) := by decide +kernel
theorem dX5_advance_99 : decode cX5_advance 99 = .ok (.aload_n 0, 1) := by decide +kernel
theorem dX5_advance_100 : decode cX5_advance 100 = .ok (.invokevirtual 69, 3) := by decide +kernel
theorem dX5_advance_103 : decode cX5_advance 103 = .ok (.goto 56, 3) := by decide +kernel
theorem dX5_advance_106 : decode cX5_advance 106 = .ok (.aload_n 1, 1) := by decide +kernel
theorem dX5_advance_107 : decode cX5_advance 107 = .ok (.iload_n 2, 1) := by decide +kernel
theorem dX5_advance_108 : decode cX5_advance 108 = .ok (.baload, 1) := by decide +kernel
theorem dX5_advance_109 : decode cX5_advance 109 = .ok (.bipush 48, 2) := by decide +kernel
theorem dX5_advance_111 : decode cX5_advance 111 = .ok (.if_icmp .lt 18, 3) := by decide +kernel
theorem dX5_advance_114 : decode cX5_advance 114 = .ok (.aload_n 1, 1) := by decide +kernel
theorem dX5_advance_115 : decode cX5_advance 115 = .ok (.iload_n 2, 1) := by decide +kernel
theorem dX5_advance_116 : decode cX5_advance 116 = .ok (.baload, 1) := by decide +kernel
theorem dX5_advance_117 : decode cX5_advance 117 = .ok (.bipush 57, 2) := by decide +kernel
theorem dX5_advance_119 : decode cX5_advance 119 = .ok (.if_icmp .gt 10, 3) := by decide +kernel
theorem dX5_advance_122 : decode cX5_advance 122 = .ok (.aload_n 0, 1) := by decide +kernel
theorem dX5_advance_123 : decode cX5_advance 123 = .ok (.invokevirtual 72, 3) := by decide +kernel
theorem dX5_advance_126 : decode cX5_advance 126 = .ok (.goto 33, 3) := by decide +kernel
theorem dX5_advance_129 : decode cX5_advance 129 = .ok (.aload_n 0, 1) := by decide +kernel
theorem dX5_advance_130 : decode cX5_advance 130 = .ok (.aload_n 1, 1) := by decide +kernel
theorem dX5_advance_131 : decode cX5_advance 131 = .ok (.iload_n 2, 1) := by decide +kernel
theorem dX5_advance_132 : decode cX5_advance 132 = .ok (.baload, 1) := by decide +kernel
theorem dX5_advance_133 : decode cX5_advance 133 = .ok (.ifCond .le 21, 3) := by decide +kernel
theorem dX5_advance_136 : decode cX5_advance 136 = .ok (.ldc 75, 2) := by decide +kernel
theorem dX5_advance_138 : decode cX5_advance 138 = .ok (.aload_n 1, 1) := by decide +kernel
theorem dX5_advance_139 : decode cX5_advance 139 = .ok (.iload_n 2, 1) := by decide +kernel
theorem dX5_advance_140 : decode cX5_advance 140 = .ok (.baload, 1) := by decide +kernel
theorem dX5_advance_141 : decode cX5_advance 141 = .ok (.i2c, 1) := by decide +kernel
theorem dX5_advance_142 : decode cX5_advance 142 = .ok (.invokevirtual 77, 3) := by decide +kernel
theorem dX5_advance_145 : decode cX5_advance 145 = .ok (.ifCond .lt 9, 3) := by decide +kernel
theorem dX5_advance_148 : decode cX5_advance 148 = .ok (.aload_n 1, 1) := by decide +kernel
theorem dX5_advance_149 : decode cX5_advance 149 = .ok (.iload_n 2, 1) := by decide +kernel
theorem dX5_advance_150 : decode cX5_advance 150 = .ok (.baload, 1) := by decide +kernel
theorem dX5_advance_151 : decode cX5_advance 151 = .ok (.goto 5, 3) := by decide +kernel
theorem dX5_advance_154 : decode cX5_advance 154 = .ok (.bipush 103, 2) := by decide +kernel
theorem dX5_advance_156 : decode cX5_advance 156 = .ok (.putfield 29, 3) := by decide +kernel
theorem dX5_advance_159 : decode cX5_advance 159 = .ok (.return_, 1) := by decide +kernel
theorem dX5_takeWord_0 : decode cX5_takeWord 0 = .ok (.aload_n 0, 1) := by decide +kernel
theorem dX5_takeWord_1 : decode cX5_takeWord 1 = .ok (.getfield 12, 3) := by decide +kernel
theorem dX5_takeWord_4 : decode cX5_takeWord 4 = .ok (.getfield 62, 3) := by decide +kernel
theorem dX5_takeWord_7 : decode cX5_takeWord 7 = .ok (.astore_n 1, 1) := by decide +kernel
theorem dX5_takeWord_8 : decode cX5_takeWord 8 = .ok (.aload_n 0, 1) := by decide +kernel
theorem dX5_takeWord_9 : decode cX5_takeWord 9 = .ok (.getfield 26, 3) := by decide +kernel
theorem dX5_takeWord_12 : decode cX5_takeWord 12 = .ok (.istore_n 2, 1) := by decide +kernel
theorem dX5_takeWord_13 : decode cX5_takeWord 13 = .ok (.aload_n 0, 1) := by decide +kernel
theorem dX5_takeWord_14 : decode cX5_takeWord 14 = .ok (.lconst 0, 1) := by decide +kernel
theorem dX5_takeWord_15 : decode cX5_takeWord 15 = .ok (.putfield 35, 3) := by decide +kernel
theorem dX5_takeWord_18 : decode cX5_takeWord 18 = .ok (.iload_n 2, 1) := by decide +kernel
theorem dX5_takeWord_19 : decode cX5_takeWord 19 = .ok (.aload_n 0, 1) := by decide +kernel
theorem dX5_takeWord_20 : decode cX5_takeWord 20 = .ok (.getfield 12, 3) := by decide +kernel
theorem dX5_takeWord_23 : decode cX5_takeWord 23 = .ok (.getfield 66, 3) := by decide +kernel
theorem dX5_takeWord_26 : decode cX5_takeWord 26 = .ok (.if_icmp .ge 45, 3) := by decide +kernel
theorem dX5_takeWord_29 : decode cX5_takeWord 29 = .ok (.aload_n 1, 1) := by decide +kernel
theorem dX5_takeWord_30 : decode cX5_takeWord 30 = .ok (.iload_n 2, 1) := by decide +kernel
theorem dX5_takeWord_31 : decode cX5_takeWord 31 = .ok (.baload, 1) := by decide +kernel
theorem dX5_takeWord_32 : decode cX5_takeWord 32 = .ok (.bipush 97, 2) := by decide +kernel
theorem dX5_takeWord_34 : decode cX5_takeWord 34 = .ok (.if_icmp .lt 37, 3) := by decide +kernel
theorem dX5_takeWord_37 : decode cX5_takeWord 37 = .ok (.aload_n 1, 1) := by decide +kernel
theorem dX5_takeWord_38 : decode cX5_takeWord 38 = .ok (.iload_n 2, 1) := by decide +kernel
theorem dX5_takeWord_39 : decode cX5_takeWord 39 = .ok (.baload, 1) := by decide +kernel
theorem dX5_takeWord_40 : decode cX5_takeWord 40 = .ok (.bipush 122, 2) := by decide +kernel
theorem dX5_takeWord_42 : decode cX5_takeWord 42 = .ok (.if_icmp .gt 29, 3) := by decide +kernel
theorem dX5_takeWord_45 : decode cX5_takeWord 45 = .ok (.aload_n 0, 1) := by decide +kernel
theorem dX5_takeWord_46 : decode cX5_takeWord 46 = .ok (.aload_n 0, 1) := by decide +kernel
theorem dX5_takeWord_47 : decode cX5_takeWord 47 = .ok (.getfield 35, 3) := by decide +kernel
theorem dX5_takeWord_50 : decode cX5_takeWord 50 = .ok (.ldc2_w 57, 3) := by decide +kernel
theorem dX5_takeWord_53 : decode cX5_takeWord 53 = .ok (.lmul, 1) := by decide +kernel
theorem dX5_takeWord_54 : decode cX5_takeWord 54 = .ok (.aload_n 1, 1) := by decide +kernel
theorem dX5_takeWord_55 : decode cX5_takeWord 55 = .ok (.iload_n 2, 1) := by decide +kernel
theorem dX5_takeWord_56 : decode cX5_takeWord 56 = .ok (.baload, 1) := by decide +kernel
theorem dX5_takeWord_57 : decode cX5_takeWord 57 = .ok (.bipush 96, 2) := by decide +kernel
theorem dX5_takeWord_59 : decode cX5_takeWord 59 = .ok (.isub, 1) := by decide +kernel
theorem dX5_takeWord_60 : decode cX5_takeWord 60 = .ok (.i2l, 1) := by decide +kernel
theorem dX5_takeWord_61 : decode cX5_takeWord 61 = .ok (.ladd, 1) := by decide +kernel
theorem dX5_takeWord_62 : decode cX5_takeWord 62 = .ok (.putfield 35, 3) := by decide +kernel
theorem dX5_takeWord_65 : decode cX5_takeWord 65 = .ok (.iinc 2 1, 3) := by decide +kernel
theorem dX5_takeWord_68 : decode cX5_takeWord 68 = .ok (.goto (-50), 3) := by decide +kernel
theorem dX5_takeWord_71 : decode cX5_takeWord 71 = .ok (.aload_n 0, 1) := by decide +kernel
theorem dX5_takeWord_72 : decode cX5_takeWord 72 = .ok (.iload_n 2, 1) := by decide +kernel
theorem dX5_takeWord_73 : decode cX5_takeWord 73 = .ok (.putfield 22, 3) := by decide +kernel
theorem dX5_takeWord_76 : decode cX5_takeWord 76 = .ok (.aload_n 0, 1) := by decide +kernel
theorem dX5_takeWord_77 : decode cX5_takeWord 77 = .ok (.iload_n 2, 1) := by decide +kernel
theorem dX5_takeWord_78 : decode cX5_takeWord 78 = .ok (.aload_n 0, 1) := by decide +kernel
theorem dX5_takeWord_79 : decode cX5_takeWord 79 = .ok (.getfield 26, 3) := by decide +kernel
theorem dX5_takeWord_82 : decode cX5_takeWord 82 = .ok (.isub, 1) := by decide +kernel
theorem dX5_takeWord_83 : decode cX5_takeWord 83 = .ok (.bipush 8, 2) := by decide +kernel
theorem dX5_takeWord_85 : decode cX5_takeWord 85 = .ok (.if_icmp .le 8, 3) := by decide +kernel
theorem dX5_takeWord_88 : decode cX5_takeWord 88 = .ok (.bipush 103, 2) := by decide +kernel
theorem dX5_takeWord_90 : decode cX5_takeWord 90 = .ok (.goto 5, 3) := by decide +kernel
theorem dX5_takeWord_93 : decode cX5_takeWord 93 = .ok (.bipush 101, 2) := by decide +kernel
theorem dX5_takeWord_95 : decode cX5_takeWord 95 = .ok (.putfield 29, 3) := by decide +kernel
theorem dX5_takeWord_98 : decode cX5_takeWord 98 = .ok (.iconst 1, 1) := by decide +kernel
theorem dX5_takeWord_99 : decode cX5_takeWord 99 = .ok (.istore_n 3, 1) := by decide +kernel
theorem dX5_takeWord_100 : decode cX5_takeWord 100 = .ok (.aload_n 0, 1) := by decide +kernel
theorem dX5_takeWord_101 : decode cX5_takeWord 101 = .ok (.getfield 29, 3) := by decide +kernel
theorem dX5_takeWord_104 : decode cX5_takeWord 104 = .ok (.bipush 101, 2) := by decide +kernel
theorem dX5_takeWord_106 : decode cX5_takeWord 106 = .ok (.if_icmp .ne 37, 3) := by decide +kernel
theorem dX5_takeWord_109 : decode cX5_takeWord 109 = .ok (.iload_n 3, 1) := by decide +kernel
theorem dX5_takeWord_110 : decode cX5_takeWord 110 = .ok (.aload_n 0, 1) := by decide +kernel
theorem dX5_takeWord_111 : decode cX5_takeWord 111 = .ok (.getfield 18, 3) := by decide +kernel
theorem dX5_takeWord_114 : decode cX5_takeWord 114 = .ok (.arraylength, 1) := by decide +kernel
theorem dX5_takeWord_115 : decode cX5_takeWord 115 = .ok (.if_icmp .ge 28, 3) := by decide +kernel
theorem dX5_takeWord_118 : decode cX5_takeWord 118 = .ok (.aload_n 0, 1) := by decide +kernel
theorem dX5_takeWord_119 : decode cX5_takeWord 119 = .ok (.getfield 18, 3) := by decide +kernel
theorem dX5_takeWord_122 : decode cX5_takeWord 122 = .ok (.iload_n 3, 1) := by decide +kernel
theorem dX5_takeWord_123 : decode cX5_takeWord 123 = .ok (.laload, 1) := by decide +kernel
theorem dX5_takeWord_124 : decode cX5_takeWord 124 = .ok (.aload_n 0, 1) := by decide +kernel
theorem dX5_takeWord_125 : decode cX5_takeWord 125 = .ok (.getfield 35, 3) := by decide +kernel
theorem dX5_takeWord_128 : decode cX5_takeWord 128 = .ok (.lcmp, 1) := by decide +kernel
theorem dX5_takeWord_129 : decode cX5_takeWord 129 = .ok (.ifCond .ne 8, 3) := by decide +kernel
theorem dX5_takeWord_132 : decode cX5_takeWord 132 = .ok (.aload_n 0, 1) := by decide +kernel
theorem dX5_takeWord_133 : decode cX5_takeWord 133 = .ok (.iload_n 3, 1) := by decide +kernel
theorem dX5_takeWord_134 : decode cX5_takeWord 134 = .ok (.putfield 29, 3) := by decide +kernel
theorem dX5_takeWord_137 : decode cX5_takeWord 137 = .ok (.iinc 3 1, 3) := by decide +kernel
theorem dX5_takeWord_140 : decode cX5_takeWord 140 = .ok (.goto (-40), 3) := by decide +kernel
theorem dX5_takeWord_143 : decode cX5_takeWord 143 = .ok (.return_, 1) := by decide +kernel
theorem dX5_takeNumber_0 : decode cX5_takeNumber 0 = .ok (.aload_n 0, 1) := by decide +kernel
theorem dX5_takeNumber_1 : decode cX5_takeNumber 1 = .ok (.getfield 12, 3) := by decide +kernel
theorem dX5_takeNumber_4 : decode cX5_takeNumber 4 = .ok (.getfield 62, 3) := by decide +kernel
theorem dX5_takeNumber_7 : decode cX5_takeNumber 7 = .ok (.astore_n 1, 1) := by decide +kernel
theorem dX5_takeNumber_8 : decode cX5_takeNumber 8 = .ok (.aload_n 0, 1) := by decide +kernel
theorem dX5_takeNumber_9 : decode cX5_takeNumber 9 = .ok (.getfield 26, 3) := by decide +kernel
theorem dX5_takeNumber_12 : decode cX5_takeNumber 12 = .ok (.istore_n 2, 1) := by decide +kernel
theorem dX5_takeNumber_13 : decode cX5_takeNumber 13 = .ok (.aload_n 0, 1) := by decide +kernel
theorem dX5_takeNumber_14 : decode cX5_takeNumber 14 = .ok (.iconst 0, 1) := by decide +kernel
theorem dX5_takeNumber_15 : decode cX5_takeNumber 15 = .ok (.putfield 32, 3) := by decide +kernel
theorem dX5_takeNumber_18 : decode cX5_takeNumber 18 = .ok (.iload_n 2, 1) := by decide +kernel
theorem dX5_takeNumber_19 : decode cX5_takeNumber 19 = .ok (.aload_n 0, 1) := by decide +kernel
theorem dX5_takeNumber_20 : decode cX5_takeNumber 20 = .ok (.getfield 12, 3) := by decide +kernel
theorem dX5_takeNumber_23 : decode cX5_takeNumber 23 = .ok (.getfield 66, 3) := by decide +kernel
theorem dX5_takeNumber_26 : decode cX5_takeNumber 26 = .ok (.if_icmp .ge 43, 3) := by decide +kernel
theorem dX5_takeNumber_29 : decode cX5_takeNumber 29 = .ok (.aload_n 1, 1) := by decide +kernel
theorem dX5_takeNumber_30 : decode cX5_takeNumber 30 = .ok (.iload_n 2, 1) := by decide +kernel
theorem dX5_takeNumber_31 : decode cX5_takeNumber 31 = .ok (.baload, 1) := by decide +kernel
theorem dX5_takeNumber_32 : decode cX5_takeNumber 32 = .ok (.bipush 48, 2) := by decide +kernel
theorem dX5_takeNumber_34 : decode cX5_takeNumber 34 = .ok (.if_icmp .lt 35, 3) := by decide +kernel
theorem dX5_takeNumber_37 : decode cX5_takeNumber 37 = .ok (.aload_n 1, 1) := by decide +kernel
theorem dX5_takeNumber_38 : decode cX5_takeNumber 38 = .ok (.iload_n 2, 1) := by decide +kernel
theorem dX5_takeNumber_39 : decode cX5_takeNumber 39 = .ok (.baload, 1) := by decide +kernel
theorem dX5_takeNumber_40 : decode cX5_takeNumber 40 = .ok (.bipush 57, 2) := by decide +kernel
theorem dX5_takeNumber_42 : decode cX5_takeNumber 42 = .ok (.if_icmp .gt 27, 3) := by decide +kernel
theorem dX5_takeNumber_45 : decode cX5_takeNumber 45 = .ok (.aload_n 0, 1) := by decide +kernel
theorem dX5_takeNumber_46 : decode cX5_takeNumber 46 = .ok (.aload_n 0, 1) := by decide +kernel
theorem dX5_takeNumber_47 : decode cX5_takeNumber 47 = .ok (.getfield 32, 3) := by decide +kernel
theorem dX5_takeNumber_50 : decode cX5_takeNumber 50 = .ok (.bipush 10, 2) := by decide +kernel
theorem dX5_takeNumber_52 : decode cX5_takeNumber 52 = .ok (.imul, 1) := by decide +kernel
theorem dX5_takeNumber_53 : decode cX5_takeNumber 53 = .ok (.aload_n 1, 1) := by decide +kernel
theorem dX5_takeNumber_54 : decode cX5_takeNumber 54 = .ok (.iload_n 2, 1) := by decide +kernel
theorem dX5_takeNumber_55 : decode cX5_takeNumber 55 = .ok (.baload, 1) := by decide +kernel
theorem dX5_takeNumber_56 : decode cX5_takeNumber 56 = .ok (.bipush 48, 2) := by decide +kernel
theorem dX5_takeNumber_58 : decode cX5_takeNumber 58 = .ok (.isub, 1) := by decide +kernel
theorem dX5_takeNumber_59 : decode cX5_takeNumber 59 = .ok (.iadd, 1) := by decide +kernel
theorem dX5_takeNumber_60 : decode cX5_takeNumber 60 = .ok (.putfield 32, 3) := by decide +kernel
theorem dX5_takeNumber_63 : decode cX5_takeNumber 63 = .ok (.iinc 2 1, 3) := by decide +kernel
theorem dX5_takeNumber_66 : decode cX5_takeNumber 66 = .ok (.goto (-48), 3) := by decide +kernel
theorem dX5_takeNumber_69 : decode cX5_takeNumber 69 = .ok (.aload_n 0, 1) := by decide +kernel
theorem dX5_takeNumber_70 : decode cX5_takeNumber 70 = .ok (.iload_n 2, 1) := by decide +kernel
theorem dX5_takeNumber_71 : decode cX5_takeNumber 71 = .ok (.putfield 22, 3) := by decide +kernel
theorem dX5_takeNumber_74 : decode cX5_takeNumber 74 = .ok (.iload_n 2, 1) := by decide +kernel
theorem dX5_takeNumber_75 : decode cX5_takeNumber 75 = .ok (.aload_n 0, 1) := by decide +kernel
theorem dX5_takeNumber_76 : decode cX5_takeNumber 76 = .ok (.getfield 12, 3) := by decide +kernel
theorem dX5_takeNumber_79 : decode cX5_takeNumber 79 = .ok (.getfield 66, 3) := by decide +kernel
theorem dX5_takeNumber_82 : decode cX5_takeNumber 82 = .ok (.if_icmp .ge 23, 3) := by decide +kernel
theorem dX5_takeNumber_85 : decode cX5_takeNumber 85 = .ok (.aload_n 1, 1) := by decide +kernel
theorem dX5_takeNumber_86 : decode cX5_takeNumber 86 = .ok (.iload_n 2, 1) := by decide +kernel
theorem dX5_takeNumber_87 : decode cX5_takeNumber 87 = .ok (.baload, 1) := by decide +kernel
theorem dX5_takeNumber_88 : decode cX5_takeNumber 88 = .ok (.bipush 97, 2) := by decide +kernel
theorem dX5_takeNumber_90 : decode cX5_takeNumber 90 = .ok (.if_icmp .lt 15, 3) := by decide +kernel
theorem dX5_takeNumber_93 : decode cX5_takeNumber 93 = .ok (.aload_n 1, 1) := by decide +kernel
theorem dX5_takeNumber_94 : decode cX5_takeNumber 94 = .ok (.iload_n 2, 1) := by decide +kernel
theorem dX5_takeNumber_95 : decode cX5_takeNumber 95 = .ok (.baload, 1) := by decide +kernel
theorem dX5_takeNumber_96 : decode cX5_takeNumber 96 = .ok (.bipush 122, 2) := by decide +kernel
theorem dX5_takeNumber_98 : decode cX5_takeNumber 98 = .ok (.if_icmp .gt 7, 3) := by decide +kernel
theorem dX5_takeNumber_101 : decode cX5_takeNumber 101 = .ok (.iconst 1, 1) := by decide +kernel
theorem dX5_takeNumber_102 : decode cX5_takeNumber 102 = .ok (.goto 4, 3) := by decide +kernel
theorem dX5_takeNumber_105 : decode cX5_takeNumber 105 = .ok (.iconst 0, 1) := by decide +kernel
theorem dX5_takeNumber_106 : decode cX5_takeNumber 106 = .ok (.istore_n 3, 1) := by decide +kernel
theorem dX5_takeNumber_107 : decode cX5_takeNumber 107 = .ok (.aload_n 0, 1) := by decide +kernel
theorem dX5_takeNumber_108 : decode cX5_takeNumber 108 = .ok (.iload_n 3, 1) := by decide +kernel
theorem dX5_takeNumber_109 : decode cX5_takeNumber 109 = .ok (.ifCond .ne 13, 3) := by decide +kernel
theorem dX5_takeNumber_112 : decode cX5_takeNumber 112 = .ok (.iload_n 2, 1) := by decide +kernel
theorem dX5_takeNumber_113 : decode cX5_takeNumber 113 = .ok (.aload_n 0, 1) := by decide +kernel
theorem dX5_takeNumber_114 : decode cX5_takeNumber 114 = .ok (.getfield 26, 3) := by decide +kernel
theorem dX5_takeNumber_117 : decode cX5_takeNumber 117 = .ok (.isub, 1) := by decide +kernel
theorem dX5_takeNumber_118 : decode cX5_takeNumber 118 = .ok (.iconst 4, 1) := by decide +kernel
theorem dX5_takeNumber_119 : decode cX5_takeNumber 119 = .ok (.if_icmp .le 8, 3) := by decide +kernel
theorem dX5_takeNumber_122 : decode cX5_takeNumber 122 = .ok (.bipush 103, 2) := by decide +kernel
theorem dX5_takeNumber_124 : decode cX5_takeNumber 124 = .ok (.goto 5, 3) := by decide +kernel
theorem dX5_takeNumber_127 : decode cX5_takeNumber 127 = .ok (.bipush 100, 2) := by decide +kernel
theorem dX5_takeNumber_129 : decode cX5_takeNumber 129 = .ok (.putfield 29, 3) := by decide +kernel
theorem dX5_takeNumber_132 : decode cX5_takeNumber 132 = .ok (.return_, 1) := by decide +kernel
theorem dX5_refuse_0 : decode cX5_refuse 0 = .ok (.aload_n 0, 1) := by decide +kernel
theorem dX5_refuse_1 : decode cX5_refuse 1 = .ok (.aload_n 0, 1) := by decide +kernel
theorem dX5_refuse_2 : decode cX5_refuse 2 = .ok (.getfield 29, 3) := by decide +kernel
theorem dX5_refuse_5 : decode cX5_refuse 5 = .ok (.bipush 103, 2) := by decide +kernel
theorem dX5_refuse_7 : decode cX5_refuse 7 = .ok (.if_icmp .ne 7, 3) := by decide +kernel
theorem dX5_refuse_10 : decode cX5_refuse 10 = .ok (.iconst 1, 1) := by decide +kernel
theorem dX5_refuse_11 : decode cX5_refuse 11 = .ok (.goto 4, 3) := by decide +kernel
theorem dX5_refuse_14 : decode cX5_refuse 14 = .ok (.iload_n 1, 1) := by decide +kernel
theorem dX5_refuse_15 : decode cX5_refuse 15 = .ok (.putfield 39, 3) := by decide +kernel
theorem dX5_refuse_18 : decode cX5_refuse 18 = .ok (.aload_n 0, 1) := by decide +kernel
theorem dX5_refuse_19 : decode cX5_refuse 19 = .ok (.aload_n 0, 1) := by decide +kernel
theorem dX5_refuse_20 : decode cX5_refuse 20 = .ok (.getfield 26, 3) := by decide +kernel
theorem dX5_refuse_23 : decode cX5_refuse 23 = .ok (.putfield 42, 3) := by decide +kernel
theorem dX5_refuse_26 : decode cX5_refuse 26 = .ok (.iconst 0, 1) := by decide +kernel
theorem dX5_refuse_27 : decode cX5_refuse 27 = .ok (.ireturn, 1) := by decide +kernel
theorem dX5_pass_0 : decode cX5_pass 0 = .ok (.aload_n 0, 1) := by decide +kernel
theorem dX5_pass_1 : decode cX5_pass 1 = .ok (.getfield 29, 3) := by decide +kernel
theorem dX5_pass_4 : decode cX5_pass 4 = .ok (.iload_n 1, 1) := by decide +kernel
theorem dX5_pass_5 : decode cX5_pass 5 = .ok (.if_icmp .eq 9, 3) := by decide +kernel
theorem dX5_pass_8 : decode cX5_pass 8 = .ok (.aload_n 0, 1) := by decide +kernel
theorem dX5_pass_9 : decode cX5_pass 9 = .ok (.iconst 2, 1) := by decide +kernel
theorem dX5_pass_10 : decode cX5_pass 10 = .ok (.invokevirtual 81, 3) := by decide +kernel
theorem dX5_pass_13 : decode cX5_pass 13 = .ok (.ireturn, 1) := by decide +kernel
theorem dX5_pass_14 : decode cX5_pass 14 = .ok (.aload_n 0, 1) := by decide +kernel
theorem dX5_pass_15 : decode cX5_pass 15 = .ok (.invokevirtual 59, 3) := by decide +kernel
theorem dX5_pass_18 : decode cX5_pass 18 = .ok (.iconst 1, 1) := by decide +kernel
theorem dX5_pass_19 : decode cX5_pass 19 = .ok (.ireturn, 1) := by decide +kernel
theorem dX6_init_0 : decode cX6_init 0 = .ok (.aload_n 0, 1) := by decide +kernel
theorem dX6_init_1 : decode cX6_init 1 = .ok (.invokespecial 3, 3) := by decide +kernel
theorem dX6_init_4 : decode cX6_init 4 = .ok (.aload_n 0, 1) := by decide +kernel
theorem dX6_init_5 : decode cX6_init 5 = .ok (.bipush 30, 2) := by decide +kernel
theorem dX6_init_7 : decode cX6_init 7 = .ok (.newarray .int, 2) := by decide +kernel
theorem dX6_init_9 : decode cX6_init 9 = .ok (.putfield 11, 3) := by decide +kernel
theorem dX6_init_12 : decode cX6_init 12 = .ok (.aload_n 0, 1) := by decide +kernel
theorem dX6_init_13 : decode cX6_init 13 = .ok (.bipush 30, 2) := by decide +kernel
theorem dX6_init_15 : decode cX6_init 15 = .ok (.newarray .boolean, 2) := by decide +kernel
theorem dX6_init_17 : decode cX6_init 17 = .ok (.putfield 15, 3) := by decide +kernel
theorem dX6_init_20 : decode cX6_init 20 = .ok (.aload_n 0, 1) := by decide +kernel
theorem dX6_init_21 : decode cX6_init 21 = .ok (.bipush 30, 2) := by decide +kernel
theorem dX6_init_23 : decode cX6_init 23 = .ok (.newarray .int, 2) := by decide +kernel
theorem dX6_init_25 : decode cX6_init 25 = .ok (.putfield 19, 3) := by decide +kernel
theorem dX6_init_28 : decode cX6_init 28 = .ok (.aload_n 0, 1) := by decide +kernel
theorem dX6_init_29 : decode cX6_init 29 = .ok (.bipush 30, 2) := by decide +kernel
theorem dX6_init_31 : decode cX6_init 31 = .ok (.newarray .boolean, 2) := by decide +kernel
theorem dX6_init_33 : decode cX6_init 33 = .ok (.putfield 22, 3) := by decide +kernel
theorem dX6_init_36 : decode cX6_init 36 = .ok (.aload_n 0, 1) := by decide +kernel
theorem dX6_init_37 : decode cX6_init 37 = .ok (.bipush 30, 2) := by decide +kernel
theorem dX6_init_39 : decode cX6_init 39 = .ok (.newarray .int, 2) := by decide +kernel
theorem dX6_init_41 : decode cX6_init 41 = .ok (.putfield 25, 3) := by decide +kernel
theorem dX6_init_44 : decode cX6_init 44 = .ok (.aload_n 0, 1) := by decide +kernel
theorem dX6_init_45 : decode cX6_init 45 = .ok (.bipush 30, 2) := by decide +kernel
theorem dX6_init_47 : decode cX6_init 47 = .ok (.newarray .int, 2) := by decide +kernel
theorem dX6_init_49 : decode cX6_init 49 = .ok (.putfield 28, 3) := by decide +kernel
theorem dX6_init_52 : decode cX6_init 52 = .ok (.aload_n 0, 1) := by decide +kernel
theorem dX6_init_53 : decode cX6_init 53 = .ok (.iconst 0, 1) := by decide +kernel
theorem dX6_init_54 : decode cX6_init 54 = .ok (.putfield 31, 3) := by decide +kernel
theorem dX6_init_57 : decode cX6_init 57 = .ok (.aload_n 0, 1) := by decide +kernel
theorem dX6_init_58 : decode cX6_init 58 = .ok (.iconst 0, 1) := by decide +kernel
theorem dX6_init_59 : decode cX6_init 59 = .ok (.putfield 35, 3) := by decide +kernel
theorem dX6_init_62 : decode cX6_init 62 = .ok (.aload_n 0, 1) := by decide +kernel
theorem dX6_init_63 : decode cX6_init 63 = .ok (.iconst 3, 1) := by decide +kernel
theorem dX6_init_64 : decode cX6_init 64 = .ok (.newarray .int, 2) := by decide +kernel
theorem dX6_init_66 : decode cX6_init 66 = .ok (.putfield 38, 3) := by decide +kernel
theorem dX6_init_69 : decode cX6_init 69 = .ok (.aload_n 0, 1) := by decide +kernel
theorem dX6_init_70 : decode cX6_init 70 = .ok (.iconst 3, 1) := by decide +kernel
theorem dX6_init_71 : decode cX6_init 71 = .ok (.newarray .int, 2) := by decide +kernel
theorem dX6_init_73 : decode cX6_init 73 = .ok (.putfield 41, 3) := by decide +kernel
theorem dX6_init_76 : decode cX6_init 76 = .ok (.aload_n 0, 1) := by decide +kernel
theorem dX6_init_77 : decode cX6_init 77 = .ok (.iconst 3, 1) := by decide +kernel
theorem dX6_init_78 : decode cX6_init 78 = .ok (.newarray .int, 2) := by decide +kernel
theorem dX6_init_80 : decode cX6_init 80 = .ok (.putfield 44, 3) := by decide +kernel
theorem dX6_init_83 : decode cX6_init 83 = .ok (.aload_n 0, 1) := by decide +kernel
theorem dX6_init_84 : decode cX6_init 84 = .ok (.iconst 3, 1) := by decide +kernel
theorem dX6_init_85 : decode cX6_init 85 = .ok (.newarray .int, 2) := by decide +kernel
theorem dX6_init_87 : decode cX6_init 87 = .ok (.putfield 47, 3) := by decide +kernel
theorem dX6_init_90 : decode cX6_init 90 = .ok (.aload_n 0, 1) := by decide +kernel
theorem dX6_init_91 : decode cX6_init 91 = .ok (.iconst 3, 1) := by decide +kernel
theorem dX6_init_92 : decode cX6_init 92 = .ok (.bipush 7, 2) := by decide +kernel
theorem dX6_init_94 : decode cX6_init 94 = .ok (.multianewarray 52 2, 4) := by decide +kernel
theorem dX6_init_98 : decode cX6_init 98 = .ok (.putfield 54, 3) := by decide +kernel
theorem dX6_init_101 : decode cX6_init 101 = .ok (.aload_n 0, 1) := by decide +kernel
theorem dX6_init_102 : decode cX6_init 102 = .ok (.new 57, 3) := by decide +kernel
theorem dX6_init_105 : decode cX6_init 105 = .ok (.dup, 1) := by decide +kernel
theorem dX6_init_106 : decode cX6_init 106 = .ok (.invokespecial 59, 3) := by decide +kernel
theorem dX6_init_109 : decode cX6_init 109 = .ok (.putfield 60, 3) := by decide +kernel
theorem dX6_init_112 : decode cX6_init 112 = .ok (.return_, 1) := by decide +kernel
theorem dX6_forget_0 : decode cX6_forget 0 = .ok (.aload_n 0, 1) := by decide +kernel
theorem dX6_forget_1 : decode cX6_forget 1 = .ok (.iconst 0, 1) := by decide +kernel
theorem dX6_forget_2 : decode cX6_forget 2 = .ok (.putfield 31, 3) := by decide +kernel
theorem dX6_forget_5 : decode cX6_forget 5 = .ok (.return_, 1) := by decide +kernel
theorem dX6_tell_0 : decode cX6_tell 0 = .ok (.iload_n 1, 1) := by decide +kernel
theorem dX6_tell_1 : decode cX6_tell 1 = .ok (.iconst 1, 1) := by decide +kernel
theorem dX6_tell_2 : decode cX6_tell 2 = .ok (.if_icmp .lt 27, 3) := by decide +kernel
theorem dX6_tell_5 : decode cX6_tell 5 = .ok (.iload_n 1, 1) := by decide +kernel
theorem dX6_tell_6 : decode cX6_tell 6 = .ok (.iconst 3, 1) := by decide +kernel
theorem dX6_tell_7 : decode cX6_tell 7 = .ok (.if_icmp .gt 22, 3) := by decide +kernel
theorem dX6_tell_10 : decode cX6_tell 10 = .ok (.iload_n 3, 1) := by decide +kernel
theorem dX6_tell_11 : decode cX6_tell 11 = .ok (.ifCond .lt 18, 3) := by decide +kernel
theorem dX6_tell_14 : decode cX6_tell 14 = .ok (.iload_n 3, 1) := by decide +kernel
theorem dX6_tell_15 : decode cX6_tell 15 = .ok (.bipush 99, 2) := by decide +kernel
theorem dX6_tell_17 : decode cX6_tell 17 = .ok (.if_icmp .gt 12, 3) := by decide +kernel
theorem dX6_tell_20 : decode cX6_tell 20 = .ok (.aload_n 0, 1) := by decide +kernel
theorem dX6_tell_21 : decode cX6_tell 21 = .ok (.getfield 31, 3) := by decide +kernel
theorem dX6_tell_24 : decode cX6_tell 24 = .ok (.bipush 30, 2) := by decide +kernel
theorem dX6_tell_26 : decode cX6_tell 26 = .ok (.if_icmp .lt 5, 3) := by decide +kernel
theorem dX6_tell_29 : decode cX6_tell 29 = .ok (.iconst (-1), 1) := by decide +kernel
theorem dX6_tell_30 : decode cX6_tell 30 = .ok (.ireturn, 1) := by decide +kernel
theorem dX6_tell_31 : decode cX6_tell 31 = .ok (.aload_n 0, 1) := by decide +kernel
theorem dX6_tell_32 : decode cX6_tell 32 = .ok (.getfield 31, 3) := by decide +kernel
theorem dX6_tell_35 : decode cX6_tell 35 = .ok (.istore 5, 2) := by decide +kernel
theorem dX6_tell_37 : decode cX6_tell 37 = .ok (.aload_n 0, 1) := by decide +kernel
theorem dX6_tell_38 : decode cX6_tell 38 = .ok (.getfield 11, 3) := by decide +kernel
theorem dX6_tell_41 : decode cX6_tell 41 = .ok (.iload 5, 2) := by decide +kernel
theorem dX6_tell_43 : decode cX6_tell 43 = .ok (.iload_n 1, 1) := by decide +kernel
theorem dX6_tell_44 : decode cX6_tell 44 = .ok (.iastore, 1) := by decide +kernel
theorem dX6_tell_45 : decode cX6_tell 45 = .ok (.aload_n 0, 1) := by decide +kernel
theorem dX6_tell_46 : decode cX6_tell 46 = .ok (.getfield 15, 3) := by decide +kernel
theorem dX6_tell_49 : decode cX6_tell 49 = .ok (.iload 5, 2) := by decide +kernel
theorem dX6_tell_51 : decode cX6_tell 51 = .ok (.iload_n 2, 1) := by decide +kernel
theorem dX6_tell_52 : decode cX6_tell 52 = .ok (.bastore, 1) := by decide +kernel
theorem dX6_tell_53 : decode cX6_tell 53 = .ok (.aload_n 0, 1) := by decide +kernel
theorem dX6_tell_54 : decode cX6_tell 54 = .ok (.getfield 19, 3) := by decide +kernel
theorem dX6_tell_57 : decode cX6_tell 57 = .ok (.iload 5, 2) := by decide +kernel
theorem dX6_tell_59 : decode cX6_tell 59 = .ok (.iload_n 3, 1) := by decide +kernel
theorem dX6_tell_60 : decode cX6_tell 60 = .ok (.iastore, 1) := by decide +kernel
theorem dX6_tell_61 : decode cX6_tell 61 = .ok (.aload_n 0, 1) := by decide +kernel
theorem dX6_tell_62 : decode cX6_tell 62 = .ok (.getfield 22, 3) := by decide +kernel
theorem dX6_tell_65 : decode cX6_tell 65 = .ok (.iload 5, 2) := by decide +kernel
theorem dX6_tell_67 : decode cX6_tell 67 = .ok (.iload 4, 2) := by decide +kernel
theorem dX6_tell_69 : decode cX6_tell 69 = .ok (.bastore, 1) := by decide +kernel
theorem dX6_tell_70 : decode cX6_tell 70 = .ok (.aload_n 0, 1) := by decide +kernel
theorem dX6_tell_71 : decode cX6_tell 71 = .ok (.getfield 25, 3) := by decide +kernel
theorem dX6_tell_74 : decode cX6_tell 74 = .ok (.iload 5, 2) := by decide +kernel
theorem dX6_tell_76 : decode cX6_tell 76 = .ok (.aload_n 0, 1) := by decide +kernel
theorem dX6_tell_77 : decode cX6_tell 77 = .ok (.getfield 35, 3) := by decide +kernel
theorem dX6_tell_80 : decode cX6_tell 80 = .ok (.iastore, 1) := by decide +kernel
theorem dX6_tell_81 : decode cX6_tell 81 = .ok (.aload_n 0, 1) := by decide +kernel
theorem dX6_tell_82 : decode cX6_tell 82 = .ok (.getfield 28, 3) := by decide +kernel
theorem dX6_tell_85 : decode cX6_tell 85 = .ok (.iload 5, 2) := by decide +kernel
theorem dX6_tell_87 : decode cX6_tell 87 = .ok (.iconst (-1), 1) := by decide +kernel
theorem dX6_tell_88 : decode cX6_tell 88 = .ok (.iastore, 1) := by decide +kernel
theorem dX6_tell_89 : decode cX6_tell 89 = .ok (.aload_n 0, 1) := by decide +kernel
theorem dX6_tell_90 : decode cX6_tell 90 = .ok (.dup, 1) := by decide +kernel
theorem dX6_tell_91 : decode cX6_tell 91 = .ok (.getfield 31, 3) := by decide +kernel
theorem dX6_tell_94 : decode cX6_tell 94 = .ok (.iconst 1, 1) := by decide +kernel
theorem dX6_tell_95 : decode cX6_tell 95 = .ok (.iadd, 1) := by decide +kernel
theorem dX6_tell_96 : decode cX6_tell 96 = .ok (.putfield 31, 3) := by decide +kernel
theorem dX6_tell_99 : decode cX6_tell 99 = .ok (.iload 5, 2) := by decide +kernel
theorem dX6_tell_101 : decode cX6_tell 101 = .ok (.ireturn, 1) := by decide +kernel
theorem dX6_takeBack_0 : decode cX6_takeBack 0 = .ok (.iload_n 1, 1) := by decide +kernel
theorem dX6_takeBack_1 : decode cX6_takeBack 1 = .ok (.ifCond .lt 27, 3) := by decide +kernel
theorem dX6_takeBack_4 : decode cX6_takeBack 4 = .ok (.iload_n 1, 1) := by decide +kernel
theorem dX6_takeBack_5 : decode cX6_takeBack 5 = .ok (.aload_n 0, 1) := by decide +kernel
theorem dX6_takeBack_6 : decode cX6_takeBack 6 = .ok (.getfield 31, 3) := by decide +kernel
theorem dX6_takeBack_9 : decode cX6_takeBack 9 = .ok (.if_icmp .ge 19, 3) := by decide +kernel
theorem dX6_takeBack_12 : decode cX6_takeBack 12 = .ok (.iload_n 1, 1) := by decide +kernel
theorem dX6_takeBack_13 : decode cX6_takeBack 13 = .ok (.bipush 30, 2) := by decide +kernel
theorem dX6_takeBack_15 : decode cX6_takeBack 15 = .ok (.if_icmp .ge 13, 3) := by decide +kernel
theorem dX6_takeBack_18 : decode cX6_takeBack 18 = .ok (.aload_n 0, 1) := by decide +kernel
theorem dX6_takeBack_19 : decode cX6_takeBack 19 = .ok (.getfield 28, 3) := by decide +kernel
theorem dX6_takeBack_22 : decode cX6_takeBack 22 = .ok (.iload_n 1, 1) := by decide +kernel
theorem dX6_takeBack_23 : decode cX6_takeBack 23 = .ok (.iaload, 1) := by decide +kernel
theorem dX6_takeBack_24 : decode cX6_takeBack 24 = .ok (.iconst (-1), 1) := by decide +kernel
theorem dX6_takeBack_25 : decode cX6_takeBack 25 = .ok (.if_icmp .eq 5, 3) := by decide +kernel
theorem dX6_takeBack_28 : decode cX6_takeBack 28 = .ok (.iconst 0, 1) := by decide +kernel
theorem dX6_takeBack_29 : decode cX6_takeBack 29 = .ok (.ireturn, 1) := by decide +kernel
theorem dX6_takeBack_30 : decode cX6_takeBack 30 = .ok (.aload_n 0, 1) := by decide +kernel
theorem dX6_takeBack_31 : decode cX6_takeBack 31 = .ok (.getfield 28, 3) := by decide +kernel
theorem dX6_takeBack_34 : decode cX6_takeBack 34 = .ok (.iload_n 1, 1) := by decide +kernel
theorem dX6_takeBack_35 : decode cX6_takeBack 35 = .ok (.aload_n 0, 1) := by decide +kernel
theorem dX6_takeBack_36 : decode cX6_takeBack 36 = .ok (.getfield 35, 3) := by decide +kernel
theorem dX6_takeBack_39 : decode cX6_takeBack 39 = .ok (.iastore, 1) := by decide +kernel
theorem dX6_takeBack_40 : decode cX6_takeBack 40 = .ok (.iconst 1, 1) := by decide +kernel
theorem dX6_takeBack_41 : decode cX6_takeBack 41 = .ok (.ireturn, 1) := by decide +kernel
theorem dX6_goOn_0 : decode cX6_goOn 0 = .ok (.iload_n 1, 1) := by decide +kernel
theorem dX6_goOn_1 : decode cX6_goOn 1 = .ok (.ifCond .lt 21, 3) := by decide +kernel
theorem dX6_goOn_4 : decode cX6_goOn 4 = .ok (.iload_n 1, 1) := by decide +kernel
theorem dX6_goOn_5 : decode cX6_goOn 5 = .ok (.sipush 1000, 3) := by decide +kernel
theorem dX6_goOn_8 : decode cX6_goOn 8 = .ok (.if_icmp .gt 14, 3) := by decide +kernel
theorem dX6_goOn_11 : decode cX6_goOn 11 = .ok (.aload_n 0, 1) := by decide +kernel
theorem dX6_goOn_12 : decode cX6_goOn 12 = .ok (.getfield 35, 3) := by decide +kernel
theorem dX6_goOn_15 : decode cX6_goOn 15 = .ok (.iload_n 1, 1) := by decide +kernel
theorem dX6_goOn_16 : decode cX6_goOn 16 = .ok (.iadd, 1) := by decide +kernel
theorem dX6_goOn_17 : decode cX6_goOn 17 = .ok (.ldc 64, 2) := by decide +kernel
theorem dX6_goOn_19 : decode cX6_goOn 19 = .ok (.if_icmp .le 5, 3) := by decide +kernel
theorem dX6_goOn_22 : decode cX6_goOn 22 = .ok (.iconst (-1), 1) := by decide +kernel
theorem dX6_goOn_23 : decode cX6_goOn 23 = .ok (.ireturn, 1) := by decide +kernel
theorem dX6_goOn_24 : decode cX6_goOn 24 = .ok (.aload_n 0, 1) := by decide +kernel
theorem dX6_goOn_25 : decode cX6_goOn 25 = .ok (.dup, 1) := by decide +kernel
theorem dX6_goOn_26 : decode cX6_goOn 26 = .ok (.getfield 35, 3) := by decide +kernel
theorem dX6_goOn_29 : decode cX6_goOn 29 = .ok (.iload_n 1, 1) := by decide +kernel
theorem dX6_goOn_30 : decode cX6_goOn 30 = .ok (.iadd, 1) := by decide +kernel
theorem dX6_goOn_31 : decode cX6_goOn 31 = .ok (.putfield 35, 3) := by decide +kernel
theorem dX6_goOn_34 : decode cX6_goOn 34 = .ok (.aload_n 0, 1) := by decide +kernel
theorem dX6_goOn_35 : decode cX6_goOn 35 = .ok (.getfield 35, 3) := by decide +kernel
theorem dX6_goOn_38 : decode cX6_goOn 38 = .ok (.ireturn, 1) := by decide +kernel
theorem dX6_tallyRows_0 : decode cX6_tallyRows 0 = .ok (.aload_n 1, 1) := by decide +kernel
theorem dX6_tallyRows_1 : decode cX6_tallyRows 1 = .ok (.getfield 65, 3) := by decide +kernel
theorem dX6_tallyRows_4 : decode cX6_tallyRows 4 = .ok (.ifCond .ne 5, 3) := by decide +kernel
theorem dX6_tallyRows_7 : decode cX6_tallyRows 7 = .ok (.iconst 0, 1) := by decide +kernel
theorem dX6_tallyRows_8 : decode cX6_tallyRows 8 = .ok (.ireturn, 1) := by decide +kernel
theorem dX6_tallyRows_9 : decode cX6_tallyRows 9 = .ok (.aload_n 0, 1) := by decide +kernel
theorem dX6_tallyRows_10 : decode cX6_tallyRows 10 = .ok (.iload_n 2, 1) := by decide +kernel
theorem dX6_tallyRows_11 : decode cX6_tallyRows 11 = .ok (.invokevirtual 68, 3) := by decide +kernel
theorem dX6_tallyRows_14 : decode cX6_tallyRows 14 = .ok (.iconst 0, 1) := by decide +kernel
theorem dX6_tallyRows_15 : decode cX6_tallyRows 15 = .ok (.istore_n 3, 1) := by decide +kernel
theorem dX6_tallyRows_16 : decode cX6_tallyRows 16 = .ok (.iload_n 3, 1) := by decide +kernel
theorem dX6_tallyRows_17 : decode cX6_tallyRows 17 = .ok (.iconst 3, 1) := by decide +kernel
theorem dX6_tallyRows_18 : decode cX6_tallyRows 18 = .ok (.if_icmp .ge 19, 3) := by decide +kernel
theorem dX6_tallyRows_21 : decode cX6_tallyRows 21 = .ok (.aload_n 0, 1) := by decide +kernel
theorem dX6_tallyRows_22 : decode cX6_tallyRows 22 = .ok (.getfield 54, 3) := by decide +kernel
theorem dX6_tallyRows_25 : decode cX6_tallyRows 25 = .ok (.iload_n 3, 1) := by decide +kernel
theorem dX6_tallyRows_26 : decode cX6_tallyRows 26 = .ok (.aaload, 1) := by decide +kernel
theorem dX6_tallyRows_27 : decode cX6_tallyRows 27 = .ok (.iconst 0, 1) := by decide +kernel
theorem dX6_tallyRows_28 : decode cX6_tallyRows 28 = .ok (.invokestatic 72, 3) := by decide +kernel
theorem dX6_tallyRows_31 : decode cX6_tallyRows 31 = .ok (.iinc 3 1, 3) := by decide +kernel
theorem dX6_tallyRows_34 : decode cX6_tallyRows 34 = .ok (.goto (-18), 3) := by decide +kernel
theorem dX6_tallyRows_37 : decode cX6_tallyRows 37 = .ok (.aload_n 0, 1) := by decide +kernel
theorem dX6_tallyRows_38 : decode cX6_tallyRows 38 = .ok (.getfield 60, 3) := by decide +kernel
theorem dX6_tallyRows_41 : decode cX6_tallyRows 41 = .ok (.aload_n 1, 1) := by decide +kernel
theorem dX6_tallyRows_42 : decode cX6_tallyRows 42 = .ok (.invokevirtual 78, 3) := by decide +kernel
theorem dX6_tallyRows_45 : decode cX6_tallyRows 45 = .ok (.aload_n 0, 1) := by decide +kernel
theorem dX6_tallyRows_46 : decode cX6_tallyRows 46 = .ok (.aload_n 1, 1) := by decide +kernel
theorem dX6_tallyRows_47 : decode cX6_tallyRows 47 = .ok (.iconst 0, 1) := by decide +kernel
theorem dX6_tallyRows_48 : decode cX6_tallyRows 48 = .ok (.aload_n 1, 1) := by decide +kernel
theorem dX6_tallyRows_49 : decode cX6_tallyRows 49 = .ok (.getfield 82, 3) := by decide +kernel
theorem dX6_tallyRows_52 : decode cX6_tallyRows 52 = .ok (.iconst 0, 1) := by decide +kernel
theorem dX6_tallyRows_53 : decode cX6_tallyRows 53 = .ok (.iaload, 1) := by decide +kernel
theorem dX6_tallyRows_54 : decode cX6_tallyRows 54 = .ok (.aload_n 1, 1) := by decide +kernel
theorem dX6_tallyRows_55 : decode cX6_tallyRows 55 = .ok (.getfield 85, 3) := by decide +kernel
theorem dX6_tallyRows_58 : decode cX6_tallyRows 58 = .ok (.iconst 0, 1) := by decide +kernel
theorem dX6_tallyRows_59 : decode cX6_tallyRows 59 = .ok (.iaload, 1) := by decide +kernel
theorem dX6_tallyRows_60 : decode cX6_tallyRows 60 = .ok (.invokevirtual 88, 3) := by decide +kernel
theorem dX6_tallyRows_63 : decode cX6_tallyRows 63 = .ok (.ireturn, 1) := by decide +kernel
theorem dX6_gatherBounds_0 : decode cX6_gatherBounds 0 = .ok (.aload_n 0, 1) := by decide +kernel
theorem dX6_gatherBounds_1 : decode cX6_gatherBounds 1 = .ok (.getfield 38, 3) := by decide +kernel
theorem dX6_gatherBounds_4 : decode cX6_gatherBounds 4 = .ok (.iconst 0, 1) := by decide +kernel
theorem dX6_gatherBounds_5 : decode cX6_gatherBounds 5 = .ok (.invokestatic 72, 3) := by decide +kernel
theorem dX6_gatherBounds_8 : decode cX6_gatherBounds 8 = .ok (.aload_n 0, 1) := by decide +kernel
theorem dX6_gatherBounds_9 : decode cX6_gatherBounds 9 = .ok (.getfield 41, 3) := by decide +kernel
theorem dX6_gatherBounds_12 : decode cX6_gatherBounds 12 = .ok (.bipush 99, 2) := by decide +kernel
theorem dX6_gatherBounds_14 : decode cX6_gatherBounds 14 = .ok (.invokestatic 72, 3) := by decide +kernel
theorem dX6_gatherBounds_17 : decode cX6_gatherBounds 17 = .ok (.aload_n 0, 1) := by decide +kernel
theorem dX6_gatherBounds_18 : decode cX6_gatherBounds 18 = .ok (.getfield 44, 3) := by decide +kernel
theorem dX6_gatherBounds_21 : decode cX6_gatherBounds 21 = .ok (.iconst 0, 1) := by decide +kernel
theorem dX6_gatherBounds_22 : decode cX6_gatherBounds 22 = .ok (.invokestatic 72, 3) := by decide +kernel
theorem dX6_gatherBounds_25 : decode cX6_gatherBounds 25 = .ok (.aload_n 0, 1) := by decide +kernel
theorem dX6_gatherBounds_26 : decode cX6_gatherBounds 26 = .ok (.getfield 47, 3) := by decide +kernel
theorem dX6_gatherBounds_29 : decode cX6_gatherBounds 29 = .ok (.bipush 99, 2) := by decide +kernel
theorem dX6_gatherBounds_31 : decode cX6_gatherBounds 31 = .ok (.invokestatic 72, 3) := by decide +kernel
theorem dX6_gatherBounds_34 : decode cX6_gatherBounds 34 = .ok (.iconst 0, 1) := by decide +kernel
theorem dX6_gatherBounds_35 : decode cX6_gatherBounds 35 = .ok (.istore_n 2, 1) := by decide +kernel
theorem dX6_gatherBounds_36 : decode cX6_gatherBounds 36 = .ok (.iload_n 2, 1) := by decide +kernel
theorem dX6_gatherBounds_37 : decode cX6_gatherBounds 37 = .ok (.aload_n 0, 1) := by decide +kernel
theorem dX6_gatherBounds_38 : decode cX6_gatherBounds 38 = .ok (.getfield 31, 3) := by decide +kernel
theorem dX6_gatherBounds_41 : decode cX6_gatherBounds 41 = .ok (.if_icmp .ge 93, 3) := by decide +kernel
theorem dX6_gatherBounds_44 : decode cX6_gatherBounds 44 = .ok (.iload_n 2, 1) := by decide +kernel
theorem dX6_gatherBounds_45 : decode cX6_gatherBounds 45 = .ok (.bipush 30, 2) := by decide +kernel
theorem dX6_gatherBounds_47 : decode cX6_gatherBounds 47 = .ok (.if_icmp .ge 87, 3) := by decide +kernel
theorem dX6_gatherBounds_50 : decode cX6_gatherBounds 50 = .ok (.aload_n 0, 1) := by decide +kernel
theorem dX6_gatherBounds_51 : decode cX6_gatherBounds 51 = .ok (.getfield 28, 3) := by decide +kernel
theorem dX6_gatherBounds_54 : decode cX6_gatherBounds 54 = .ok (.iload_n 2, 1) := by decide +kernel
theorem dX6_gatherBounds_55 : decode cX6_gatherBounds 55 = .ok (.iaload, 1) := by decide +kernel
theorem dX6_gatherBounds_56 : decode cX6_gatherBounds 56 = .ok (.iconst (-1), 1) := by decide +kernel
theorem dX6_gatherBounds_57 : decode cX6_gatherBounds 57 = .ok (.if_icmp .eq 17, 3) := by decide +kernel
theorem dX6_gatherBounds_60 : decode cX6_gatherBounds 60 = .ok (.aload_n 0, 1) := by decide +kernel
theorem dX6_gatherBounds_61 : decode cX6_gatherBounds 61 = .ok (.getfield 28, 3) := by decide +kernel
theorem dX6_gatherBounds_64 : decode cX6_gatherBounds 64 = .ok (.iload_n 2, 1) := by decide +kernel
theorem dX6_gatherBounds_65 : decode cX6_gatherBounds 65 = .ok (.iaload, 1) := by decide +kernel
theorem dX6_gatherBounds_66 : decode cX6_gatherBounds 66 = .ok (.iload_n 1, 1) := by decide +kernel
theorem dX6_gatherBounds_67 : decode cX6_gatherBounds 67 = .ok (.if_icmp .gt 7, 3) := by decide +kernel
theorem dX6_gatherBounds_70 : decode cX6_gatherBounds 70 = .ok (.iconst 1, 1) := by decide +kernel
theorem dX6_gatherBounds_71 : decode cX6_gatherBounds 71 = .ok (.goto 4, 3) := by decide +kernel
theorem dX6_gatherBounds_74 : decode cX6_gatherBounds 74 = .ok (.iconst 0, 1) := by decide +kernel
theorem dX6_gatherBounds_75 : decode cX6_gatherBounds 75 = .ok (.istore_n 3, 1) := by decide +kernel
theorem dX6_gatherBounds_76 : decode cX6_gatherBounds 76 = .ok (.aload_n 0, 1) := by decide +kernel
theorem dX6_gatherBounds_77 : decode cX6_gatherBounds 77 = .ok (.getfield 25, 3) := by decide +kernel
theorem dX6_gatherBounds_80 : decode cX6_gatherBounds 80 = .ok (.iload_n 2, 1) := by decide +kernel
theorem dX6_gatherBounds_81 : decode cX6_gatherBounds 81 = .ok (.iaload, 1) := by decide +kernel
theorem dX6_gatherBounds_82 : decode cX6_gatherBounds 82 = .ok (.iload_n 1, 1) := by decide +kernel
theorem dX6_gatherBounds_83 : decode cX6_gatherBounds 83 = .ok (.if_icmp .gt 45, 3) := by decide +kernel
theorem dX6_gatherBounds_86 : decode cX6_gatherBounds 86 = .ok (.iload_n 3, 1) := by decide +kernel
theorem dX6_gatherBounds_87 : decode cX6_gatherBounds 87 = .ok (.ifCond .ne 41, 3) := by decide +kernel
theorem dX6_gatherBounds_90 : decode cX6_gatherBounds 90 = .ok (.aload_n 0, 1) := by decide +kernel
theorem dX6_gatherBounds_91 : decode cX6_gatherBounds 91 = .ok (.getfield 15, 3) := by decide +kernel
theorem dX6_gatherBounds_94 : decode cX6_gatherBounds 94 = .ok (.iload_n 2, 1) := by decide +kernel
theorem dX6_gatherBounds_95 : decode cX6_gatherBounds 95 = .ok (.baload, 1) := by decide +kernel
theorem dX6_gatherBounds_96 : decode cX6_gatherBounds 96 = .ok (.ifCond .eq 19, 3) := by decide +kernel
theorem dX6_gatherBounds_99 : decode cX6_gatherBounds 99 = .ok (.aload_n 0, 1) := by decide +kernel
theorem dX6_gatherBounds_100 : decode cX6_gatherBounds 100 = .ok (.aload_n 0, 1) := by decide +kernel
theorem dX6_gatherBounds_101 : decode cX6_gatherBounds 101 = .ok (.getfield 38, 3) := by decide +kernel
theorem dX6_gatherBounds_104 : decode cX6_gatherBounds 104 = .ok (.aload_n 0, 1) := by decide +kernel
theorem dX6_gatherBounds_105 : decode cX6_gatherBounds 105 = .ok (.getfield 41, 3) := by decide +kernel
theorem dX6_gatherBounds_108 : decode cX6_gatherBounds 108 = .ok (.iload_n 2, 1) := by decide +kernel
theorem dX6_gatherBounds_109 : decode cX6_gatherBounds 109 = .ok (.invokevirtual 92, 3) := by decide +kernel
theorem dX6_gatherBounds_112 : decode cX6_gatherBounds 112 = .ok (.goto 16, 3) := by decide +kernel
theorem dX6_gatherBounds_115 : decode cX6_gatherBounds 115 = .ok (.aload_n 0, 1) := by decide +kernel
theorem dX6_gatherBounds_116 : decode cX6_gatherBounds 116 = .ok (.aload_n 0, 1) := by decide +kernel
theorem dX6_gatherBounds_117 : decode cX6_gatherBounds 117 = .ok (.getfield 44, 3) := by decide +kernel
theorem dX6_gatherBounds_120 : decode cX6_gatherBounds 120 = .ok (.aload_n 0, 1) := by decide +kernel
theorem dX6_gatherBounds_121 : decode cX6_gatherBounds 121 = .ok (.getfield 47, 3) := by decide +kernel
theorem dX6_gatherBounds_124 : decode cX6_gatherBounds 124 = .ok (.iload_n 2, 1) := by decide +kernel
theorem dX6_gatherBounds_125 : decode cX6_gatherBounds 125 = .ok (.invokevirtual 92, 3) := by decide +kernel
theorem dX6_gatherBounds_128 : decode cX6_gatherBounds 128 = .ok (.iinc 2 1, 3) := by decide +kernel
theorem dX6_gatherBounds_131 : decode cX6_gatherBounds 131 = .ok (.goto (-95), 3) := by decide +kernel
theorem dX6_gatherBounds_134 : decode cX6_gatherBounds 134 = .ok (.return_, 1) := by decide +kernel
theorem dX6_narrow_0 : decode cX6_narrow 0 = .ok (.aload_n 0, 1) := by decide +kernel
theorem dX6_narrow_1 : decode cX6_narrow 1 = .ok (.getfield 11, 3) := by decide +kernel
theorem dX6_narrow_4 : decode cX6_narrow 4 = .ok (.iload_n 3, 1) := by decide +kernel
theorem dX6_narrow_5 : decode cX6_narrow 5 = .ok (.iaload, 1) := by decide +kernel
theorem dX6_narrow_6 : decode cX6_narrow 6 = .ok (.iconst 1, 1) := by decide +kernel
theorem dX6_narrow_7 : decode cX6_narrow 7 = .ok (.isub, 1) := by decide +kernel
theorem dX6_narrow_8 : decode cX6_narrow 8 = .ok (.istore 4, 2) := by decide +kernel
theorem dX6_narrow_10 : decode cX6_narrow 10 = .ok (.iload 4, 2) := by decide +kernel
theorem dX6_narrow_12 : decode cX6_narrow 12 = .ok (.ifCond .lt 9, 3) := by decide +kernel
theorem dX6_narrow_15 : decode cX6_narrow 15 = .ok (.iload 4, 2) := by decide +kernel
theorem dX6_narrow_17 : decode cX6_narrow 17 = .ok (.iconst 3, 1) := by decide +kernel
theorem dX6_narrow_18 : decode cX6_narrow 18 = .ok (.if_icmp .lt 4, 3) := by decide +kernel
theorem dX6_narrow_21 : decode cX6_narrow 21 = .ok (.return_, 1) := by decide +kernel
theorem dX6_narrow_22 : decode cX6_narrow 22 = .ok (.aload_n 0, 1) := by decide +kernel
theorem dX6_narrow_23 : decode cX6_narrow 23 = .ok (.getfield 22, 3) := by decide +kernel
theorem dX6_narrow_26 : decode cX6_narrow 26 = .ok (.iload_n 3, 1) := by decide +kernel
theorem dX6_narrow_27 : decode cX6_narrow 27 = .ok (.baload, 1) := by decide +kernel
theorem dX6_narrow_28 : decode cX6_narrow 28 = .ok (.ifCond .eq 23, 3) := by decide +kernel
theorem dX6_narrow_31 : decode cX6_narrow 31 = .ok (.aload_n 1, 1) := by decide +kernel
theorem dX6_narrow_32 : decode cX6_narrow 32 = .ok (.iload 4, 2) := by decide +kernel
theorem dX6_narrow_34 : decode cX6_narrow 34 = .ok (.aload_n 1, 1) := by decide +kernel
theorem dX6_narrow_35 : decode cX6_narrow 35 = .ok (.iload 4, 2) := by decide +kernel
theorem dX6_narrow_37 : decode cX6_narrow 37 = .ok (.iaload, 1) := by decide +kernel
theorem dX6_narrow_38 : decode cX6_narrow 38 = .ok (.aload_n 0, 1) := by decide +kernel
theorem dX6_narrow_39 : decode cX6_narrow 39 = .ok (.getfield 19, 3) := by decide +kernel
theorem dX6_narrow_42 : decode cX6_narrow 42 = .ok (.iload_n 3, 1) := by decide +kernel
theorem dX6_narrow_43 : decode cX6_narrow 43 = .ok (.iaload, 1) := by decide +kernel
theorem dX6_narrow_44 : decode cX6_narrow 44 = .ok (.invokestatic 96, 3) := by decide +kernel
theorem dX6_narrow_47 : decode cX6_narrow 47 = .ok (.iastore, 1) := by decide +kernel
theorem dX6_narrow_48 : decode cX6_narrow 48 = .ok (.goto 22, 3) := by decide +kernel
theorem dX6_narrow_51 : decode cX6_narrow 51 = .ok (.aload_n 2, 1) := by decide +kernel
theorem dX6_narrow_52 : decode cX6_narrow 52 = .ok (.iload 4, 2) := by decide +kernel
theorem dX6_narrow_54 : decode cX6_narrow 54 = .ok (.aload_n 2, 1) := by decide +kernel
theorem dX6_narrow_55 : decode cX6_narrow 55 = .ok (.iload 4, 2) := by decide +kernel
theorem dX6_narrow_57 : decode cX6_narrow 57 = .ok (.iaload, 1) := by decide +kernel
theorem dX6_narrow_58 : decode cX6_narrow 58 = .ok (.aload_n 0, 1) := by decide +kernel
theorem dX6_narrow_59 : decode cX6_narrow 59 = .ok (.getfield 19, 3) := by decide +kernel
theorem dX6_narrow_62 : decode cX6_narrow 62 = .ok (.iload_n 3, 1) := by decide +kernel
theorem dX6_narrow_63 : decode cX6_narrow 63 = .ok (.iaload, 1) := by decide +kernel
theorem dX6_narrow_64 : decode cX6_narrow 64 = .ok (.iconst 1, 1) := by decide +kernel
theorem dX6_narrow_65 : decode cX6_narrow 65 = .ok (.isub, 1) := by decide +kernel
theorem dX6_narrow_66 : decode cX6_narrow 66 = .ok (.invokestatic 102, 3) := by decide +kernel
theorem dX6_narrow_69 : decode cX6_narrow 69 = .ok (.iastore, 1) := by decide +kernel
theorem dX6_narrow_70 : decode cX6_narrow 70 = .ok (.return_, 1) := by decide +kernel
theorem dX6_rowsFrom_0 : decode cX6_rowsFrom 0 = .ok (.iload_n 2, 1) := by decide +kernel
theorem dX6_rowsFrom_1 : decode cX6_rowsFrom 1 = .ok (.iconst 3, 1) := by decide +kernel
theorem dX6_rowsFrom_2 : decode cX6_rowsFrom 2 = .ok (.if_icmp .lt 5, 3) := by decide +kernel
theorem dX6_rowsFrom_5 : decode cX6_rowsFrom 5 = .ok (.iconst 1, 1) := by decide +kernel
theorem dX6_rowsFrom_6 : decode cX6_rowsFrom 6 = .ok (.ireturn, 1) := by decide +kernel
theorem dX6_rowsFrom_7 : decode cX6_rowsFrom 7 = .ok (.iconst 0, 1) := by decide +kernel
theorem dX6_rowsFrom_8 : decode cX6_rowsFrom 8 = .ok (.istore 5, 2) := by decide +kernel
theorem dX6_rowsFrom_10 : decode cX6_rowsFrom 10 = .ok (.iconst 0, 1) := by decide +kernel
theorem dX6_rowsFrom_11 : decode cX6_rowsFrom 11 = .ok (.istore 6, 2) := by decide +kernel
theorem dX6_rowsFrom_13 : decode cX6_rowsFrom 13 = .ok (.iload 6, 2) := by decide +kernel
theorem dX6_rowsFrom_15 : decode cX6_rowsFrom 15 = .ok (.aload_n 1, 1) := by decide +kernel
theorem dX6_rowsFrom_16 : decode cX6_rowsFrom 16 = .ok (.getfield 105, 3) := by decide +kernel
theorem dX6_rowsFrom_19 : decode cX6_rowsFrom 19 = .ok (.if_icmp .gt 141, 3) := by decide +kernel
theorem dX6_rowsFrom_22 : decode cX6_rowsFrom 22 = .ok (.iload 6, 2) := by decide +kernel
theorem dX6_rowsFrom_24 : decode cX6_rowsFrom 24 = .ok (.aload_n 0, 1) := by decide +kernel
theorem dX6_rowsFrom_25 : decode cX6_rowsFrom 25 = .ok (.getfield 54, 3) := by decide +kernel
theorem dX6_rowsFrom_28 : decode cX6_rowsFrom 28 = .ok (.iload_n 2, 1) := by decide +kernel
theorem dX6_rowsFrom_29 : decode cX6_rowsFrom 29 = .ok (.aaload, 1) := by decide +kernel
theorem dX6_rowsFrom_30 : decode cX6_rowsFrom 30 = .ok (.arraylength, 1) := by decide +kernel
theorem dX6_rowsFrom_31 : decode cX6_rowsFrom 31 = .ok (.if_icmp .ge 129, 3) := by decide +kernel
theorem dX6_rowsFrom_34 : decode cX6_rowsFrom 34 = .ok (.aload_n 0, 1) := by decide +kernel
theorem dX6_rowsFrom_35 : decode cX6_rowsFrom 35 = .ok (.getfield 60, 3) := by decide +kernel
theorem dX6_rowsFrom_38 : decode cX6_rowsFrom 38 = .ok (.getfield 108, 3) := by decide +kernel
theorem dX6_rowsFrom_41 : decode cX6_rowsFrom 41 = .ok (.iconst 0, 1) := by decide +kernel
theorem dX6_rowsFrom_42 : decode cX6_rowsFrom 42 = .ok (.iload_n 3, 1) := by decide +kernel
theorem dX6_rowsFrom_43 : decode cX6_rowsFrom 43 = .ok (.iastore, 1) := by decide +kernel
theorem dX6_rowsFrom_44 : decode cX6_rowsFrom 44 = .ok (.aload_n 0, 1) := by decide +kernel
theorem dX6_rowsFrom_45 : decode cX6_rowsFrom 45 = .ok (.getfield 60, 3) := by decide +kernel
theorem dX6_rowsFrom_48 : decode cX6_rowsFrom 48 = .ok (.getfield 111, 3) := by decide +kernel
theorem dX6_rowsFrom_51 : decode cX6_rowsFrom 51 = .ok (.iconst 0, 1) := by decide +kernel
theorem dX6_rowsFrom_52 : decode cX6_rowsFrom 52 = .ok (.iload 4, 2) := by decide +kernel
theorem dX6_rowsFrom_54 : decode cX6_rowsFrom 54 = .ok (.iastore, 1) := by decide +kernel
theorem dX6_rowsFrom_55 : decode cX6_rowsFrom 55 = .ok (.aload_n 0, 1) := by decide +kernel
theorem dX6_rowsFrom_56 : decode cX6_rowsFrom 56 = .ok (.getfield 60, 3) := by decide +kernel
theorem dX6_rowsFrom_59 : decode cX6_rowsFrom 59 = .ok (.iload_n 2, 1) := by decide +kernel
theorem dX6_rowsFrom_60 : decode cX6_rowsFrom 60 = .ok (.putfield 112, 3) := by decide +kernel
theorem dX6_rowsFrom_63 : decode cX6_rowsFrom 63 = .ok (.iload 6, 2) := by decide +kernel
theorem dX6_rowsFrom_65 : decode cX6_rowsFrom 65 = .ok (.aload_n 1, 1) := by decide +kernel
theorem dX6_rowsFrom_66 : decode cX6_rowsFrom 66 = .ok (.getfield 105, 3) := by decide +kernel
theorem dX6_rowsFrom_69 : decode cX6_rowsFrom 69 = .ok (.if_icmp .ge 19, 3) := by decide +kernel
theorem dX6_rowsFrom_72 : decode cX6_rowsFrom 72 = .ok (.aload_n 0, 1) := by decide +kernel
theorem dX6_rowsFrom_73 : decode cX6_rowsFrom 73 = .ok (.getfield 60, 3) := by decide +kernel
theorem dX6_rowsFrom_76 : decode cX6_rowsFrom 76 = .ok (.aload_n 1, 1) := by decide +kernel
theorem dX6_rowsFrom_77 : decode cX6_rowsFrom 77 = .ok (.iconst 0, 1) := by decide +kernel
theorem dX6_rowsFrom_78 : decode cX6_rowsFrom 78 = .ok (.iload 6, 2) := by decide +kernel
theorem dX6_rowsFrom_80 : decode cX6_rowsFrom 80 = .ok (.iconst 1, 1) := by decide +kernel
theorem dX6_rowsFrom_81 : decode cX6_rowsFrom 81 = .ok (.invokevirtual 115, 3) := by decide +kernel
theorem dX6_rowsFrom_84 : decode cX6_rowsFrom 84 = .ok (.pop, 1) := by decide +kernel
theorem dX6_rowsFrom_85 : decode cX6_rowsFrom 85 = .ok (.goto 12, 3) := by decide +kernel
theorem dX6_rowsFrom_88 : decode cX6_rowsFrom 88 = .ok (.aload_n 0, 1) := by decide +kernel
theorem dX6_rowsFrom_89 : decode cX6_rowsFrom 89 = .ok (.getfield 60, 3) := by decide +kernel
theorem dX6_rowsFrom_92 : decode cX6_rowsFrom 92 = .ok (.aload_n 1, 1) := by decide +kernel
theorem dX6_rowsFrom_93 : decode cX6_rowsFrom 93 = .ok (.iconst 0, 1) := by decide +kernel
theorem dX6_rowsFrom_94 : decode cX6_rowsFrom 94 = .ok (.invokevirtual 119, 3) := by decide +kernel
theorem dX6_rowsFrom_97 : decode cX6_rowsFrom 97 = .ok (.aload_n 0, 1) := by decide +kernel
theorem dX6_rowsFrom_98 : decode cX6_rowsFrom 98 = .ok (.iload_n 2, 1) := by decide +kernel
theorem dX6_rowsFrom_99 : decode cX6_rowsFrom 99 = .ok (.invokevirtual 123, 3) := by decide +kernel
theorem dX6_rowsFrom_102 : decode cX6_rowsFrom 102 = .ok (.ifCond .eq 52, 3) := by decide +kernel
theorem dX6_rowsFrom_105 : decode cX6_rowsFrom 105 = .ok (.aload_n 0, 1) := by decide +kernel
theorem dX6_rowsFrom_106 : decode cX6_rowsFrom 106 = .ok (.aload_n 1, 1) := by decide +kernel
theorem dX6_rowsFrom_107 : decode cX6_rowsFrom 107 = .ok (.iload_n 2, 1) := by decide +kernel
theorem dX6_rowsFrom_108 : decode cX6_rowsFrom 108 = .ok (.iconst 1, 1) := by decide +kernel
theorem dX6_rowsFrom_109 : decode cX6_rowsFrom 109 = .ok (.iadd, 1) := by decide +kernel
theorem dX6_rowsFrom_110 : decode cX6_rowsFrom 110 = .ok (.aload_n 0, 1) := by decide +kernel
theorem dX6_rowsFrom_111 : decode cX6_rowsFrom 111 = .ok (.getfield 60, 3) := by decide +kernel
theorem dX6_rowsFrom_114 : decode cX6_rowsFrom 114 = .ok (.getfield 108, 3) := by decide +kernel
theorem dX6_rowsFrom_117 : decode cX6_rowsFrom 117 = .ok (.iconst 0, 1) := by decide +kernel
theorem dX6_rowsFrom_118 : decode cX6_rowsFrom 118 = .ok (.iaload, 1) := by decide +kernel
theorem dX6_rowsFrom_119 : decode cX6_rowsFrom 119 = .ok (.aload_n 0, 1) := by decide +kernel
theorem dX6_rowsFrom_120 : decode cX6_rowsFrom 120 = .ok (.getfield 60, 3) := by decide +kernel
theorem dX6_rowsFrom_123 : decode cX6_rowsFrom 123 = .ok (.getfield 111, 3) := by decide +kernel
theorem dX6_rowsFrom_126 : decode cX6_rowsFrom 126 = .ok (.iconst 0, 1) := by decide +kernel
theorem dX6_rowsFrom_127 : decode cX6_rowsFrom 127 = .ok (.iaload, 1) := by decide +kernel
theorem dX6_rowsFrom_128 : decode cX6_rowsFrom 128 = .ok (.invokevirtual 88, 3) := by decide +kernel
theorem dX6_rowsFrom_131 : decode cX6_rowsFrom 131 = .ok (.istore 7, 2) := by decide +kernel
theorem dX6_rowsFrom_133 : decode cX6_rowsFrom 133 = .ok (.aload_n 0, 1) := by decide +kernel
theorem dX6_rowsFrom_134 : decode cX6_rowsFrom 134 = .ok (.getfield 54, 3) := by decide +kernel
theorem dX6_rowsFrom_137 : decode cX6_rowsFrom 137 = .ok (.iload_n 2, 1) := by decide +kernel
theorem dX6_rowsFrom_138 : decode cX6_rowsFrom 138 = .ok (.aaload, 1) := by decide +kernel
theorem dX6_rowsFrom_139 : decode cX6_rowsFrom 139 = .ok (.iload 6, 2) := by decide +kernel
theorem dX6_rowsFrom_141 : decode cX6_rowsFrom 141 = .ok (.dup2, 1) := by decide +kernel
theorem dX6_rowsFrom_142 : decode cX6_rowsFrom 142 = .ok (.iaload, 1) := by decide +kernel
theorem dX6_rowsFrom_143 : decode cX6_rowsFrom 143 = .ok (.iload 7, 2) := by decide +kernel
theorem dX6_rowsFrom_145 : decode cX6_rowsFrom 145 = .ok (.iadd, 1) := by decide +kernel
theorem dX6_rowsFrom_146 : decode cX6_rowsFrom 146 = .ok (.iastore, 1) := by decide +kernel
theorem dX6_rowsFrom_147 : decode cX6_rowsFrom 147 = .ok (.iload 5, 2) := by decide +kernel
theorem dX6_rowsFrom_149 : decode cX6_rowsFrom 149 = .ok (.iload 7, 2) := by decide +kernel
theorem dX6_rowsFrom_151 : decode cX6_rowsFrom 151 = .ok (.iadd, 1) := by decide +kernel
theorem dX6_rowsFrom_152 : decode cX6_rowsFrom 152 = .ok (.istore 5, 2) := by decide +kernel
theorem dX6_rowsFrom_154 : decode cX6_rowsFrom 154 = .ok (.iinc 6 1, 3) := by decide +kernel
theorem dX6_rowsFrom_157 : decode cX6_rowsFrom 157 = .ok (.goto (-144), 3) := by decide +kernel
theorem dX6_rowsFrom_160 : decode cX6_rowsFrom 160 = .ok (.iload 5, 2) := by decide +kernel
theorem dX6_rowsFrom_162 : decode cX6_rowsFrom 162 = .ok (.ireturn, 1) := by decide +kernel
theorem dX6_fits_0 : decode cX6_fits 0 = .ok (.aload_n 0, 1) := by decide +kernel
theorem dX6_fits_1 : decode cX6_fits 1 = .ok (.getfield 60, 3) := by decide +kernel
theorem dX6_fits_4 : decode cX6_fits 4 = .ok (.getfield 108, 3) := by decide +kernel
theorem dX6_fits_7 : decode cX6_fits 7 = .ok (.iconst 0, 1) := by decide +kernel
theorem dX6_fits_8 : decode cX6_fits 8 = .ok (.iaload, 1) := by decide +kernel
theorem dX6_fits_9 : decode cX6_fits 9 = .ok (.istore_n 2, 1) := by decide +kernel
theorem dX6_fits_10 : decode cX6_fits 10 = .ok (.aload_n 0, 1) := by decide +kernel
theorem dX6_fits_11 : decode cX6_fits 11 = .ok (.getfield 60, 3) := by decide +kernel
theorem dX6_fits_14 : decode cX6_fits 14 = .ok (.getfield 111, 3) := by decide +kernel
theorem dX6_fits_17 : decode cX6_fits 17 = .ok (.iconst 0, 1) := by decide +kernel
theorem dX6_fits_18 : decode cX6_fits 18 = .ok (.iaload, 1) := by decide +kernel
theorem dX6_fits_19 : decode cX6_fits 19 = .ok (.istore_n 3, 1) := by decide +kernel
theorem dX6_fits_20 : decode cX6_fits 20 = .ok (.iload_n 3, 1) := by decide +kernel
theorem dX6_fits_21 : decode cX6_fits 21 = .ok (.aload_n 0, 1) := by decide +kernel
theorem dX6_fits_22 : decode cX6_fits 22 = .ok (.getfield 38, 3) := by decide +kernel
theorem dX6_fits_25 : decode cX6_fits 25 = .ok (.iload_n 1, 1) := by decide +kernel
theorem dX6_fits_26 : decode cX6_fits 26 = .ok (.iaload, 1) := by decide +kernel
theorem dX6_fits_27 : decode cX6_fits 27 = .ok (.if_icmp .lt 37, 3) := by decide +kernel
theorem dX6_fits_30 : decode cX6_fits 30 = .ok (.iload_n 3, 1) := by decide +kernel
theorem dX6_fits_31 : decode cX6_fits 31 = .ok (.aload_n 0, 1) := by decide +kernel
theorem dX6_fits_32 : decode cX6_fits 32 = .ok (.getfield 41, 3) := by decide +kernel
theorem dX6_fits_35 : decode cX6_fits 35 = .ok (.iload_n 1, 1) := by decide +kernel
theorem dX6_fits_36 : decode cX6_fits 36 = .ok (.iaload, 1) := by decide +kernel
theorem dX6_fits_37 : decode cX6_fits 37 = .ok (.if_icmp .gt 27, 3) := by decide +kernel
theorem dX6_fits_40 : decode cX6_fits 40 = .ok (.iload_n 2, 1) := by decide +kernel
theorem dX6_fits_41 : decode cX6_fits 41 = .ok (.aload_n 0, 1) := by decide +kernel
theorem dX6_fits_42 : decode cX6_fits 42 = .ok (.getfield 44, 3) := by decide +kernel
theorem dX6_fits_45 : decode cX6_fits 45 = .ok (.iload_n 1, 1) := by decide +kernel
theorem dX6_fits_46 : decode cX6_fits 46 = .ok (.iaload, 1) := by decide +kernel
theorem dX6_fits_47 : decode cX6_fits 47 = .ok (.if_icmp .lt 17, 3) := by decide +kernel
theorem dX6_fits_50 : decode cX6_fits 50 = .ok (.iload_n 2, 1) := by decide +kernel
theorem dX6_fits_51 : decode cX6_fits 51 = .ok (.aload_n 0, 1) := by decide +kernel
theorem dX6_fits_52 : decode cX6_fits 52 = .ok (.getfield 47, 3) := by decide +kernel
theorem dX6_fits_55 : decode cX6_fits 55 = .ok (.iload_n 1, 1) := by decide +kernel
theorem dX6_fits_56 : decode cX6_fits 56 = .ok (.iaload, 1) := by decide +kernel
theorem dX6_fits_57 : decode cX6_fits 57 = .ok (.if_icmp .gt 7, 3) := by decide +kernel
theorem dX6_fits_60 : decode cX6_fits 60 = .ok (.iconst 1, 1) := by decide +kernel
theorem dX6_fits_61 : decode cX6_fits 61 = .ok (.goto 4, 3) := by decide +kernel
theorem dX6_fits_64 : decode cX6_fits 64 = .ok (.iconst 0, 1) := by decide +kernel
theorem dX6_fits_65 : decode cX6_fits 65 = .ok (.ireturn, 1) := by decide +kernel
theorem dX6_mostLeft_0 : decode cX6_mostLeft 0 = .ok (.iconst 0, 1) := by decide +kernel
theorem dX6_mostLeft_1 : decode cX6_mostLeft 1 = .ok (.istore_n 2, 1) := by decide +kernel
theorem dX6_mostLeft_2 : decode cX6_mostLeft 2 = .ok (.iload_n 1, 1) := by decide +kernel
theorem dX6_mostLeft_3 : decode cX6_mostLeft 3 = .ok (.iconst 1, 1) := by decide +kernel
theorem dX6_mostLeft_4 : decode cX6_mostLeft 4 = .ok (.if_icmp .lt 44, 3) := by decide +kernel
theorem dX6_mostLeft_7 : decode cX6_mostLeft 7 = .ok (.iload_n 1, 1) := by decide +kernel
theorem dX6_mostLeft_8 : decode cX6_mostLeft 8 = .ok (.iconst 3, 1) := by decide +kernel
theorem dX6_mostLeft_9 : decode cX6_mostLeft 9 = .ok (.if_icmp .gt 39, 3) := by decide +kernel
theorem dX6_mostLeft_12 : decode cX6_mostLeft 12 = .ok (.iconst 0, 1) := by decide +kernel
theorem dX6_mostLeft_13 : decode cX6_mostLeft 13 = .ok (.istore_n 3, 1) := by decide +kernel
theorem dX6_mostLeft_14 : decode cX6_mostLeft 14 = .ok (.iload_n 3, 1) := by decide +kernel
theorem dX6_mostLeft_15 : decode cX6_mostLeft 15 = .ok (.aload_n 0, 1) := by decide +kernel
theorem dX6_mostLeft_16 : decode cX6_mostLeft 16 = .ok (.getfield 54, 3) := by decide +kernel
theorem dX6_mostLeft_19 : decode cX6_mostLeft 19 = .ok (.iload_n 1, 1) := by decide +kernel
theorem dX6_mostLeft_20 : decode cX6_mostLeft 20 = .ok (.iconst 1, 1) := by decide +kernel
theorem dX6_mostLeft_21 : decode cX6_mostLeft 21 = .ok (.isub, 1) := by decide +kernel
theorem dX6_mostLeft_22 : decode cX6_mostLeft 22 = .ok (.aaload, 1) := by decide +kernel
theorem dX6_mostLeft_23 : decode cX6_mostLeft 23 = .ok (.arraylength, 1) := by decide +kernel
theorem dX6_mostLeft_24 : decode cX6_mostLeft 24 = .ok (.if_icmp .ge 24, 3) := by decide +kernel
theorem dX6_mostLeft_27 : decode cX6_mostLeft 27 = .ok (.iload_n 2, 1) := by decide +kernel
theorem dX6_mostLeft_28 : decode cX6_mostLeft 28 = .ok (.aload_n 0, 1) := by decide +kernel
theorem dX6_mostLeft_29 : decode cX6_mostLeft 29 = .ok (.getfield 54, 3) := by decide +kernel
theorem dX6_mostLeft_32 : decode cX6_mostLeft 32 = .ok (.iload_n 1, 1) := by decide +kernel
theorem dX6_mostLeft_33 : decode cX6_mostLeft 33 = .ok (.iconst 1, 1) := by decide +kernel
theorem dX6_mostLeft_34 : decode cX6_mostLeft 34 = .ok (.isub, 1) := by decide +kernel
theorem dX6_mostLeft_35 : decode cX6_mostLeft 35 = .ok (.aaload, 1) := by decide +kernel
theorem dX6_mostLeft_36 : decode cX6_mostLeft 36 = .ok (.iload_n 3, 1) := by decide +kernel
theorem dX6_mostLeft_37 : decode cX6_mostLeft 37 = .ok (.iaload, 1) := by decide +kernel
theorem dX6_mostLeft_38 : decode cX6_mostLeft 38 = .ok (.invokestatic 96, 3) := by decide +kernel
theorem dX6_mostLeft_41 : decode cX6_mostLeft 41 = .ok (.istore_n 2, 1) := by decide +kernel
theorem dX6_mostLeft_42 : decode cX6_mostLeft 42 = .ok (.iinc 3 1, 3) := by decide +kernel
theorem dX6_mostLeft_45 : decode cX6_mostLeft 45 = .ok (.goto (-31), 3) := by decide +kernel
theorem dX6_mostLeft_48 : decode cX6_mostLeft 48 = .ok (.iload_n 2, 1) := by decide +kernel
theorem dX6_mostLeft_49 : decode cX6_mostLeft 49 = .ok (.ireturn, 1) := by decide +kernel
