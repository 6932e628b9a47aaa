theorem dX7_init_0 : decode cX7_init 0 = .ok (.aload_n 0, 1) := by decide +kernel
theorem dX7_init_1 : decode cX7_init 1 = .ok (.invokespecial 1, 3) := by decide +kernel
theorem dX7_init_4 : decode cX7_init 4 = .ok (.aload_n 0, 1) := by decide +kernel
theorem dX7_init_5 : decode cX7_init 5 = .ok (.new 7, 3) := by decide +kernel
theorem dX7_init_8 : decode cX7_init 8 = .ok (.dup, 1) := by decide +kernel
theorem dX7_init_9 : decode cX7_init 9 = .ok (.invokespecial 9, 3) := by decide +kernel
theorem dX7_init_12 : decode cX7_init 12 = .ok (.putfield 10, 3) := by decide +kernel
theorem dX7_init_15 : decode cX7_init 15 = .ok (.aload_n 0, 1) := by decide +kernel
theorem dX7_init_16 : decode cX7_init 16 = .ok (.aload_n 0, 1) := by decide +kernel
theorem dX7_init_17 : decode cX7_init 17 = .ok (.getfield 10, 3) := by decide +kernel
theorem dX7_init_20 : decode cX7_init 20 = .ok (.getfield 16, 3) := by decide +kernel
theorem dX7_init_23 : decode cX7_init 23 = .ok (.putfield 20, 3) := by decide +kernel
theorem dX7_init_26 : decode cX7_init 26 = .ok (.aload_n 0, 1) := by decide +kernel
theorem dX7_init_27 : decode cX7_init 27 = .ok (.bipush 6, 2) := by decide +kernel
theorem dX7_init_29 : decode cX7_init 29 = .ok (.newarray .long, 2) := by decide +kernel
theorem dX7_init_31 : decode cX7_init 31 = .ok (.putfield 23, 3) := by decide +kernel
theorem dX7_init_34 : decode cX7_init 34 = .ok (.aload_n 0, 1) := by decide +kernel
theorem dX7_init_35 : decode cX7_init 35 = .ok (.iconst 5, 1) := by decide +kernel
theorem dX7_init_36 : decode cX7_init 36 = .ok (.newarray .long, 2) := by decide +kernel
theorem dX7_init_38 : decode cX7_init 38 = .ok (.putfield 27, 3) := by decide +kernel
theorem dX7_init_41 : decode cX7_init 41 = .ok (.aload_n 0, 1) := by decide +kernel
theorem dX7_init_42 : decode cX7_init 42 = .ok (.iconst 0, 1) := by decide +kernel
theorem dX7_init_43 : decode cX7_init 43 = .ok (.putfield 30, 3) := by decide +kernel
theorem dX7_init_46 : decode cX7_init 46 = .ok (.aload_n 0, 1) := by decide +kernel
theorem dX7_init_47 : decode cX7_init 47 = .ok (.iconst 0, 1) := by decide +kernel
theorem dX7_init_48 : decode cX7_init 48 = .ok (.putfield 34, 3) := by decide +kernel
theorem dX7_init_51 : decode cX7_init 51 = .ok (.return_, 1) := by decide +kernel
theorem dX7_readInto_0 : decode cX7_readInto 0 = .ok (.aload_n 1, 1) := by decide +kernel
theorem dX7_readInto_1 : decode cX7_readInto 1 = .ok (.invokevirtual 37, 3) := by decide +kernel
theorem dX7_readInto_4 : decode cX7_readInto 4 = .ok (.aload_n 0, 1) := by decide +kernel
theorem dX7_readInto_5 : decode cX7_readInto 5 = .ok (.iconst 0, 1) := by decide +kernel
theorem dX7_readInto_6 : decode cX7_readInto 6 = .ok (.putfield 30, 3) := by decide +kernel
theorem dX7_readInto_9 : decode cX7_readInto 9 = .ok (.aload_n 0, 1) := by decide +kernel
theorem dX7_readInto_10 : decode cX7_readInto 10 = .ok (.getfield 20, 3) := by decide +kernel
theorem dX7_readInto_13 : decode cX7_readInto 13 = .ok (.invokevirtual 40, 3) := by decide +kernel
theorem dX7_readInto_16 : decode cX7_readInto 16 = .ok (.iconst 1, 1) := by decide +kernel
theorem dX7_readInto_17 : decode cX7_readInto 17 = .ok (.istore_n 2, 1) := by decide +kernel
theorem dX7_readInto_18 : decode cX7_readInto 18 = .ok (.iconst 0, 1) := by decide +kernel
theorem dX7_readInto_19 : decode cX7_readInto 19 = .ok (.istore_n 3, 1) := by decide +kernel
theorem dX7_readInto_20 : decode cX7_readInto 20 = .ok (.iload_n 2, 1) := by decide +kernel
theorem dX7_readInto_21 : decode cX7_readInto 21 = .ok (.ifCond .eq 54, 3) := by decide +kernel
theorem dX7_readInto_24 : decode cX7_readInto 24 = .ok (.iload_n 3, 1) := by decide +kernel
theorem dX7_readInto_25 : decode cX7_readInto 25 = .ok (.sipush 1600, 3) := by decide +kernel
theorem dX7_readInto_28 : decode cX7_readInto 28 = .ok (.if_icmp .ge 47, 3) := by decide +kernel
theorem dX7_readInto_31 : decode cX7_readInto 31 = .ok (.aload_n 0, 1) := by decide +kernel
theorem dX7_readInto_32 : decode cX7_readInto 32 = .ok (.getfield 20, 3) := by decide +kernel
theorem dX7_readInto_35 : decode cX7_readInto 35 = .ok (.getfield 47, 3) := by decide +kernel
theorem dX7_readInto_38 : decode cX7_readInto 38 = .ok (.bipush 102, 2) := by decide +kernel
theorem dX7_readInto_40 : decode cX7_readInto 40 = .ok (.if_icmp .eq 35, 3) := by decide +kernel
theorem dX7_readInto_43 : decode cX7_readInto 43 = .ok (.aload_n 0, 1) := by decide +kernel
theorem dX7_readInto_44 : decode cX7_readInto 44 = .ok (.aload_n 1, 1) := by decide +kernel
theorem dX7_readInto_45 : decode cX7_readInto 45 = .ok (.invokevirtual 50, 3) := by decide +kernel
theorem dX7_readInto_48 : decode cX7_readInto 48 = .ok (.ifCond .eq 19, 3) := by decide +kernel
theorem dX7_readInto_51 : decode cX7_readInto 51 = .ok (.aload_n 0, 1) := by decide +kernel
theorem dX7_readInto_52 : decode cX7_readInto 52 = .ok (.getfield 20, 3) := by decide +kernel
theorem dX7_readInto_55 : decode cX7_readInto 55 = .ok (.bipush 59, 2) := by decide +kernel
theorem dX7_readInto_57 : decode cX7_readInto 57 = .ok (.invokevirtual 54, 3) := by decide +kernel
theorem dX7_readInto_60 : decode cX7_readInto 60 = .ok (.ifCond .eq 7, 3) := by decide +kernel
theorem dX7_readInto_63 : decode cX7_readInto 63 = .ok (.iconst 1, 1) := by decide +kernel
theorem dX7_readInto_64 : decode cX7_readInto 64 = .ok (.goto 4, 3) := by decide +kernel
theorem dX7_readInto_67 : decode cX7_readInto 67 = .ok (.iconst 0, 1) := by decide +kernel
theorem dX7_readInto_68 : decode cX7_readInto 68 = .ok (.istore_n 2, 1) := by decide +kernel
theorem dX7_readInto_69 : decode cX7_readInto 69 = .ok (.iinc 3 1, 3) := by decide +kernel
theorem dX7_readInto_72 : decode cX7_readInto 72 = .ok (.goto (-52), 3) := by decide +kernel
theorem dX7_readInto_75 : decode cX7_readInto 75 = .ok (.iload_n 2, 1) := by decide +kernel
theorem dX7_readInto_76 : decode cX7_readInto 76 = .ok (.ireturn, 1) := by decide +kernel
theorem dX7_line_0 : decode cX7_line 0 = .ok (.aload_n 0, 1) := by decide +kernel
theorem dX7_line_1 : decode cX7_line 1 = .ok (.getfield 20, 3) := by decide +kernel
theorem dX7_line_4 : decode cX7_line 4 = .ok (.getfield 47, 3) := by decide +kernel
theorem dX7_line_7 : decode cX7_line 7 = .ok (.tableswitch 138 10 19 #[53, 138, 138, 59, 138, 65, 74, 83, 101, 119], 53) := by decide +kernel
theorem dX7_line_60 : decode cX7_line 60 = .ok (.aload_n 0, 1) := by decide +kernel
theorem dX7_line_61 : decode cX7_line 61 = .ok (.aload_n 1, 1) := by decide +kernel
theorem dX7_line_62 : decode cX7_line 62 = .ok (.invokevirtual 58, 3) := by decide +kernel
theorem dX7_line_65 : decode cX7_line 65 = .ok (.ireturn, 1) := by decide +kernel
theorem dX7_line_66 : decode cX7_line 66 = .ok (.aload_n 0, 1) := by decide +kernel
theorem dX7_line_67 : decode cX7_line 67 = .ok (.aload_n 1, 1) := by decide +kernel
theorem dX7_line_68 : decode cX7_line 68 = .ok (.invokevirtual 61, 3) := by decide +kernel
theorem dX7_line_71 : decode cX7_line 71 = .ok (.ireturn, 1) := by decide +kernel
theorem dX7_line_72 : decode cX7_line 72 = .ok (.aload_n 0, 1) := by decide +kernel
theorem dX7_line_73 : decode cX7_line 73 = .ok (.aload_n 1, 1) := by decide +kernel
theorem dX7_line_74 : decode cX7_line 74 = .ok (.getfield 64, 3) := by decide +kernel
theorem dX7_line_77 : decode cX7_line 77 = .ok (.invokevirtual 68, 3) := by decide +kernel
theorem dX7_line_80 : decode cX7_line 80 = .ok (.ireturn, 1) := by decide +kernel
theorem dX7_line_81 : decode cX7_line 81 = .ok (.aload_n 0, 1) := by decide +kernel
theorem dX7_line_82 : decode cX7_line 82 = .ok (.aload_n 1, 1) := by decide +kernel
theorem dX7_line_83 : decode cX7_line 83 = .ok (.getfield 72, 3) := by decide +kernel
theorem dX7_line_86 : decode cX7_line 86 = .ok (.invokevirtual 68, 3) := by decide +kernel
theorem dX7_line_89 : decode cX7_line 89 = .ok (.ireturn, 1) := by decide +kernel
theorem dX7_line_90 : decode cX7_line 90 = .ok (.aload_n 0, 1) := by decide +kernel
theorem dX7_line_91 : decode cX7_line 91 = .ok (.iconst 1, 1) := by decide +kernel
theorem dX7_line_92 : decode cX7_line 92 = .ok (.bipush 99, 2) := by decide +kernel
theorem dX7_line_94 : decode cX7_line 94 = .ok (.invokevirtual 75, 3) := by decide +kernel
theorem dX7_line_97 : decode cX7_line 97 = .ok (.istore_n 2, 1) := by decide +kernel
theorem dX7_line_98 : decode cX7_line 98 = .ok (.aload_n 1, 1) := by decide +kernel
theorem dX7_line_99 : decode cX7_line 99 = .ok (.aload_n 0, 1) := by decide +kernel
theorem dX7_line_100 : decode cX7_line 100 = .ok (.getfield 34, 3) := by decide +kernel
theorem dX7_line_103 : decode cX7_line 103 = .ok (.putfield 79, 3) := by decide +kernel
theorem dX7_line_106 : decode cX7_line 106 = .ok (.iload_n 2, 1) := by decide +kernel
theorem dX7_line_107 : decode cX7_line 107 = .ok (.ireturn, 1) := by decide +kernel
theorem dX7_line_108 : decode cX7_line 108 = .ok (.aload_n 0, 1) := by decide +kernel
theorem dX7_line_109 : decode cX7_line 109 = .ok (.iconst 0, 1) := by decide +kernel
theorem dX7_line_110 : decode cX7_line 110 = .ok (.bipush 100, 2) := by decide +kernel
theorem dX7_line_112 : decode cX7_line 112 = .ok (.invokevirtual 75, 3) := by decide +kernel
theorem dX7_line_115 : decode cX7_line 115 = .ok (.istore_n 2, 1) := by decide +kernel
theorem dX7_line_116 : decode cX7_line 116 = .ok (.aload_n 1, 1) := by decide +kernel
theorem dX7_line_117 : decode cX7_line 117 = .ok (.aload_n 0, 1) := by decide +kernel
theorem dX7_line_118 : decode cX7_line 118 = .ok (.getfield 34, 3) := by decide +kernel
theorem dX7_line_121 : decode cX7_line 121 = .ok (.putfield 82, 3) := by decide +kernel
theorem dX7_line_124 : decode cX7_line 124 = .ok (.iload_n 2, 1) := by decide +kernel
theorem dX7_line_125 : decode cX7_line 125 = .ok (.ireturn, 1) := by decide +kernel
theorem dX7_line_126 : decode cX7_line 126 = .ok (.aload_n 0, 1) := by decide +kernel
theorem dX7_line_127 : decode cX7_line 127 = .ok (.iconst 0, 1) := by decide +kernel
theorem dX7_line_128 : decode cX7_line 128 = .ok (.sipush 999, 3) := by decide +kernel
theorem dX7_line_131 : decode cX7_line 131 = .ok (.invokevirtual 75, 3) := by decide +kernel
theorem dX7_line_134 : decode cX7_line 134 = .ok (.istore_n 2, 1) := by decide +kernel
theorem dX7_line_135 : decode cX7_line 135 = .ok (.aload_n 1, 1) := by decide +kernel
theorem dX7_line_136 : decode cX7_line 136 = .ok (.aload_n 0, 1) := by decide +kernel
theorem dX7_line_137 : decode cX7_line 137 = .ok (.getfield 34, 3) := by decide +kernel
theorem dX7_line_140 : decode cX7_line 140 = .ok (.putfield 85, 3) := by decide +kernel
theorem dX7_line_143 : decode cX7_line 143 = .ok (.iload_n 2, 1) := by decide +kernel
theorem dX7_line_144 : decode cX7_line 144 = .ok (.ireturn, 1) := by decide +kernel
theorem dX7_line_145 : decode cX7_line 145 = .ok (.aload_n 0, 1) := by decide +kernel
theorem dX7_line_146 : decode cX7_line 146 = .ok (.getfield 20, 3) := by decide +kernel
theorem dX7_line_149 : decode cX7_line 149 = .ok (.iconst 2, 1) := by decide +kernel
theorem dX7_line_150 : decode cX7_line 150 = .ok (.invokevirtual 88, 3) := by decide +kernel
theorem dX7_line_153 : decode cX7_line 153 = .ok (.ireturn, 1) := by decide +kernel
theorem dX7_hearthLine_0 : decode cX7_hearthLine 0 = .ok (.aload_n 1, 1) := by decide +kernel
theorem dX7_hearthLine_1 : decode cX7_hearthLine 1 = .ok (.getfield 91, 3) := by decide +kernel
theorem dX7_hearthLine_4 : decode cX7_hearthLine 4 = .ok (.istore_n 2, 1) := by decide +kernel
theorem dX7_hearthLine_5 : decode cX7_hearthLine 5 = .ok (.iload_n 2, 1) := by decide +kernel
theorem dX7_hearthLine_6 : decode cX7_hearthLine 6 = .ok (.ifCond .lt 9, 3) := by decide +kernel
theorem dX7_hearthLine_9 : decode cX7_hearthLine 9 = .ok (.iload_n 2, 1) := by decide +kernel
theorem dX7_hearthLine_10 : decode cX7_hearthLine 10 = .ok (.bipush 6, 2) := by decide +kernel
theorem dX7_hearthLine_12 : decode cX7_hearthLine 12 = .ok (.if_icmp .lt 12, 3) := by decide +kernel
theorem dX7_hearthLine_15 : decode cX7_hearthLine 15 = .ok (.aload_n 0, 1) := by decide +kernel
theorem dX7_hearthLine_16 : decode cX7_hearthLine 16 = .ok (.getfield 20, 3) := by decide +kernel
theorem dX7_hearthLine_19 : decode cX7_hearthLine 19 = .ok (.iconst 2, 1) := by decide +kernel
theorem dX7_hearthLine_20 : decode cX7_hearthLine 20 = .ok (.invokevirtual 88, 3) := by decide +kernel
theorem dX7_hearthLine_23 : decode cX7_hearthLine 23 = .ok (.ireturn, 1) := by decide +kernel
theorem dX7_hearthLine_24 : decode cX7_hearthLine 24 = .ok (.aload_n 0, 1) := by decide +kernel
theorem dX7_hearthLine_25 : decode cX7_hearthLine 25 = .ok (.getfield 20, 3) := by decide +kernel
theorem dX7_hearthLine_28 : decode cX7_hearthLine 28 = .ok (.invokevirtual 94, 3) := by decide +kernel
theorem dX7_hearthLine_31 : decode cX7_hearthLine 31 = .ok (.aload_n 0, 1) := by decide +kernel
theorem dX7_hearthLine_32 : decode cX7_hearthLine 32 = .ok (.aload_n 0, 1) := by decide +kernel
theorem dX7_hearthLine_33 : decode cX7_hearthLine 33 = .ok (.getfield 23, 3) := by decide +kernel
theorem dX7_hearthLine_36 : decode cX7_hearthLine 36 = .ok (.iload_n 2, 1) := by decide +kernel
theorem dX7_hearthLine_37 : decode cX7_hearthLine 37 = .ok (.invokevirtual 97, 3) := by decide +kernel
theorem dX7_hearthLine_40 : decode cX7_hearthLine 40 = .ok (.ifCond .eq 15, 3) := by decide +kernel
theorem dX7_hearthLine_43 : decode cX7_hearthLine 43 = .ok (.aload_n 0, 1) := by decide +kernel
theorem dX7_hearthLine_44 : decode cX7_hearthLine 44 = .ok (.bipush 11, 2) := by decide +kernel
theorem dX7_hearthLine_46 : decode cX7_hearthLine 46 = .ok (.iconst 0, 1) := by decide +kernel
theorem dX7_hearthLine_47 : decode cX7_hearthLine 47 = .ok (.bipush 99, 2) := by decide +kernel
theorem dX7_hearthLine_49 : decode cX7_hearthLine 49 = .ok (.invokevirtual 101, 3) := by decide +kernel
theorem dX7_hearthLine_52 : decode cX7_hearthLine 52 = .ok (.ifCond .ne 5, 3) := by decide +kernel
theorem dX7_hearthLine_55 : decode cX7_hearthLine 55 = .ok (.iconst 0, 1) := by decide +kernel
theorem dX7_hearthLine_56 : decode cX7_hearthLine 56 = .ok (.ireturn, 1) := by decide +kernel
theorem dX7_hearthLine_57 : decode cX7_hearthLine 57 = .ok (.aload_n 1, 1) := by decide +kernel
theorem dX7_hearthLine_58 : decode cX7_hearthLine 58 = .ok (.getfield 105, 3) := by decide +kernel
theorem dX7_hearthLine_61 : decode cX7_hearthLine 61 = .ok (.iload_n 2, 1) := by decide +kernel
theorem dX7_hearthLine_62 : decode cX7_hearthLine 62 = .ok (.aload_n 0, 1) := by decide +kernel
theorem dX7_hearthLine_63 : decode cX7_hearthLine 63 = .ok (.getfield 34, 3) := by decide +kernel
theorem dX7_hearthLine_66 : decode cX7_hearthLine 66 = .ok (.iastore, 1) := by decide +kernel
theorem dX7_hearthLine_67 : decode cX7_hearthLine 67 = .ok (.aload_n 0, 1) := by decide +kernel
theorem dX7_hearthLine_68 : decode cX7_hearthLine 68 = .ok (.iconst 1, 1) := by decide +kernel
theorem dX7_hearthLine_69 : decode cX7_hearthLine 69 = .ok (.iconst 0, 1) := by decide +kernel
theorem dX7_hearthLine_70 : decode cX7_hearthLine 70 = .ok (.bipush 99, 2) := by decide +kernel
theorem dX7_hearthLine_72 : decode cX7_hearthLine 72 = .ok (.invokevirtual 101, 3) := by decide +kernel
theorem dX7_hearthLine_75 : decode cX7_hearthLine 75 = .ok (.ifCond .ne 5, 3) := by decide +kernel
theorem dX7_hearthLine_78 : decode cX7_hearthLine 78 = .ok (.iconst 0, 1) := by decide +kernel
theorem dX7_hearthLine_79 : decode cX7_hearthLine 79 = .ok (.ireturn, 1) := by decide +kernel
theorem dX7_hearthLine_80 : decode cX7_hearthLine 80 = .ok (.aload_n 1, 1) := by decide +kernel
theorem dX7_hearthLine_81 : decode cX7_hearthLine 81 = .ok (.getfield 109, 3) := by decide +kernel
theorem dX7_hearthLine_84 : decode cX7_hearthLine 84 = .ok (.iload_n 2, 1) := by decide +kernel
theorem dX7_hearthLine_85 : decode cX7_hearthLine 85 = .ok (.aload_n 0, 1) := by decide +kernel
theorem dX7_hearthLine_86 : decode cX7_hearthLine 86 = .ok (.getfield 34, 3) := by decide +kernel
theorem dX7_hearthLine_89 : decode cX7_hearthLine 89 = .ok (.iastore, 1) := by decide +kernel
theorem dX7_hearthLine_90 : decode cX7_hearthLine 90 = .ok (.aload_n 0, 1) := by decide +kernel
theorem dX7_hearthLine_91 : decode cX7_hearthLine 91 = .ok (.iconst 1, 1) := by decide +kernel
theorem dX7_hearthLine_92 : decode cX7_hearthLine 92 = .ok (.putfield 34, 3) := by decide +kernel
theorem dX7_hearthLine_95 : decode cX7_hearthLine 95 = .ok (.aload_n 0, 1) := by decide +kernel
theorem dX7_hearthLine_96 : decode cX7_hearthLine 96 = .ok (.getfield 20, 3) := by decide +kernel
theorem dX7_hearthLine_99 : decode cX7_hearthLine 99 = .ok (.getfield 47, 3) := by decide +kernel
theorem dX7_hearthLine_102 : decode cX7_hearthLine 102 = .ok (.bipush 12, 2) := by decide +kernel
theorem dX7_hearthLine_104 : decode cX7_hearthLine 104 = .ok (.if_icmp .ne 16, 3) := by decide +kernel
theorem dX7_hearthLine_107 : decode cX7_hearthLine 107 = .ok (.aload_n 0, 1) := by decide +kernel
theorem dX7_hearthLine_108 : decode cX7_hearthLine 108 = .ok (.bipush 12, 2) := by decide +kernel
theorem dX7_hearthLine_110 : decode cX7_hearthLine 110 = .ok (.iconst 1, 1) := by decide +kernel
theorem dX7_hearthLine_111 : decode cX7_hearthLine 111 = .ok (.iconst 5, 1) := by decide +kernel
theorem dX7_hearthLine_112 : decode cX7_hearthLine 112 = .ok (.invokevirtual 101, 3) := by decide +kernel
theorem dX7_hearthLine_115 : decode cX7_hearthLine 115 = .ok (.ifCond .ne 5, 3) := by decide +kernel
theorem dX7_hearthLine_118 : decode cX7_hearthLine 118 = .ok (.iconst 0, 1) := by decide +kernel
theorem dX7_hearthLine_119 : decode cX7_hearthLine 119 = .ok (.ireturn, 1) := by decide +kernel
theorem dX7_hearthLine_120 : decode cX7_hearthLine 120 = .ok (.aload_n 1, 1) := by decide +kernel
theorem dX7_hearthLine_121 : decode cX7_hearthLine 121 = .ok (.getfield 112, 3) := by decide +kernel
theorem dX7_hearthLine_124 : decode cX7_hearthLine 124 = .ok (.iload_n 2, 1) := by decide +kernel
theorem dX7_hearthLine_125 : decode cX7_hearthLine 125 = .ok (.aload_n 0, 1) := by decide +kernel
theorem dX7_hearthLine_126 : decode cX7_hearthLine 126 = .ok (.getfield 34, 3) := by decide +kernel
theorem dX7_hearthLine_129 : decode cX7_hearthLine 129 = .ok (.iastore, 1) := by decide +kernel
theorem dX7_hearthLine_130 : decode cX7_hearthLine 130 = .ok (.aload_n 0, 1) := by decide +kernel
theorem dX7_hearthLine_131 : decode cX7_hearthLine 131 = .ok (.iconst 0, 1) := by decide +kernel
theorem dX7_hearthLine_132 : decode cX7_hearthLine 132 = .ok (.putfield 34, 3) := by decide +kernel
theorem dX7_hearthLine_135 : decode cX7_hearthLine 135 = .ok (.aload_n 0, 1) := by decide +kernel
theorem dX7_hearthLine_136 : decode cX7_hearthLine 136 = .ok (.getfield 20, 3) := by decide +kernel
theorem dX7_hearthLine_139 : decode cX7_hearthLine 139 = .ok (.getfield 47, 3) := by decide +kernel
theorem dX7_hearthLine_142 : decode cX7_hearthLine 142 = .ok (.iconst 3, 1) := by decide +kernel
theorem dX7_hearthLine_143 : decode cX7_hearthLine 143 = .ok (.if_icmp .ne 16, 3) := by decide +kernel
theorem dX7_hearthLine_146 : decode cX7_hearthLine 146 = .ok (.aload_n 0, 1) := by decide +kernel
theorem dX7_hearthLine_147 : decode cX7_hearthLine 147 = .ok (.iconst 3, 1) := by decide +kernel
theorem dX7_hearthLine_148 : decode cX7_hearthLine 148 = .ok (.iconst 0, 1) := by decide +kernel
theorem dX7_hearthLine_149 : decode cX7_hearthLine 149 = .ok (.bipush 9, 2) := by decide +kernel
theorem dX7_hearthLine_151 : decode cX7_hearthLine 151 = .ok (.invokevirtual 101, 3) := by decide +kernel
theorem dX7_hearthLine_154 : decode cX7_hearthLine 154 = .ok (.ifCond .ne 5, 3) := by decide +kernel
theorem dX7_hearthLine_157 : decode cX7_hearthLine 157 = .ok (.iconst 0, 1) := by decide +kernel
theorem dX7_hearthLine_158 : decode cX7_hearthLine 158 = .ok (.ireturn, 1) := by decide +kernel
theorem dX7_hearthLine_159 : decode cX7_hearthLine 159 = .ok (.aload_n 1, 1) := by decide +kernel
theorem dX7_hearthLine_160 : decode cX7_hearthLine 160 = .ok (.getfield 115, 3) := by decide +kernel
theorem dX7_hearthLine_163 : decode cX7_hearthLine 163 = .ok (.iload_n 2, 1) := by decide +kernel
theorem dX7_hearthLine_164 : decode cX7_hearthLine 164 = .ok (.aload_n 0, 1) := by decide +kernel
theorem dX7_hearthLine_165 : decode cX7_hearthLine 165 = .ok (.getfield 34, 3) := by decide +kernel
theorem dX7_hearthLine_168 : decode cX7_hearthLine 168 = .ok (.iastore, 1) := by decide +kernel
theorem dX7_hearthLine_169 : decode cX7_hearthLine 169 = .ok (.aload_n 1, 1) := by decide +kernel
theorem dX7_hearthLine_170 : decode cX7_hearthLine 170 = .ok (.iload_n 2, 1) := by decide +kernel
theorem dX7_hearthLine_171 : decode cX7_hearthLine 171 = .ok (.iconst 1, 1) := by decide +kernel
theorem dX7_hearthLine_172 : decode cX7_hearthLine 172 = .ok (.iadd, 1) := by decide +kernel
theorem dX7_hearthLine_173 : decode cX7_hearthLine 173 = .ok (.putfield 91, 3) := by decide +kernel
theorem dX7_hearthLine_176 : decode cX7_hearthLine 176 = .ok (.iconst 1, 1) := by decide +kernel
theorem dX7_hearthLine_177 : decode cX7_hearthLine 177 = .ok (.ireturn, 1) := by decide +kernel
theorem dX7_stoolLine_0 : decode cX7_stoolLine 0 = .ok (.aload_n 1, 1) := by decide +kernel
theorem dX7_stoolLine_1 : decode cX7_stoolLine 1 = .ok (.getfield 118, 3) := by decide +kernel
theorem dX7_stoolLine_4 : decode cX7_stoolLine 4 = .ok (.istore_n 2, 1) := by decide +kernel
theorem dX7_stoolLine_5 : decode cX7_stoolLine 5 = .ok (.iload_n 2, 1) := by decide +kernel
theorem dX7_stoolLine_6 : decode cX7_stoolLine 6 = .ok (.ifCond .lt 8, 3) := by decide +kernel
theorem dX7_stoolLine_9 : decode cX7_stoolLine 9 = .ok (.iload_n 2, 1) := by decide +kernel
theorem dX7_stoolLine_10 : decode cX7_stoolLine 10 = .ok (.iconst 5, 1) := by decide +kernel
theorem dX7_stoolLine_11 : decode cX7_stoolLine 11 = .ok (.if_icmp .lt 12, 3) := by decide +kernel
theorem dX7_stoolLine_14 : decode cX7_stoolLine 14 = .ok (.aload_n 0, 1) := by decide +kernel
theorem dX7_stoolLine_15 : decode cX7_stoolLine 15 = .ok (.getfield 20, 3) := by decide +kernel
theorem dX7_stoolLine_18 : decode cX7_stoolLine 18 = .ok (.iconst 2, 1) := by decide +kernel
theorem dX7_stoolLine_19 : decode cX7_stoolLine 19 = .ok (.invokevirtual 88, 3) := by decide +kernel
theorem dX7_stoolLine_22 : decode cX7_stoolLine 22 = .ok (.ireturn, 1) := by decide +kernel
theorem dX7_stoolLine_23 : decode cX7_stoolLine 23 = .ok (.aload_n 0, 1) := by decide +kernel
theorem dX7_stoolLine_24 : decode cX7_stoolLine 24 = .ok (.getfield 20, 3) := by decide +kernel
theorem dX7_stoolLine_27 : decode cX7_stoolLine 27 = .ok (.invokevirtual 94, 3) := by decide +kernel
theorem dX7_stoolLine_30 : decode cX7_stoolLine 30 = .ok (.aload_n 0, 1) := by decide +kernel
theorem dX7_stoolLine_31 : decode cX7_stoolLine 31 = .ok (.aload_n 0, 1) := by decide +kernel
theorem dX7_stoolLine_32 : decode cX7_stoolLine 32 = .ok (.getfield 27, 3) := by decide +kernel
theorem dX7_stoolLine_35 : decode cX7_stoolLine 35 = .ok (.iload_n 2, 1) := by decide +kernel
theorem dX7_stoolLine_36 : decode cX7_stoolLine 36 = .ok (.invokevirtual 97, 3) := by decide +kernel
theorem dX7_stoolLine_39 : decode cX7_stoolLine 39 = .ok (.ifCond .eq 15, 3) := by decide +kernel
theorem dX7_stoolLine_42 : decode cX7_stoolLine 42 = .ok (.aload_n 0, 1) := by decide +kernel
theorem dX7_stoolLine_43 : decode cX7_stoolLine 43 = .ok (.bipush 11, 2) := by decide +kernel
theorem dX7_stoolLine_45 : decode cX7_stoolLine 45 = .ok (.iconst 0, 1) := by decide +kernel
theorem dX7_stoolLine_46 : decode cX7_stoolLine 46 = .ok (.bipush 99, 2) := by decide +kernel
theorem dX7_stoolLine_48 : decode cX7_stoolLine 48 = .ok (.invokevirtual 101, 3) := by decide +kernel
theorem dX7_stoolLine_51 : decode cX7_stoolLine 51 = .ok (.ifCond .ne 5, 3) := by decide +kernel
theorem dX7_stoolLine_54 : decode cX7_stoolLine 54 = .ok (.iconst 0, 1) := by decide +kernel
theorem dX7_stoolLine_55 : decode cX7_stoolLine 55 = .ok (.ireturn, 1) := by decide +kernel
theorem dX7_stoolLine_56 : decode cX7_stoolLine 56 = .ok (.aload_n 1, 1) := by decide +kernel
theorem dX7_stoolLine_57 : decode cX7_stoolLine 57 = .ok (.getfield 121, 3) := by decide +kernel
theorem dX7_stoolLine_60 : decode cX7_stoolLine 60 = .ok (.iload_n 2, 1) := by decide +kernel
theorem dX7_stoolLine_61 : decode cX7_stoolLine 61 = .ok (.aload_n 0, 1) := by decide +kernel
theorem dX7_stoolLine_62 : decode cX7_stoolLine 62 = .ok (.getfield 34, 3) := by decide +kernel
theorem dX7_stoolLine_65 : decode cX7_stoolLine 65 = .ok (.iastore, 1) := by decide +kernel
theorem dX7_stoolLine_66 : decode cX7_stoolLine 66 = .ok (.aload_n 0, 1) := by decide +kernel
theorem dX7_stoolLine_67 : decode cX7_stoolLine 67 = .ok (.iconst 5, 1) := by decide +kernel
theorem dX7_stoolLine_68 : decode cX7_stoolLine 68 = .ok (.iconst 0, 1) := by decide +kernel
theorem dX7_stoolLine_69 : decode cX7_stoolLine 69 = .ok (.bipush 99, 2) := by decide +kernel
theorem dX7_stoolLine_71 : decode cX7_stoolLine 71 = .ok (.invokevirtual 101, 3) := by decide +kernel
theorem dX7_stoolLine_74 : decode cX7_stoolLine 74 = .ok (.ifCond .ne 5, 3) := by decide +kernel
theorem dX7_stoolLine_77 : decode cX7_stoolLine 77 = .ok (.iconst 0, 1) := by decide +kernel
theorem dX7_stoolLine_78 : decode cX7_stoolLine 78 = .ok (.ireturn, 1) := by decide +kernel
theorem dX7_stoolLine_79 : decode cX7_stoolLine 79 = .ok (.aload_n 1, 1) := by decide +kernel
theorem dX7_stoolLine_80 : decode cX7_stoolLine 80 = .ok (.getfield 124, 3) := by decide +kernel
theorem dX7_stoolLine_83 : decode cX7_stoolLine 83 = .ok (.iload_n 2, 1) := by decide +kernel
theorem dX7_stoolLine_84 : decode cX7_stoolLine 84 = .ok (.aload_n 0, 1) := by decide +kernel
theorem dX7_stoolLine_85 : decode cX7_stoolLine 85 = .ok (.getfield 34, 3) := by decide +kernel
theorem dX7_stoolLine_88 : decode cX7_stoolLine 88 = .ok (.iastore, 1) := by decide +kernel
theorem dX7_stoolLine_89 : decode cX7_stoolLine 89 = .ok (.aload_n 0, 1) := by decide +kernel
theorem dX7_stoolLine_90 : decode cX7_stoolLine 90 = .ok (.iconst 0, 1) := by decide +kernel
theorem dX7_stoolLine_91 : decode cX7_stoolLine 91 = .ok (.putfield 34, 3) := by decide +kernel
theorem dX7_stoolLine_94 : decode cX7_stoolLine 94 = .ok (.aload_n 0, 1) := by decide +kernel
theorem dX7_stoolLine_95 : decode cX7_stoolLine 95 = .ok (.getfield 20, 3) := by decide +kernel
theorem dX7_stoolLine_98 : decode cX7_stoolLine 98 = .ok (.getfield 47, 3) := by decide +kernel
theorem dX7_stoolLine_101 : decode cX7_stoolLine 101 = .ok (.bipush 14, 2) := by decide +kernel
theorem dX7_stoolLine_103 : decode cX7_stoolLine 103 = .ok (.if_icmp .ne 16, 3) := by decide +kernel
theorem dX7_stoolLine_106 : decode cX7_stoolLine 106 = .ok (.aload_n 0, 1) := by decide +kernel
theorem dX7_stoolLine_107 : decode cX7_stoolLine 107 = .ok (.bipush 14, 2) := by decide +kernel
theorem dX7_stoolLine_109 : decode cX7_stoolLine 109 = .ok (.iconst 0, 1) := by decide +kernel
theorem dX7_stoolLine_110 : decode cX7_stoolLine 110 = .ok (.iconst 3, 1) := by decide +kernel
theorem dX7_stoolLine_111 : decode cX7_stoolLine 111 = .ok (.invokevirtual 101, 3) := by decide +kernel
theorem dX7_stoolLine_114 : decode cX7_stoolLine 114 = .ok (.ifCond .ne 5, 3) := by decide +kernel
theorem dX7_stoolLine_117 : decode cX7_stoolLine 117 = .ok (.iconst 0, 1) := by decide +kernel
theorem dX7_stoolLine_118 : decode cX7_stoolLine 118 = .ok (.ireturn, 1) := by decide +kernel
theorem dX7_stoolLine_119 : decode cX7_stoolLine 119 = .ok (.aload_n 1, 1) := by decide +kernel
theorem dX7_stoolLine_120 : decode cX7_stoolLine 120 = .ok (.getfield 127, 3) := by decide +kernel
theorem dX7_stoolLine_123 : decode cX7_stoolLine 123 = .ok (.iload_n 2, 1) := by decide +kernel
theorem dX7_stoolLine_124 : decode cX7_stoolLine 124 = .ok (.aload_n 0, 1) := by decide +kernel
theorem dX7_stoolLine_125 : decode cX7_stoolLine 125 = .ok (.getfield 34, 3) := by decide +kernel
theorem dX7_stoolLine_128 : decode cX7_stoolLine 128 = .ok (.iastore, 1) := by decide +kernel
theorem dX7_stoolLine_129 : decode cX7_stoolLine 129 = .ok (.aload_n 0, 1) := by decide +kernel
theorem dX7_stoolLine_130 : decode cX7_stoolLine 130 = .ok (.iconst 0, 1) := by decide +kernel
theorem dX7_stoolLine_131 : decode cX7_stoolLine 131 = .ok (.putfield 34, 3) := by decide +kernel
theorem dX7_stoolLine_134 : decode cX7_stoolLine 134 = .ok (.aload_n 0, 1) := by decide +kernel
theorem dX7_stoolLine_135 : decode cX7_stoolLine 135 = .ok (.getfield 20, 3) := by decide +kernel
theorem dX7_stoolLine_138 : decode cX7_stoolLine 138 = .ok (.getfield 47, 3) := by decide +kernel
theorem dX7_stoolLine_141 : decode cX7_stoolLine 141 = .ok (.iconst 4, 1) := by decide +kernel
theorem dX7_stoolLine_142 : decode cX7_stoolLine 142 = .ok (.if_icmp .ne 16, 3) := by decide +kernel
theorem dX7_stoolLine_145 : decode cX7_stoolLine 145 = .ok (.aload_n 0, 1) := by decide +kernel
theorem dX7_stoolLine_146 : decode cX7_stoolLine 146 = .ok (.iconst 4, 1) := by decide +kernel
theorem dX7_stoolLine_147 : decode cX7_stoolLine 147 = .ok (.iconst 0, 1) := by decide +kernel
theorem dX7_stoolLine_148 : decode cX7_stoolLine 148 = .ok (.bipush 99, 2) := by decide +kernel
theorem dX7_stoolLine_150 : decode cX7_stoolLine 150 = .ok (.invokevirtual 101, 3) := by decide +kernel
theorem dX7_stoolLine_153 : decode cX7_stoolLine 153 = .ok (.ifCond .ne 5, 3) := by decide +kernel
theorem dX7_stoolLine_156 : decode cX7_stoolLine 156 = .ok (.iconst 0, 1) := by decide +kernel
theorem dX7_stoolLine_157 : decode cX7_stoolLine 157 = .ok (.ireturn, 1) := by decide +kernel
theorem dX7_stoolLine_158 : decode cX7_stoolLine 158 = .ok (.aload_n 1, 1) := by decide +kernel
theorem dX7_stoolLine_159 : decode cX7_stoolLine 159 = .ok (.getfield 130, 3) := by decide +kernel
theorem dX7_stoolLine_162 : decode cX7_stoolLine 162 = .ok (.iload_n 2, 1) := by decide +kernel
theorem dX7_stoolLine_163 : decode cX7_stoolLine 163 = .ok (.aload_n 0, 1) := by decide +kernel
theorem dX7_stoolLine_164 : decode cX7_stoolLine 164 = .ok (.getfield 34, 3) := by decide +kernel
theorem dX7_stoolLine_167 : decode cX7_stoolLine 167 = .ok (.iastore, 1) := by decide +kernel
theorem dX7_stoolLine_168 : decode cX7_stoolLine 168 = .ok (.aload_n 1, 1) := by decide +kernel
theorem dX7_stoolLine_169 : decode cX7_stoolLine 169 = .ok (.iload_n 2, 1) := by decide +kernel
theorem dX7_stoolLine_170 : decode cX7_stoolLine 170 = .ok (.iconst 1, 1) := by decide +kernel
theorem dX7_stoolLine_171 : decode cX7_stoolLine 171 = .ok (.iadd, 1) := by decide +kernel
theorem dX7_stoolLine_172 : decode cX7_stoolLine 172 = .ok (.putfield 118, 3) := by decide +kernel
theorem dX7_stoolLine_175 : decode cX7_stoolLine 175 = .ok (.iconst 1, 1) := by decide +kernel
theorem dX7_stoolLine_176 : decode cX7_stoolLine 176 = .ok (.ireturn, 1) := by decide +kernel
theorem dX7_formulaLine_0 : decode cX7_formulaLine 0 = .ok (.aload_n 1, 1) := by decide +kernel
theorem dX7_formulaLine_1 : decode cX7_formulaLine 1 = .ok (.invokevirtual 133, 3) := by decide +kernel
theorem dX7_formulaLine_4 : decode cX7_formulaLine 4 = .ok (.ifCond .eq 12, 3) := by decide +kernel
theorem dX7_formulaLine_7 : decode cX7_formulaLine 7 = .ok (.aload_n 0, 1) := by decide +kernel
theorem dX7_formulaLine_8 : decode cX7_formulaLine 8 = .ok (.getfield 20, 3) := by decide +kernel
theorem dX7_formulaLine_11 : decode cX7_formulaLine 11 = .ok (.iconst 2, 1) := by decide +kernel
theorem dX7_formulaLine_12 : decode cX7_formulaLine 12 = .ok (.invokevirtual 88, 3) := by decide +kernel
theorem dX7_formulaLine_15 : decode cX7_formulaLine 15 = .ok (.ireturn, 1) := by decide +kernel
theorem dX7_formulaLine_16 : decode cX7_formulaLine 16 = .ok (.aload_n 0, 1) := by decide +kernel
theorem dX7_formulaLine_17 : decode cX7_formulaLine 17 = .ok (.getfield 20, 3) := by decide +kernel
theorem dX7_formulaLine_20 : decode cX7_formulaLine 20 = .ok (.invokevirtual 94, 3) := by decide +kernel
theorem dX7_formulaLine_23 : decode cX7_formulaLine 23 = .ok (.aload_n 0, 1) := by decide +kernel
theorem dX7_formulaLine_24 : decode cX7_formulaLine 24 = .ok (.getfield 10, 3) := by decide +kernel
theorem dX7_formulaLine_27 : decode cX7_formulaLine 27 = .ok (.aload_n 1, 1) := by decide +kernel
theorem dX7_formulaLine_28 : decode cX7_formulaLine 28 = .ok (.iconst 0, 1) := by decide +kernel
theorem dX7_formulaLine_29 : decode cX7_formulaLine 29 = .ok (.invokevirtual 139, 3) := by decide +kernel
theorem dX7_formulaLine_32 : decode cX7_formulaLine 32 = .ok (.ireturn, 1) := by decide +kernel
theorem dX7_toldOnce_0 : decode cX7_toldOnce 0 = .ok (.aload_n 0, 1) := by decide +kernel
theorem dX7_toldOnce_1 : decode cX7_toldOnce 1 = .ok (.getfield 20, 3) := by decide +kernel
theorem dX7_toldOnce_4 : decode cX7_toldOnce 4 = .ok (.getfield 47, 3) := by decide +kernel
theorem dX7_toldOnce_7 : decode cX7_toldOnce 7 = .ok (.istore_n 3, 1) := by decide +kernel
theorem dX7_toldOnce_8 : decode cX7_toldOnce 8 = .ok (.aload_n 0, 1) := by decide +kernel
theorem dX7_toldOnce_9 : decode cX7_toldOnce 9 = .ok (.getfield 30, 3) := by decide +kernel
theorem dX7_toldOnce_12 : decode cX7_toldOnce 12 = .ok (.iload_n 3, 1) := by decide +kernel
theorem dX7_toldOnce_13 : decode cX7_toldOnce 13 = .ok (.ishr, 1) := by decide +kernel
theorem dX7_toldOnce_14 : decode cX7_toldOnce 14 = .ok (.iconst 1, 1) := by decide +kernel
theorem dX7_toldOnce_15 : decode cX7_toldOnce 15 = .ok (.iand, 1) := by decide +kernel
theorem dX7_toldOnce_16 : decode cX7_toldOnce 16 = .ok (.ifCond .eq 12, 3) := by decide +kernel
theorem dX7_toldOnce_19 : decode cX7_toldOnce 19 = .ok (.aload_n 0, 1) := by decide +kernel
theorem dX7_toldOnce_20 : decode cX7_toldOnce 20 = .ok (.getfield 20, 3) := by decide +kernel
theorem dX7_toldOnce_23 : decode cX7_toldOnce 23 = .ok (.iconst 2, 1) := by decide +kernel
theorem dX7_toldOnce_24 : decode cX7_toldOnce 24 = .ok (.invokevirtual 88, 3) := by decide +kernel
theorem dX7_toldOnce_27 : decode cX7_toldOnce 27 = .ok (.ireturn, 1) := by decide +kernel
theorem dX7_toldOnce_28 : decode cX7_toldOnce 28 = .ok (.aload_n 0, 1) := by decide +kernel
theorem dX7_toldOnce_29 : decode cX7_toldOnce 29 = .ok (.dup, 1) := by decide +kernel
theorem dX7_toldOnce_30 : decode cX7_toldOnce 30 = .ok (.getfield 30, 3) := by decide +kernel
theorem dX7_toldOnce_33 : decode cX7_toldOnce 33 = .ok (.iconst 1, 1) := by decide +kernel
theorem dX7_toldOnce_34 : decode cX7_toldOnce 34 = .ok (.iload_n 3, 1) := by decide +kernel
theorem dX7_toldOnce_35 : decode cX7_toldOnce 35 = .ok (.ishl, 1) := by decide +kernel
theorem dX7_toldOnce_36 : decode cX7_toldOnce 36 = .ok (.ior, 1) := by decide +kernel
theorem dX7_toldOnce_37 : decode cX7_toldOnce 37 = .ok (.putfield 30, 3) := by decide +kernel
theorem dX7_toldOnce_40 : decode cX7_toldOnce 40 = .ok (.aload_n 0, 1) := by decide +kernel
theorem dX7_toldOnce_41 : decode cX7_toldOnce 41 = .ok (.iload_n 3, 1) := by decide +kernel
theorem dX7_toldOnce_42 : decode cX7_toldOnce 42 = .ok (.iload_n 1, 1) := by decide +kernel
theorem dX7_toldOnce_43 : decode cX7_toldOnce 43 = .ok (.iload_n 2, 1) := by decide +kernel
theorem dX7_toldOnce_44 : decode cX7_toldOnce 44 = .ok (.invokevirtual 101, 3) := by decide +kernel
theorem dX7_toldOnce_47 : decode cX7_toldOnce 47 = .ok (.ireturn, 1) := by decide +kernel
theorem dX7_told_0 : decode cX7_told 0 = .ok (.aload_n 0, 1) := by decide +kernel
theorem dX7_told_1 : decode cX7_told 1 = .ok (.getfield 20, 3) := by decide +kernel
theorem dX7_told_4 : decode cX7_told 4 = .ok (.getfield 47, 3) := by decide +kernel
theorem dX7_told_7 : decode cX7_told 7 = .ok (.iload_n 1, 1) := by decide +kernel
theorem dX7_told_8 : decode cX7_told 8 = .ok (.if_icmp .eq 12, 3) := by decide +kernel
theorem dX7_told_11 : decode cX7_told 11 = .ok (.aload_n 0, 1) := by decide +kernel
theorem dX7_told_12 : decode cX7_told 12 = .ok (.getfield 20, 3) := by decide +kernel
theorem dX7_told_15 : decode cX7_told 15 = .ok (.iconst 2, 1) := by decide +kernel
theorem dX7_told_16 : decode cX7_told 16 = .ok (.invokevirtual 88, 3) := by decide +kernel
theorem dX7_told_19 : decode cX7_told 19 = .ok (.ireturn, 1) := by decide +kernel
theorem dX7_told_20 : decode cX7_told 20 = .ok (.aload_n 0, 1) := by decide +kernel
theorem dX7_told_21 : decode cX7_told 21 = .ok (.getfield 20, 3) := by decide +kernel
theorem dX7_told_24 : decode cX7_told 24 = .ok (.invokevirtual 94, 3) := by decide +kernel
theorem dX7_told_27 : decode cX7_told 27 = .ok (.aload_n 0, 1) := by decide +kernel
theorem dX7_told_28 : decode cX7_told 28 = .ok (.getfield 20, 3) := by decide +kernel
theorem dX7_told_31 : decode cX7_told 31 = .ok (.getfield 47, 3) := by decide +kernel
theorem dX7_told_34 : decode cX7_told 34 = .ok (.bipush 100, 2) := by decide +kernel
theorem dX7_told_36 : decode cX7_told 36 = .ok (.if_icmp .eq 12, 3) := by decide +kernel
theorem dX7_told_39 : decode cX7_told 39 = .ok (.aload_n 0, 1) := by decide +kernel
theorem dX7_told_40 : decode cX7_told 40 = .ok (.getfield 20, 3) := by decide +kernel
theorem dX7_told_43 : decode cX7_told 43 = .ok (.iconst 2, 1) := by decide +kernel
theorem dX7_told_44 : decode cX7_told 44 = .ok (.invokevirtual 88, 3) := by decide +kernel
theorem dX7_told_47 : decode cX7_told 47 = .ok (.ireturn, 1) := by decide +kernel
theorem dX7_told_48 : decode cX7_told 48 = .ok (.aload_n 0, 1) := by decide +kernel
theorem dX7_told_49 : decode cX7_told 49 = .ok (.aload_n 0, 1) := by decide +kernel
theorem dX7_told_50 : decode cX7_told 50 = .ok (.getfield 20, 3) := by decide +kernel
theorem dX7_told_53 : decode cX7_told 53 = .ok (.getfield 143, 3) := by decide +kernel
theorem dX7_told_56 : decode cX7_told 56 = .ok (.putfield 34, 3) := by decide +kernel
theorem dX7_told_59 : decode cX7_told 59 = .ok (.aload_n 0, 1) := by decide +kernel
theorem dX7_told_60 : decode cX7_told 60 = .ok (.getfield 34, 3) := by decide +kernel
theorem dX7_told_63 : decode cX7_told 63 = .ok (.iload_n 2, 1) := by decide +kernel
theorem dX7_told_64 : decode cX7_told 64 = .ok (.if_icmp .lt 11, 3) := by decide +kernel
theorem dX7_told_67 : decode cX7_told 67 = .ok (.aload_n 0, 1) := by decide +kernel
theorem dX7_told_68 : decode cX7_told 68 = .ok (.getfield 34, 3) := by decide +kernel
theorem dX7_told_71 : decode cX7_told 71 = .ok (.iload_n 3, 1) := by decide +kernel
theorem dX7_told_72 : decode cX7_told 72 = .ok (.if_icmp .le 12, 3) := by decide +kernel
theorem dX7_told_75 : decode cX7_told 75 = .ok (.aload_n 0, 1) := by decide +kernel
theorem dX7_told_76 : decode cX7_told 76 = .ok (.getfield 20, 3) := by decide +kernel
theorem dX7_told_79 : decode cX7_told 79 = .ok (.iconst 4, 1) := by decide +kernel
theorem dX7_told_80 : decode cX7_told 80 = .ok (.invokevirtual 88, 3) := by decide +kernel
theorem dX7_told_83 : decode cX7_told 83 = .ok (.ireturn, 1) := by decide +kernel
theorem dX7_told_84 : decode cX7_told 84 = .ok (.aload_n 0, 1) := by decide +kernel
theorem dX7_told_85 : decode cX7_told 85 = .ok (.getfield 20, 3) := by decide +kernel
theorem dX7_told_88 : decode cX7_told 88 = .ok (.invokevirtual 94, 3) := by decide +kernel
theorem dX7_told_91 : decode cX7_told 91 = .ok (.iconst 1, 1) := by decide +kernel
theorem dX7_told_92 : decode cX7_told 92 = .ok (.ireturn, 1) := by decide +kernel
theorem dX7_newName_0 : decode cX7_newName 0 = .ok (.aload_n 0, 1) := by decide +kernel
theorem dX7_newName_1 : decode cX7_newName 1 = .ok (.getfield 20, 3) := by decide +kernel
theorem dX7_newName_4 : decode cX7_newName 4 = .ok (.getfield 47, 3) := by decide +kernel
theorem dX7_newName_7 : decode cX7_newName 7 = .ok (.bipush 101, 2) := by decide +kernel
theorem dX7_newName_9 : decode cX7_newName 9 = .ok (.if_icmp .ne 9, 3) := by decide +kernel
theorem dX7_newName_12 : decode cX7_newName 12 = .ok (.iload_n 2, 1) := by decide +kernel
theorem dX7_newName_13 : decode cX7_newName 13 = .ok (.aload_n 1, 1) := by decide +kernel
theorem dX7_newName_14 : decode cX7_newName 14 = .ok (.arraylength, 1) := by decide +kernel
theorem dX7_newName_15 : decode cX7_newName 15 = .ok (.if_icmp .lt 12, 3) := by decide +kernel
theorem dX7_newName_18 : decode cX7_newName 18 = .ok (.aload_n 0, 1) := by decide +kernel
theorem dX7_newName_19 : decode cX7_newName 19 = .ok (.getfield 20, 3) := by decide +kernel
theorem dX7_newName_22 : decode cX7_newName 22 = .ok (.iconst 2, 1) := by decide +kernel
theorem dX7_newName_23 : decode cX7_newName 23 = .ok (.invokevirtual 88, 3) := by decide +kernel
theorem dX7_newName_26 : decode cX7_newName 26 = .ok (.ireturn, 1) := by decide +kernel
theorem dX7_newName_27 : decode cX7_newName 27 = .ok (.iconst 0, 1) := by decide +kernel
theorem dX7_newName_28 : decode cX7_newName 28 = .ok (.istore_n 3, 1) := by decide +kernel
theorem dX7_newName_29 : decode cX7_newName 29 = .ok (.iload_n 3, 1) := by decide +kernel
theorem dX7_newName_30 : decode cX7_newName 30 = .ok (.iload_n 2, 1) := by decide +kernel
theorem dX7_newName_31 : decode cX7_newName 31 = .ok (.if_icmp .ge 32, 3) := by decide +kernel
theorem dX7_newName_34 : decode cX7_newName 34 = .ok (.aload_n 1, 1) := by decide +kernel
theorem dX7_newName_35 : decode cX7_newName 35 = .ok (.iload_n 3, 1) := by decide +kernel
theorem dX7_newName_36 : decode cX7_newName 36 = .ok (.laload, 1) := by decide +kernel
theorem dX7_newName_37 : decode cX7_newName 37 = .ok (.aload_n 0, 1) := by decide +kernel
theorem dX7_newName_38 : decode cX7_newName 38 = .ok (.getfield 20, 3) := by decide +kernel
theorem dX7_newName_41 : decode cX7_newName 41 = .ok (.getfield 144, 3) := by decide +kernel
theorem dX7_newName_44 : decode cX7_newName 44 = .ok (.lcmp, 1) := by decide +kernel
theorem dX7_newName_45 : decode cX7_newName 45 = .ok (.ifCond .ne 12, 3) := by decide +kernel
theorem dX7_newName_48 : decode cX7_newName 48 = .ok (.aload_n 0, 1) := by decide +kernel
theorem dX7_newName_49 : decode cX7_newName 49 = .ok (.getfield 20, 3) := by decide +kernel
theorem dX7_newName_52 : decode cX7_newName 52 = .ok (.iconst 3, 1) := by decide +kernel
theorem dX7_newName_53 : decode cX7_newName 53 = .ok (.invokevirtual 88, 3) := by decide +kernel
theorem dX7_newName_56 : decode cX7_newName 56 = .ok (.ireturn, 1) := by decide +kernel
theorem dX7_newName_57 : decode cX7_newName 57 = .ok (.iinc 3 1, 3) := by decide +kernel
theorem dX7_newName_60 : decode cX7_newName 60 = .ok (.goto (-31), 3) := by decide +kernel
theorem dX7_newName_63 : decode cX7_newName 63 = .ok (.aload_n 1, 1) := by decide +kernel
theorem dX7_newName_64 : decode cX7_newName 64 = .ok (.iload_n 2, 1) := by decide +kernel
theorem dX7_newName_65 : decode cX7_newName 65 = .ok (.aload_n 0, 1) := by decide +kernel
theorem dX7_newName_66 : decode cX7_newName 66 = .ok (.getfield 20, 3) := by decide +kernel
theorem dX7_newName_69 : decode cX7_newName 69 = .ok (.getfield 144, 3) := by decide +kernel
theorem dX7_newName_72 : decode cX7_newName 72 = .ok (.lastore, 1) := by decide +kernel
theorem dX7_newName_73 : decode cX7_newName 73 = .ok (.aload_n 0, 1) := by decide +kernel
theorem dX7_newName_74 : decode cX7_newName 74 = .ok (.getfield 20, 3) := by decide +kernel
theorem dX7_newName_77 : decode cX7_newName 77 = .ok (.invokevirtual 94, 3) := by decide +kernel
theorem dX7_newName_80 : decode cX7_newName 80 = .ok (.iconst 1, 1) := by decide +kernel
theorem dX7_newName_81 : decode cX7_newName 81 = .ok (.ireturn, 1) := by decide +kernel
theorem dX8_init_0 : decode cX8_init 0 = .ok (.aload_n 0, 1) := by decide +kernel
theorem dX8_init_1 : decode cX8_init 1 = .ok (.invokespecial 7, 3) := by decide +kernel
theorem dX8_init_4 : decode cX8_init 4 = .ok (.aload_n 0, 1) := by decide +kernel
theorem dX8_init_5 : decode cX8_init 5 = .ok (.bipush 32, 2) := by decide +kernel
theorem dX8_init_7 : decode cX8_init 7 = .ok (.newarray .int, 2) := by decide +kernel
theorem dX8_init_9 : decode cX8_init 9 = .ok (.putfield 13, 3) := by decide +kernel
theorem dX8_init_12 : decode cX8_init 12 = .ok (.aload_n 0, 1) := by decide +kernel
theorem dX8_init_13 : decode cX8_init 13 = .ok (.bipush 32, 2) := by decide +kernel
theorem dX8_init_15 : decode cX8_init 15 = .ok (.newarray .int, 2) := by decide +kernel
theorem dX8_init_17 : decode cX8_init 17 = .ok (.putfield 17, 3) := by decide +kernel
theorem dX8_init_20 : decode cX8_init 20 = .ok (.aload_n 0, 1) := by decide +kernel
theorem dX8_init_21 : decode cX8_init 21 = .ok (.bipush 32, 2) := by decide +kernel
theorem dX8_init_23 : decode cX8_init 23 = .ok (.newarray .int, 2) := by decide +kernel
theorem dX8_init_25 : decode cX8_init 25 = .ok (.putfield 20, 3) := by decide +kernel
theorem dX8_init_28 : decode cX8_init 28 = .ok (.aload_n 0, 1) := by decide +kernel
theorem dX8_init_29 : decode cX8_init 29 = .ok (.bipush 6, 2) := by decide +kernel
theorem dX8_init_31 : decode cX8_init 31 = .ok (.newarray .int, 2) := by decide +kernel
theorem dX8_init_33 : decode cX8_init 33 = .ok (.putfield 23, 3) := by decide +kernel
theorem dX8_init_36 : decode cX8_init 36 = .ok (.aload_n 0, 1) := by decide +kernel
theorem dX8_init_37 : decode cX8_init 37 = .ok (.iconst 5, 1) := by decide +kernel
theorem dX8_init_38 : decode cX8_init 38 = .ok (.newarray .int, 2) := by decide +kernel
theorem dX8_init_40 : decode cX8_init 40 = .ok (.putfield 26, 3) := by decide +kernel
theorem dX8_init_43 : decode cX8_init 43 = .ok (.aload_n 0, 1) := by decide +kernel
theorem dX8_init_44 : decode cX8_init 44 = .ok (.iconst 0, 1) := by decide +kernel
theorem dX8_init_45 : decode cX8_init 45 = .ok (.putfield 29, 3) := by decide +kernel
theorem dX8_init_48 : decode cX8_init 48 = .ok (.aload_n 0, 1) := by decide +kernel
theorem dX8_init_49 : decode cX8_init 49 = .ok (.iconst 0, 1) := by decide +kernel
theorem dX8_init_50 : decode cX8_init 50 = .ok (.putfield 33, 3) := by decide +kernel
theorem dX8_init_53 : decode cX8_init 53 = .ok (.return_, 1) := by decide +kernel
theorem dX8_find_0 : decode cX8_find 0 = .ok (.bipush 32, 2) := by decide +kernel
theorem dX8_find_2 : decode cX8_find 2 = .ok (.iconst 1, 1) := by decide +kernel
theorem dX8_find_3 : decode cX8_find 3 = .ok (.aload_n 1, 1) := by decide +kernel
theorem dX8_find_4 : decode cX8_find 4 = .ok (.getfield 36, 3) := by decide +kernel
theorem dX8_find_7 : decode cX8_find 7 = .ok (.ishl, 1) := by decide +kernel
theorem dX8_find_8 : decode cX8_find 8 = .ok (.invokestatic 39, 3) := by decide +kernel
theorem dX8_find_11 : decode cX8_find 11 = .ok (.istore 4, 2) := by decide +kernel
theorem dX8_find_13 : decode cX8_find 13 = .ok (.aload_n 0, 1) := by decide +kernel
theorem dX8_find_14 : decode cX8_find 14 = .ok (.getfield 13, 3) := by decide +kernel
theorem dX8_find_17 : decode cX8_find 17 = .ok (.ldc 45, 2) := by decide +kernel
theorem dX8_find_19 : decode cX8_find 19 = .ok (.invokestatic 46, 3) := by decide +kernel
theorem dX8_find_22 : decode cX8_find 22 = .ok (.aload_n 0, 1) := by decide +kernel
theorem dX8_find_23 : decode cX8_find 23 = .ok (.getfield 13, 3) := by decide +kernel
theorem dX8_find_26 : decode cX8_find 26 = .ok (.iconst 0, 1) := by decide +kernel
theorem dX8_find_27 : decode cX8_find 27 = .ok (.iconst 0, 1) := by decide +kernel
theorem dX8_find_28 : decode cX8_find 28 = .ok (.iastore, 1) := by decide +kernel
theorem dX8_find_29 : decode cX8_find 29 = .ok (.iconst 0, 1) := by decide +kernel
theorem dX8_find_30 : decode cX8_find 30 = .ok (.istore 5, 2) := by decide +kernel
theorem dX8_find_32 : decode cX8_find 32 = .ok (.iload 5, 2) := by decide +kernel
theorem dX8_find_34 : decode cX8_find 34 = .ok (.aload_n 1, 1) := by decide +kernel
theorem dX8_find_35 : decode cX8_find 35 = .ok (.getfield 52, 3) := by decide +kernel
theorem dX8_find_38 : decode cX8_find 38 = .ok (.if_icmp .ge 26, 3) := by decide +kernel
theorem dX8_find_41 : decode cX8_find 41 = .ok (.aload_n 0, 1) := by decide +kernel
theorem dX8_find_42 : decode cX8_find 42 = .ok (.aload_n 1, 1) := by decide +kernel
theorem dX8_find_43 : decode cX8_find 43 = .ok (.aload_n 2, 1) := by decide +kernel
theorem dX8_find_44 : decode cX8_find 44 = .ok (.iload 5, 2) := by decide +kernel
theorem dX8_find_46 : decode cX8_find 46 = .ok (.iload 4, 2) := by decide +kernel
theorem dX8_find_48 : decode cX8_find 48 = .ok (.iload_n 3, 1) := by decide +kernel
theorem dX8_find_49 : decode cX8_find 49 = .ok (.invokevirtual 55, 3) := by decide +kernel
theorem dX8_find_52 : decode cX8_find 52 = .ok (.aload_n 0, 1) := by decide +kernel
theorem dX8_find_53 : decode cX8_find 53 = .ok (.iload 4, 2) := by decide +kernel
theorem dX8_find_55 : decode cX8_find 55 = .ok (.invokevirtual 59, 3) := by decide +kernel
theorem dX8_find_58 : decode cX8_find 58 = .ok (.iinc 5 1, 3) := by decide +kernel
theorem dX8_find_61 : decode cX8_find 61 = .ok (.goto (-29), 3) := by decide +kernel
theorem dX8_find_64 : decode cX8_find 64 = .ok (.ldc 45, 2) := by decide +kernel
theorem dX8_find_66 : decode cX8_find 66 = .ok (.istore 5, 2) := by decide +kernel
theorem dX8_find_68 : decode cX8_find 68 = .ok (.iconst 0, 1) := by decide +kernel
theorem dX8_find_69 : decode cX8_find 69 = .ok (.istore 6, 2) := by decide +kernel
theorem dX8_find_71 : decode cX8_find 71 = .ok (.iload 6, 2) := by decide +kernel
theorem dX8_find_73 : decode cX8_find 73 = .ok (.iload 4, 2) := by decide +kernel
theorem dX8_find_75 : decode cX8_find 75 = .ok (.if_icmp .ge 51, 3) := by decide +kernel
theorem dX8_find_78 : decode cX8_find 78 = .ok (.aload_n 0, 1) := by decide +kernel
theorem dX8_find_79 : decode cX8_find 79 = .ok (.getfield 13, 3) := by decide +kernel
theorem dX8_find_82 : decode cX8_find 82 = .ok (.iload 6, 2) := by decide +kernel
theorem dX8_find_84 : decode cX8_find 84 = .ok (.iaload, 1) := by decide +kernel
theorem dX8_find_85 : decode cX8_find 85 = .ok (.ldc 45, 2) := by decide +kernel
theorem dX8_find_87 : decode cX8_find 87 = .ok (.if_icmp .eq 33, 3) := by decide +kernel
theorem dX8_find_90 : decode cX8_find 90 = .ok (.iload 5, 2) := by decide +kernel
theorem dX8_find_92 : decode cX8_find 92 = .ok (.aload_n 0, 1) := by decide +kernel
theorem dX8_find_93 : decode cX8_find 93 = .ok (.getfield 13, 3) := by decide +kernel
theorem dX8_find_96 : decode cX8_find 96 = .ok (.iload 6, 2) := by decide +kernel
theorem dX8_find_98 : decode cX8_find 98 = .ok (.iaload, 1) := by decide +kernel
theorem dX8_find_99 : decode cX8_find 99 = .ok (.aload_n 1, 1) := by decide +kernel
theorem dX8_find_100 : decode cX8_find 100 = .ok (.getfield 36, 3) := by decide +kernel
theorem dX8_find_103 : decode cX8_find 103 = .ok (.iload 6, 2) := by decide +kernel
theorem dX8_find_105 : decode cX8_find 105 = .ok (.iconst (-1), 1) := by decide +kernel
theorem dX8_find_106 : decode cX8_find 106 = .ok (.ixor, 1) := by decide +kernel
theorem dX8_find_107 : decode cX8_find 107 = .ok (.aload_n 1, 1) := by decide +kernel
theorem dX8_find_108 : decode cX8_find 108 = .ok (.getfield 52, 3) := by decide +kernel
theorem dX8_find_111 : decode cX8_find 111 = .ok (.invokestatic 63, 3) := by decide +kernel
theorem dX8_find_114 : decode cX8_find 114 = .ok (.iadd, 1) := by decide +kernel
theorem dX8_find_115 : decode cX8_find 115 = .ok (.invokestatic 39, 3) := by decide +kernel
theorem dX8_find_118 : decode cX8_find 118 = .ok (.istore 5, 2) := by decide +kernel
theorem dX8_find_120 : decode cX8_find 120 = .ok (.iinc 6 1, 3) := by decide +kernel
theorem dX8_find_123 : decode cX8_find 123 = .ok (.goto (-52), 3) := by decide +kernel
theorem dX8_find_126 : decode cX8_find 126 = .ok (.iload 5, 2) := by decide +kernel
theorem dX8_find_128 : decode cX8_find 128 = .ok (.ldc 45, 2) := by decide +kernel
theorem dX8_find_130 : decode cX8_find 130 = .ok (.if_icmp .ne 5, 3) := by decide +kernel
theorem dX8_find_133 : decode cX8_find 133 = .ok (.iconst 0, 1) := by decide +kernel
theorem dX8_find_134 : decode cX8_find 134 = .ok (.ireturn, 1) := by decide +kernel
theorem dX8_find_135 : decode cX8_find 135 = .ok (.aload_n 0, 1) := by decide +kernel
theorem dX8_find_136 : decode cX8_find 136 = .ok (.aload_n 1, 1) := by decide +kernel
theorem dX8_find_137 : decode cX8_find 137 = .ok (.iload 5, 2) := by decide +kernel
theorem dX8_find_139 : decode cX8_find 139 = .ok (.invokevirtual 67, 3) := by decide +kernel
theorem dX8_find_142 : decode cX8_find 142 = .ok (.iconst 1, 1) := by decide +kernel
theorem dX8_find_143 : decode cX8_find 143 = .ok (.ireturn, 1) := by decide +kernel
theorem dX8_priceSets_0 : decode cX8_priceSets 0 = .ok (.iconst 1, 1) := by decide +kernel
theorem dX8_priceSets_1 : decode cX8_priceSets 1 = .ok (.istore 6, 2) := by decide +kernel
theorem dX8_priceSets_3 : decode cX8_priceSets 3 = .ok (.iload 6, 2) := by decide +kernel
theorem dX8_priceSets_5 : decode cX8_priceSets 5 = .ok (.aload_n 1, 1) := by decide +kernel
theorem dX8_priceSets_6 : decode cX8_priceSets 6 = .ok (.getfield 71, 3) := by decide +kernel
theorem dX8_priceSets_9 : decode cX8_priceSets 9 = .ok (.iload_n 3, 1) := by decide +kernel
theorem dX8_priceSets_10 : decode cX8_priceSets 10 = .ok (.iaload, 1) := by decide +kernel
theorem dX8_priceSets_11 : decode cX8_priceSets 11 = .ok (.if_icmp .gt 39, 3) := by decide +kernel
theorem dX8_priceSets_14 : decode cX8_priceSets 14 = .ok (.iload 6, 2) := by decide +kernel
theorem dX8_priceSets_16 : decode cX8_priceSets 16 = .ok (.aload_n 0, 1) := by decide +kernel
theorem dX8_priceSets_17 : decode cX8_priceSets 17 = .ok (.getfield 23, 3) := by decide +kernel
theorem dX8_priceSets_20 : decode cX8_priceSets 20 = .ok (.arraylength, 1) := by decide +kernel
theorem dX8_priceSets_21 : decode cX8_priceSets 21 = .ok (.if_icmp .ge 29, 3) := by decide +kernel
theorem dX8_priceSets_24 : decode cX8_priceSets 24 = .ok (.aload_n 0, 1) := by decide +kernel
theorem dX8_priceSets_25 : decode cX8_priceSets 25 = .ok (.getfield 23, 3) := by decide +kernel
theorem dX8_priceSets_28 : decode cX8_priceSets 28 = .ok (.iload 6, 2) := by decide +kernel
theorem dX8_priceSets_30 : decode cX8_priceSets 30 = .ok (.aload_n 1, 1) := by decide +kernel
theorem dX8_priceSets_31 : decode cX8_priceSets 31 = .ok (.aload_n 2, 1) := by decide +kernel
theorem dX8_priceSets_32 : decode cX8_priceSets 32 = .ok (.iload_n 3, 1) := by decide +kernel
theorem dX8_priceSets_33 : decode cX8_priceSets 33 = .ok (.iload 4, 2) := by decide +kernel
theorem dX8_priceSets_35 : decode cX8_priceSets 35 = .ok (.iconst 1, 1) := by decide +kernel
theorem dX8_priceSets_36 : decode cX8_priceSets 36 = .ok (.isub, 1) := by decide +kernel
theorem dX8_priceSets_37 : decode cX8_priceSets 37 = .ok (.iload 6, 2) := by decide +kernel
theorem dX8_priceSets_39 : decode cX8_priceSets 39 = .ok (.iconst 0, 1) := by decide +kernel
theorem dX8_priceSets_40 : decode cX8_priceSets 40 = .ok (.invokevirtual 74, 3) := by decide +kernel
theorem dX8_priceSets_43 : decode cX8_priceSets 43 = .ok (.iastore, 1) := by decide +kernel
theorem dX8_priceSets_44 : decode cX8_priceSets 44 = .ok (.iinc 6 1, 3) := by decide +kernel
theorem dX8_priceSets_47 : decode cX8_priceSets 47 = .ok (.goto (-44), 3) := by decide +kernel
theorem dX8_priceSets_50 : decode cX8_priceSets 50 = .ok (.aload_n 0, 1) := by decide +kernel
theorem dX8_priceSets_51 : decode cX8_priceSets 51 = .ok (.getfield 20, 3) := by decide +kernel
theorem dX8_priceSets_54 : decode cX8_priceSets 54 = .ok (.iconst 0, 1) := by decide +kernel
theorem dX8_priceSets_55 : decode cX8_priceSets 55 = .ok (.iload 5, 2) := by decide +kernel
theorem dX8_priceSets_57 : decode cX8_priceSets 57 = .ok (.ifCond .eq 8, 3) := by decide +kernel
theorem dX8_priceSets_60 : decode cX8_priceSets 60 = .ok (.ldc 45, 2) := by decide +kernel
theorem dX8_priceSets_62 : decode cX8_priceSets 62 = .ok (.goto 4, 3) := by decide +kernel
theorem dX8_priceSets_65 : decode cX8_priceSets 65 = .ok (.iconst 0, 1) := by decide +kernel
theorem dX8_priceSets_66 : decode cX8_priceSets 66 = .ok (.iastore, 1) := by decide +kernel
theorem dX8_priceSets_67 : decode cX8_priceSets 67 = .ok (.iconst 1, 1) := by decide +kernel
theorem dX8_priceSets_68 : decode cX8_priceSets 68 = .ok (.istore 6, 2) := by decide +kernel
theorem dX8_priceSets_70 : decode cX8_priceSets 70 = .ok (.iload 6, 2) := by decide +kernel
theorem dX8_priceSets_72 : decode cX8_priceSets 72 = .ok (.iload 4, 2) := by decide +kernel
theorem dX8_priceSets_74 : decode cX8_priceSets 74 = .ok (.if_icmp .ge 26, 3) := by decide +kernel
theorem dX8_priceSets_77 : decode cX8_priceSets 77 = .ok (.aload_n 0, 1) := by decide +kernel
theorem dX8_priceSets_78 : decode cX8_priceSets 78 = .ok (.getfield 20, 3) := by decide +kernel
theorem dX8_priceSets_81 : decode cX8_priceSets 81 = .ok (.iload 6, 2) := by decide +kernel
theorem dX8_priceSets_83 : decode cX8_priceSets 83 = .ok (.aload_n 0, 1) := by decide +kernel
theorem dX8_priceSets_84 : decode cX8_priceSets 84 = .ok (.aload_n 1, 1) := by decide +kernel
theorem dX8_priceSets_85 : decode cX8_priceSets 85 = .ok (.iload_n 3, 1) := by decide +kernel
theorem dX8_priceSets_86 : decode cX8_priceSets 86 = .ok (.iload 6, 2) := by decide +kernel
theorem dX8_priceSets_88 : decode cX8_priceSets 88 = .ok (.iload 5, 2) := by decide +kernel
theorem dX8_priceSets_90 : decode cX8_priceSets 90 = .ok (.invokevirtual 78, 3) := by decide +kernel
theorem dX8_priceSets_93 : decode cX8_priceSets 93 = .ok (.iastore, 1) := by decide +kernel
theorem dX8_priceSets_94 : decode cX8_priceSets 94 = .ok (.iinc 6 1, 3) := by decide +kernel
theorem dX8_priceSets_97 : decode cX8_priceSets 97 = .ok (.goto (-27), 3) := by decide +kernel
theorem dX8_priceSets_100 : decode cX8_priceSets 100 = .ok (.return_, 1) := by decide +kernel
theorem dX8_priceOf_0 : decode cX8_priceOf 0 = .ok (.iload_n 3, 1) := by decide +kernel
theorem dX8_priceOf_1 : decode cX8_priceOf 1 = .ok (.invokestatic 82, 3) := by decide +kernel
theorem dX8_priceOf_4 : decode cX8_priceOf 4 = .ok (.istore 5, 2) := by decide +kernel
theorem dX8_priceOf_6 : decode cX8_priceOf 6 = .ok (.iload 5, 2) := by decide +kernel
theorem dX8_priceOf_8 : decode cX8_priceOf 8 = .ok (.aload_n 1, 1) := by decide +kernel
theorem dX8_priceOf_9 : decode cX8_priceOf 9 = .ok (.getfield 71, 3) := by decide +kernel
theorem dX8_priceOf_12 : decode cX8_priceOf 12 = .ok (.iload_n 2, 1) := by decide +kernel
theorem dX8_priceOf_13 : decode cX8_priceOf 13 = .ok (.iaload, 1) := by decide +kernel
theorem dX8_priceOf_14 : decode cX8_priceOf 14 = .ok (.if_icmp .gt 13, 3) := by decide +kernel
theorem dX8_priceOf_17 : decode cX8_priceOf 17 = .ok (.iload 5, 2) := by decide +kernel
theorem dX8_priceOf_19 : decode cX8_priceOf 19 = .ok (.aload_n 0, 1) := by decide +kernel
theorem dX8_priceOf_20 : decode cX8_priceOf 20 = .ok (.getfield 23, 3) := by decide +kernel
theorem dX8_priceOf_23 : decode cX8_priceOf 23 = .ok (.arraylength, 1) := by decide +kernel
theorem dX8_priceOf_24 : decode cX8_priceOf 24 = .ok (.if_icmp .lt 6, 3) := by decide +kernel
theorem dX8_priceOf_27 : decode cX8_priceOf 27 = .ok (.ldc 45, 2) := by decide +kernel
theorem dX8_priceOf_29 : decode cX8_priceOf 29 = .ok (.ireturn, 1) := by decide +kernel
theorem dX8_priceOf_30 : decode cX8_priceOf 30 = .ok (.aload_n 1, 1) := by decide +kernel
theorem dX8_priceOf_31 : decode cX8_priceOf 31 = .ok (.iload_n 3, 1) := by decide +kernel
theorem dX8_priceOf_32 : decode cX8_priceOf 32 = .ok (.invokevirtual 88, 3) := by decide +kernel
theorem dX8_priceOf_35 : decode cX8_priceOf 35 = .ok (.ifCond .eq 7, 3) := by decide +kernel
theorem dX8_priceOf_38 : decode cX8_priceOf 38 = .ok (.iconst 0, 1) := by decide +kernel
theorem dX8_priceOf_39 : decode cX8_priceOf 39 = .ok (.goto 15, 3) := by decide +kernel
theorem dX8_priceOf_42 : decode cX8_priceOf 42 = .ok (.aload_n 0, 1) := by decide +kernel
theorem dX8_priceOf_43 : decode cX8_priceOf 43 = .ok (.getfield 23, 3) := by decide +kernel
theorem dX8_priceOf_46 : decode cX8_priceOf 46 = .ok (.iload 5, 2) := by decide +kernel
theorem dX8_priceOf_48 : decode cX8_priceOf 48 = .ok (.iaload, 1) := by decide +kernel
theorem dX8_priceOf_49 : decode cX8_priceOf 49 = .ok (.iload_n 3, 1) := by decide +kernel
theorem dX8_priceOf_50 : decode cX8_priceOf 50 = .ok (.iand, 1) := by decide +kernel
theorem dX8_priceOf_51 : decode cX8_priceOf 51 = .ok (.invokestatic 82, 3) := by decide +kernel
theorem dX8_priceOf_54 : decode cX8_priceOf 54 = .ok (.istore 6, 2) := by decide +kernel
theorem dX8_priceOf_56 : decode cX8_priceOf 56 = .ok (.iload 4, 2) := by decide +kernel
theorem dX8_priceOf_58 : decode cX8_priceOf 58 = .ok (.ifCond .eq 13, 3) := by decide +kernel
theorem dX8_priceOf_61 : decode cX8_priceOf 61 = .ok (.iload 6, 2) := by decide +kernel
theorem dX8_priceOf_63 : decode cX8_priceOf 63 = .ok (.iload 5, 2) := by decide +kernel
theorem dX8_priceOf_65 : decode cX8_priceOf 65 = .ok (.if_icmp .eq 6, 3) := by decide +kernel
theorem dX8_priceOf_68 : decode cX8_priceOf 68 = .ok (.ldc 45, 2) := by decide +kernel
theorem dX8_priceOf_70 : decode cX8_priceOf 70 = .ok (.ireturn, 1) := by decide +kernel
theorem dX8_priceOf_71 : decode cX8_priceOf 71 = .ok (.iconst 0, 1) := by decide +kernel
theorem dX8_priceOf_72 : decode cX8_priceOf 72 = .ok (.istore 7, 2) := by decide +kernel
theorem dX8_priceOf_74 : decode cX8_priceOf 74 = .ok (.iconst 0, 1) := by decide +kernel
theorem dX8_priceOf_75 : decode cX8_priceOf 75 = .ok (.istore 8, 2) := by decide +kernel
theorem dX8_priceOf_77 : decode cX8_priceOf 77 = .ok (.iload 8, 2) := by decide +kernel
theorem dX8_priceOf_79 : decode cX8_priceOf 79 = .ok (.aload_n 1, 1) := by decide +kernel
theorem dX8_priceOf_80 : decode cX8_priceOf 80 = .ok (.getfield 36, 3) := by decide +kernel
theorem dX8_priceOf_83 : decode cX8_priceOf 83 = .ok (.if_icmp .ge 30, 3) := by decide +kernel
theorem dX8_priceOf_86 : decode cX8_priceOf 86 = .ok (.iload_n 3, 1) := by decide +kernel
theorem dX8_priceOf_87 : decode cX8_priceOf 87 = .ok (.iload 8, 2) := by decide +kernel
theorem dX8_priceOf_89 : decode cX8_priceOf 89 = .ok (.ishr, 1) := by decide +kernel
theorem dX8_priceOf_90 : decode cX8_priceOf 90 = .ok (.iconst 1, 1) := by decide +kernel
theorem dX8_priceOf_91 : decode cX8_priceOf 91 = .ok (.iand, 1) := by decide +kernel
theorem dX8_priceOf_92 : decode cX8_priceOf 92 = .ok (.ifCond .eq 15, 3) := by decide +kernel
theorem dX8_priceOf_95 : decode cX8_priceOf 95 = .ok (.iload 7, 2) := by decide +kernel
theorem dX8_priceOf_97 : decode cX8_priceOf 97 = .ok (.aload_n 1, 1) := by decide +kernel
theorem dX8_priceOf_98 : decode cX8_priceOf 98 = .ok (.iload 8, 2) := by decide +kernel
theorem dX8_priceOf_100 : decode cX8_priceOf 100 = .ok (.iload_n 2, 1) := by decide +kernel
theorem dX8_priceOf_101 : decode cX8_priceOf 101 = .ok (.invokevirtual 92, 3) := by decide +kernel
theorem dX8_priceOf_104 : decode cX8_priceOf 104 = .ok (.iadd, 1) := by decide +kernel
theorem dX8_priceOf_105 : decode cX8_priceOf 105 = .ok (.istore 7, 2) := by decide +kernel
theorem dX8_priceOf_107 : decode cX8_priceOf 107 = .ok (.iinc 8 1, 3) := by decide +kernel
theorem dX8_priceOf_110 : decode cX8_priceOf 110 = .ok (.goto (-33), 3) := by decide +kernel
theorem dX8_priceOf_113 : decode cX8_priceOf 113 = .ok (.iload 4, 2) := by decide +kernel
theorem dX8_priceOf_115 : decode cX8_priceOf 115 = .ok (.ifCond .eq 7, 3) := by decide +kernel
theorem dX8_priceOf_118 : decode cX8_priceOf 118 = .ok (.iconst 0, 1) := by decide +kernel
theorem dX8_priceOf_119 : decode cX8_priceOf 119 = .ok (.goto 8, 3) := by decide +kernel
theorem dX8_priceOf_122 : decode cX8_priceOf 122 = .ok (.iload 6, 2) := by decide +kernel
theorem dX8_priceOf_124 : decode cX8_priceOf 124 = .ok (.ldc 95, 2) := by decide +kernel
theorem dX8_priceOf_126 : decode cX8_priceOf 126 = .ok (.imul, 1) := by decide +kernel
theorem dX8_priceOf_127 : decode cX8_priceOf 127 = .ok (.istore 8, 2) := by decide +kernel
theorem dX8_priceOf_129 : decode cX8_priceOf 129 = .ok (.iload 7, 2) := by decide +kernel
theorem dX8_priceOf_131 : decode cX8_priceOf 131 = .ok (.sipush 16807, 3) := by decide +kernel
theorem dX8_priceOf_134 : decode cX8_priceOf 134 = .ok (.imul, 1) := by decide +kernel
theorem dX8_priceOf_135 : decode cX8_priceOf 135 = .ok (.iload 8, 2) := by decide +kernel
theorem dX8_priceOf_137 : decode cX8_priceOf 137 = .ok (.isub, 1) := by decide +kernel
theorem dX8_priceOf_138 : decode cX8_priceOf 138 = .ok (.aload_n 1, 1) := by decide +kernel
theorem dX8_priceOf_139 : decode cX8_priceOf 139 = .ok (.getfield 36, 3) := by decide +kernel
theorem dX8_priceOf_142 : decode cX8_priceOf 142 = .ok (.iload_n 3, 1) := by decide +kernel
theorem dX8_priceOf_143 : decode cX8_priceOf 143 = .ok (.iload_n 2, 1) := by decide +kernel
theorem dX8_priceOf_144 : decode cX8_priceOf 144 = .ok (.invokestatic 63, 3) := by decide +kernel
theorem dX8_priceOf_147 : decode cX8_priceOf 147 = .ok (.iadd, 1) := by decide +kernel
theorem dX8_priceOf_148 : decode cX8_priceOf 148 = .ok (.ireturn, 1) := by decide +kernel
theorem dX8_goOnWithHearth_0 : decode cX8_goOnWithHearth 0 = .ok (.aload_n 0, 1) := by decide +kernel
theorem dX8_goOnWithHearth_1 : decode cX8_goOnWithHearth 1 = .ok (.getfield 13, 3) := by decide +kernel
theorem dX8_goOnWithHearth_4 : decode cX8_goOnWithHearth 4 = .ok (.iconst 0, 1) := by decide +kernel
theorem dX8_goOnWithHearth_5 : decode cX8_goOnWithHearth 5 = .ok (.aload_n 0, 1) := by decide +kernel
theorem dX8_goOnWithHearth_6 : decode cX8_goOnWithHearth 6 = .ok (.getfield 17, 3) := by decide +kernel
theorem dX8_goOnWithHearth_9 : decode cX8_goOnWithHearth 9 = .ok (.iconst 0, 1) := by decide +kernel
theorem dX8_goOnWithHearth_10 : decode cX8_goOnWithHearth 10 = .ok (.bipush 32, 2) := by decide +kernel
theorem dX8_goOnWithHearth_12 : decode cX8_goOnWithHearth 12 = .ok (.invokestatic 96, 3) := by decide +kernel
theorem dX8_goOnWithHearth_15 : decode cX8_goOnWithHearth 15 = .ok (.iconst 0, 1) := by decide +kernel
theorem dX8_goOnWithHearth_16 : decode cX8_goOnWithHearth 16 = .ok (.istore_n 2, 1) := by decide +kernel
theorem dX8_goOnWithHearth_17 : decode cX8_goOnWithHearth 17 = .ok (.iload_n 2, 1) := by decide +kernel
theorem dX8_goOnWithHearth_18 : decode cX8_goOnWithHearth 18 = .ok (.iload_n 1, 1) := by decide +kernel
theorem dX8_goOnWithHearth_19 : decode cX8_goOnWithHearth 19 = .ok (.if_icmp .ge 108, 3) := by decide +kernel
theorem dX8_goOnWithHearth_22 : decode cX8_goOnWithHearth 22 = .ok (.aload_n 0, 1) := by decide +kernel
theorem dX8_goOnWithHearth_23 : decode cX8_goOnWithHearth 23 = .ok (.getfield 13, 3) := by decide +kernel
theorem dX8_goOnWithHearth_26 : decode cX8_goOnWithHearth 26 = .ok (.iload_n 2, 1) := by decide +kernel
theorem dX8_goOnWithHearth_27 : decode cX8_goOnWithHearth 27 = .ok (.ldc 45, 2) := by decide +kernel
theorem dX8_goOnWithHearth_29 : decode cX8_goOnWithHearth 29 = .ok (.iastore, 1) := by decide +kernel
theorem dX8_goOnWithHearth_30 : decode cX8_goOnWithHearth 30 = .ok (.iconst 0, 1) := by decide +kernel
theorem dX8_goOnWithHearth_31 : decode cX8_goOnWithHearth 31 = .ok (.istore_n 3, 1) := by decide +kernel
theorem dX8_goOnWithHearth_32 : decode cX8_goOnWithHearth 32 = .ok (.iload_n 3, 1) := by decide +kernel
theorem dX8_goOnWithHearth_33 : decode cX8_goOnWithHearth 33 = .ok (.iload_n 2, 1) := by decide +kernel
theorem dX8_goOnWithHearth_34 : decode cX8_goOnWithHearth 34 = .ok (.if_icmp .gt 87, 3) := by decide +kernel
theorem dX8_goOnWithHearth_37 : decode cX8_goOnWithHearth 37 = .ok (.iload_n 3, 1) := by decide +kernel
theorem dX8_goOnWithHearth_38 : decode cX8_goOnWithHearth 38 = .ok (.iload_n 2, 1) := by decide +kernel
theorem dX8_goOnWithHearth_39 : decode cX8_goOnWithHearth 39 = .ok (.iconst (-1), 1) := by decide +kernel
theorem dX8_goOnWithHearth_40 : decode cX8_goOnWithHearth 40 = .ok (.ixor, 1) := by decide +kernel
theorem dX8_goOnWithHearth_41 : decode cX8_goOnWithHearth 41 = .ok (.iand, 1) := by decide +kernel
theorem dX8_goOnWithHearth_42 : decode cX8_goOnWithHearth 42 = .ok (.ifCond .ne 7, 3) := by decide +kernel
theorem dX8_goOnWithHearth_45 : decode cX8_goOnWithHearth 45 = .ok (.iconst 1, 1) := by decide +kernel
theorem dX8_goOnWithHearth_46 : decode cX8_goOnWithHearth 46 = .ok (.goto 4, 3) := by decide +kernel
theorem dX8_goOnWithHearth_49 : decode cX8_goOnWithHearth 49 = .ok (.iconst 0, 1) := by decide +kernel
theorem dX8_goOnWithHearth_50 : decode cX8_goOnWithHearth 50 = .ok (.istore 4, 2) := by decide +kernel
theorem dX8_goOnWithHearth_52 : decode cX8_goOnWithHearth 52 = .ok (.iload 4, 2) := by decide +kernel
theorem dX8_goOnWithHearth_54 : decode cX8_goOnWithHearth 54 = .ok (.ifCond .eq 61, 3) := by decide +kernel
theorem dX8_goOnWithHearth_57 : decode cX8_goOnWithHearth 57 = .ok (.aload_n 0, 1) := by decide +kernel
theorem dX8_goOnWithHearth_58 : decode cX8_goOnWithHearth 58 = .ok (.getfield 20, 3) := by decide +kernel
theorem dX8_goOnWithHearth_61 : decode cX8_goOnWithHearth 61 = .ok (.iload_n 3, 1) := by decide +kernel
theorem dX8_goOnWithHearth_62 : decode cX8_goOnWithHearth 62 = .ok (.iaload, 1) := by decide +kernel
theorem dX8_goOnWithHearth_63 : decode cX8_goOnWithHearth 63 = .ok (.ldc 45, 2) := by decide +kernel
theorem dX8_goOnWithHearth_65 : decode cX8_goOnWithHearth 65 = .ok (.if_icmp .eq 50, 3) := by decide +kernel
theorem dX8_goOnWithHearth_68 : decode cX8_goOnWithHearth 68 = .ok (.aload_n 0, 1) := by decide +kernel
theorem dX8_goOnWithHearth_69 : decode cX8_goOnWithHearth 69 = .ok (.getfield 17, 3) := by decide +kernel
theorem dX8_goOnWithHearth_72 : decode cX8_goOnWithHearth 72 = .ok (.iload_n 2, 1) := by decide +kernel
theorem dX8_goOnWithHearth_73 : decode cX8_goOnWithHearth 73 = .ok (.iload_n 3, 1) := by decide +kernel
theorem dX8_goOnWithHearth_74 : decode cX8_goOnWithHearth 74 = .ok (.iconst (-1), 1) := by decide +kernel
theorem dX8_goOnWithHearth_75 : decode cX8_goOnWithHearth 75 = .ok (.ixor, 1) := by decide +kernel
theorem dX8_goOnWithHearth_76 : decode cX8_goOnWithHearth 76 = .ok (.iand, 1) := by decide +kernel
theorem dX8_goOnWithHearth_77 : decode cX8_goOnWithHearth 77 = .ok (.iaload, 1) := by decide +kernel
theorem dX8_goOnWithHearth_78 : decode cX8_goOnWithHearth 78 = .ok (.ldc 45, 2) := by decide +kernel
theorem dX8_goOnWithHearth_80 : decode cX8_goOnWithHearth 80 = .ok (.if_icmp .eq 35, 3) := by decide +kernel
theorem dX8_goOnWithHearth_83 : decode cX8_goOnWithHearth 83 = .ok (.aload_n 0, 1) := by decide +kernel
theorem dX8_goOnWithHearth_84 : decode cX8_goOnWithHearth 84 = .ok (.getfield 13, 3) := by decide +kernel
theorem dX8_goOnWithHearth_87 : decode cX8_goOnWithHearth 87 = .ok (.iload_n 2, 1) := by decide +kernel
theorem dX8_goOnWithHearth_88 : decode cX8_goOnWithHearth 88 = .ok (.aload_n 0, 1) := by decide +kernel
theorem dX8_goOnWithHearth_89 : decode cX8_goOnWithHearth 89 = .ok (.getfield 13, 3) := by decide +kernel
theorem dX8_goOnWithHearth_92 : decode cX8_goOnWithHearth 92 = .ok (.iload_n 2, 1) := by decide +kernel
theorem dX8_goOnWithHearth_93 : decode cX8_goOnWithHearth 93 = .ok (.iaload, 1) := by decide +kernel
theorem dX8_goOnWithHearth_94 : decode cX8_goOnWithHearth 94 = .ok (.aload_n 0, 1) := by decide +kernel
theorem dX8_goOnWithHearth_95 : decode cX8_goOnWithHearth 95 = .ok (.getfield 17, 3) := by decide +kernel
theorem dX8_goOnWithHearth_98 : decode cX8_goOnWithHearth 98 = .ok (.iload_n 2, 1) := by decide +kernel
theorem dX8_goOnWithHearth_99 : decode cX8_goOnWithHearth 99 = .ok (.iload_n 3, 1) := by decide +kernel
theorem dX8_goOnWithHearth_100 : decode cX8_goOnWithHearth 100 = .ok (.iconst (-1), 1) := by decide +kernel
theorem dX8_goOnWithHearth_101 : decode cX8_goOnWithHearth 101 = .ok (.ixor, 1) := by decide +kernel
theorem dX8_goOnWithHearth_102 : decode cX8_goOnWithHearth 102 = .ok (.iand, 1) := by decide +kernel
theorem dX8_goOnWithHearth_103 : decode cX8_goOnWithHearth 103 = .ok (.iaload, 1) := by decide +kernel
theorem dX8_goOnWithHearth_104 : decode cX8_goOnWithHearth 104 = .ok (.aload_n 0, 1) := by decide +kernel
theorem dX8_goOnWithHearth_105 : decode cX8_goOnWithHearth 105 = .ok (.getfield 20, 3) := by decide +kernel
theorem dX8_goOnWithHearth_108 : decode cX8_goOnWithHearth 108 = .ok (.iload_n 3, 1) := by decide +kernel
theorem dX8_goOnWithHearth_109 : decode cX8_goOnWithHearth 109 = .ok (.iaload, 1) := by decide +kernel
theorem dX8_goOnWithHearth_110 : decode cX8_goOnWithHearth 110 = .ok (.iadd, 1) := by decide +kernel
theorem dX8_goOnWithHearth_111 : decode cX8_goOnWithHearth 111 = .ok (.invokestatic 39, 3) := by decide +kernel
theorem dX8_goOnWithHearth_114 : decode cX8_goOnWithHearth 114 = .ok (.iastore, 1) := by decide +kernel
theorem dX8_goOnWithHearth_115 : decode cX8_goOnWithHearth 115 = .ok (.iinc 3 1, 3) := by decide +kernel
theorem dX8_goOnWithHearth_118 : decode cX8_goOnWithHearth 118 = .ok (.goto (-86), 3) := by decide +kernel
theorem dX8_goOnWithHearth_121 : decode cX8_goOnWithHearth 121 = .ok (.iinc 2 1, 3) := by decide +kernel
theorem dX8_goOnWithHearth_124 : decode cX8_goOnWithHearth 124 = .ok (.goto (-107), 3) := by decide +kernel
theorem dX8_goOnWithHearth_127 : decode cX8_goOnWithHearth 127 = .ok (.return_, 1) := by decide +kernel
theorem dX8_orderOf_0 : decode cX8_orderOf 0 = .ok (.iconst 0, 1) := by decide +kernel
theorem dX8_orderOf_1 : decode cX8_orderOf 1 = .ok (.istore_n 3, 1) := by decide +kernel
theorem dX8_orderOf_2 : decode cX8_orderOf 2 = .ok (.iconst 0, 1) := by decide +kernel
theorem dX8_orderOf_3 : decode cX8_orderOf 3 = .ok (.istore 4, 2) := by decide +kernel
theorem dX8_orderOf_5 : decode cX8_orderOf 5 = .ok (.iload 4, 2) := by decide +kernel
theorem dX8_orderOf_7 : decode cX8_orderOf 7 = .ok (.iload_n 0, 1) := by decide +kernel
theorem dX8_orderOf_8 : decode cX8_orderOf 8 = .ok (.if_icmp .ge 38, 3) := by decide +kernel
theorem dX8_orderOf_11 : decode cX8_orderOf 11 = .ok (.iload 4, 2) := by decide +kernel
theorem dX8_orderOf_13 : decode cX8_orderOf 13 = .ok (.getstatic 102, 3) := by decide +kernel
theorem dX8_orderOf_16 : decode cX8_orderOf 16 = .ok (.arraylength, 1) := by decide +kernel
theorem dX8_orderOf_17 : decode cX8_orderOf 17 = .ok (.if_icmp .ge 29, 3) := by decide +kernel
theorem dX8_orderOf_20 : decode cX8_orderOf 20 = .ok (.iload_n 1, 1) := by decide +kernel
theorem dX8_orderOf_21 : decode cX8_orderOf 21 = .ok (.iload 4, 2) := by decide +kernel
theorem dX8_orderOf_23 : decode cX8_orderOf 23 = .ok (.ishr, 1) := by decide +kernel
theorem dX8_orderOf_24 : decode cX8_orderOf 24 = .ok (.iconst 1, 1) := by decide +kernel
theorem dX8_orderOf_25 : decode cX8_orderOf 25 = .ok (.iand, 1) := by decide +kernel
theorem dX8_orderOf_26 : decode cX8_orderOf 26 = .ok (.ifCond .eq 14, 3) := by decide +kernel
theorem dX8_orderOf_29 : decode cX8_orderOf 29 = .ok (.iload_n 3, 1) := by decide +kernel
theorem dX8_orderOf_30 : decode cX8_orderOf 30 = .ok (.iload_n 2, 1) := by decide +kernel
theorem dX8_orderOf_31 : decode cX8_orderOf 31 = .ok (.getstatic 102, 3) := by decide +kernel
theorem dX8_orderOf_34 : decode cX8_orderOf 34 = .ok (.iload 4, 2) := by decide +kernel
theorem dX8_orderOf_36 : decode cX8_orderOf 36 = .ok (.iaload, 1) := by decide +kernel
theorem dX8_orderOf_37 : decode cX8_orderOf 37 = .ok (.imul, 1) := by decide +kernel
theorem dX8_orderOf_38 : decode cX8_orderOf 38 = .ok (.iadd, 1) := by decide +kernel
theorem dX8_orderOf_39 : decode cX8_orderOf 39 = .ok (.istore_n 3, 1) := by decide +kernel
theorem dX8_orderOf_40 : decode cX8_orderOf 40 = .ok (.iinc 4 1, 3) := by decide +kernel
theorem dX8_orderOf_43 : decode cX8_orderOf 43 = .ok (.goto (-38), 3) := by decide +kernel
theorem dX8_orderOf_46 : decode cX8_orderOf 46 = .ok (.iload_n 3, 1) := by decide +kernel
theorem dX8_orderOf_47 : decode cX8_orderOf 47 = .ok (.ireturn, 1) := by decide +kernel
theorem dX8_unpack_0 : decode cX8_unpack 0 = .ok (.iload_n 2, 1) := by decide +kernel
theorem dX8_unpack_1 : decode cX8_unpack 1 = .ok (.ldc 95, 2) := by decide +kernel
theorem dX8_unpack_3 : decode cX8_unpack 3 = .ok (.invokestatic 105, 3) := by decide +kernel
theorem dX8_unpack_6 : decode cX8_unpack 6 = .ok (.istore_n 3, 1) := by decide +kernel
theorem dX8_unpack_7 : decode cX8_unpack 7 = .ok (.aload_n 0, 1) := by decide +kernel
theorem dX8_unpack_8 : decode cX8_unpack 8 = .ok (.iload_n 2, 1) := by decide +kernel
theorem dX8_unpack_9 : decode cX8_unpack 9 = .ok (.ldc 95, 2) := by decide +kernel
theorem dX8_unpack_11 : decode cX8_unpack 11 = .ok (.invokestatic 108, 3) := by decide +kernel
theorem dX8_unpack_14 : decode cX8_unpack 14 = .ok (.ineg, 1) := by decide +kernel
theorem dX8_unpack_15 : decode cX8_unpack 15 = .ok (.putfield 29, 3) := by decide +kernel
theorem dX8_unpack_18 : decode cX8_unpack 18 = .ok (.aload_n 0, 1) := by decide +kernel
theorem dX8_unpack_19 : decode cX8_unpack 19 = .ok (.iload_n 3, 1) := by decide +kernel
theorem dX8_unpack_20 : decode cX8_unpack 20 = .ok (.sipush 16807, 3) := by decide +kernel
theorem dX8_unpack_23 : decode cX8_unpack 23 = .ok (.idiv, 1) := by decide +kernel
theorem dX8_unpack_24 : decode cX8_unpack 24 = .ok (.putfield 33, 3) := by decide +kernel
theorem dX8_unpack_27 : decode cX8_unpack 27 = .ok (.iload_n 3, 1) := by decide +kernel
theorem dX8_unpack_28 : decode cX8_unpack 28 = .ok (.sipush 16807, 3) := by decide +kernel
theorem dX8_unpack_31 : decode cX8_unpack 31 = .ok (.irem, 1) := by decide +kernel
theorem dX8_unpack_32 : decode cX8_unpack 32 = .ok (.istore 4, 2) := by decide +kernel
theorem dX8_unpack_34 : decode cX8_unpack 34 = .ok (.iconst 0, 1) := by decide +kernel
theorem dX8_unpack_35 : decode cX8_unpack 35 = .ok (.istore 5, 2) := by decide +kernel
theorem dX8_unpack_37 : decode cX8_unpack 37 = .ok (.iload 5, 2) := by decide +kernel
theorem dX8_unpack_39 : decode cX8_unpack 39 = .ok (.aload_n 1, 1) := by decide +kernel
theorem dX8_unpack_40 : decode cX8_unpack 40 = .ok (.getfield 36, 3) := by decide +kernel
theorem dX8_unpack_43 : decode cX8_unpack 43 = .ok (.if_icmp .ge 54, 3) := by decide +kernel
theorem dX8_unpack_46 : decode cX8_unpack 46 = .ok (.iload 5, 2) := by decide +kernel
theorem dX8_unpack_48 : decode cX8_unpack 48 = .ok (.getstatic 102, 3) := by decide +kernel
theorem dX8_unpack_51 : decode cX8_unpack 51 = .ok (.arraylength, 1) := by decide +kernel
theorem dX8_unpack_52 : decode cX8_unpack 52 = .ok (.if_icmp .ge 45, 3) := by decide +kernel
theorem dX8_unpack_55 : decode cX8_unpack 55 = .ok (.iload 4, 2) := by decide +kernel
theorem dX8_unpack_57 : decode cX8_unpack 57 = .ok (.getstatic 102, 3) := by decide +kernel
theorem dX8_unpack_60 : decode cX8_unpack 60 = .ok (.iload 5, 2) := by decide +kernel
theorem dX8_unpack_62 : decode cX8_unpack 62 = .ok (.iaload, 1) := by decide +kernel
theorem dX8_unpack_63 : decode cX8_unpack 63 = .ok (.idiv, 1) := by decide +kernel
theorem dX8_unpack_64 : decode cX8_unpack 64 = .ok (.bipush 7, 2) := by decide +kernel
theorem dX8_unpack_66 : decode cX8_unpack 66 = .ok (.irem, 1) := by decide +kernel
theorem dX8_unpack_67 : decode cX8_unpack 67 = .ok (.istore 6, 2) := by decide +kernel
theorem dX8_unpack_69 : decode cX8_unpack 69 = .ok (.aload_n 0, 1) := by decide +kernel
theorem dX8_unpack_70 : decode cX8_unpack 70 = .ok (.getfield 26, 3) := by decide +kernel
theorem dX8_unpack_73 : decode cX8_unpack 73 = .ok (.iload 5, 2) := by decide +kernel
theorem dX8_unpack_75 : decode cX8_unpack 75 = .ok (.iload 6, 2) := by decide +kernel
theorem dX8_unpack_77 : decode cX8_unpack 77 = .ok (.aload_n 1, 1) := by decide +kernel
theorem dX8_unpack_78 : decode cX8_unpack 78 = .ok (.getfield 52, 3) := by decide +kernel
theorem dX8_unpack_81 : decode cX8_unpack 81 = .ok (.if_icmp .ge 8, 3) := by decide +kernel
theorem dX8_unpack_84 : decode cX8_unpack 84 = .ok (.iload 6, 2) := by decide +kernel
theorem dX8_unpack_86 : decode cX8_unpack 86 = .ok (.goto 4, 3) := by decide +kernel
theorem dX8_unpack_89 : decode cX8_unpack 89 = .ok (.iconst (-1), 1) := by decide +kernel
theorem dX8_unpack_90 : decode cX8_unpack 90 = .ok (.iastore, 1) := by decide +kernel
theorem dX8_unpack_91 : decode cX8_unpack 91 = .ok (.iinc 5 1, 3) := by decide +kernel
theorem dX8_unpack_94 : decode cX8_unpack 94 = .ok (.goto (-57), 3) := by decide +kernel
theorem dX8_unpack_97 : decode cX8_unpack 97 = .ok (.return_, 1) := by decide +kernel
theorem dX9_init_0 : decode cX9_init 0 = .ok (.aload_n 0, 1) := by decide +kernel
theorem dX9_init_1 : decode cX9_init 1 = .ok (.invokespecial 5, 3) := by decide +kernel
theorem dX9_init_4 : decode cX9_init 4 = .ok (.aload_n 0, 1) := by decide +kernel
theorem dX9_init_5 : decode cX9_init 5 = .ok (.iconst 5, 1) := by decide +kernel
theorem dX9_init_6 : decode cX9_init 6 = .ok (.newarray .int, 2) := by decide +kernel
theorem dX9_init_8 : decode cX9_init 8 = .ok (.putfield 11, 3) := by decide +kernel
theorem dX9_init_11 : decode cX9_init 11 = .ok (.aload_n 0, 1) := by decide +kernel
theorem dX9_init_12 : decode cX9_init 12 = .ok (.iconst 5, 1) := by decide +kernel
theorem dX9_init_13 : decode cX9_init 13 = .ok (.newarray .int, 2) := by decide +kernel
theorem dX9_init_15 : decode cX9_init 15 = .ok (.putfield 17, 3) := by decide +kernel
theorem dX9_init_18 : decode cX9_init 18 = .ok (.aload_n 0, 1) := by decide +kernel
theorem dX9_init_19 : decode cX9_init 19 = .ok (.iconst 5, 1) := by decide +kernel
theorem dX9_init_20 : decode cX9_init 20 = .ok (.newarray .int, 2) := by decide +kernel
theorem dX9_init_22 : decode cX9_init 22 = .ok (.putfield 20, 3) := by decide +kernel
theorem dX9_init_25 : decode cX9_init 25 = .ok (.aload_n 0, 1) := by decide +kernel
theorem dX9_init_26 : decode cX9_init 26 = .ok (.iconst 5, 1) := by decide +kernel
theorem dX9_init_27 : decode cX9_init 27 = .ok (.newarray .int, 2) := by decide +kernel
theorem dX9_init_29 : decode cX9_init 29 = .ok (.putfield 23, 3) := by decide +kernel
theorem dX9_init_32 : decode cX9_init 32 = .ok (.aload_n 0, 1) := by decide +kernel
theorem dX9_init_33 : decode cX9_init 33 = .ok (.iconst 0, 1) := by decide +kernel
theorem dX9_init_34 : decode cX9_init 34 = .ok (.putfield 26, 3) := by decide +kernel
theorem dX9_init_37 : decode cX9_init 37 = .ok (.aload_n 0, 1) := by decide +kernel
theorem dX9_init_38 : decode cX9_init 38 = .ok (.iconst 0, 1) := by decide +kernel
theorem dX9_init_39 : decode cX9_init 39 = .ok (.putfield 30, 3) := by decide +kernel
theorem dX9_init_42 : decode cX9_init 42 = .ok (.return_, 1) := by decide +kernel
theorem dX9_begin_0 : decode cX9_begin 0 = .ok (.aload_n 1, 1) := by decide +kernel
theorem dX9_begin_1 : decode cX9_begin 1 = .ok (.getfield 33, 3) := by decide +kernel
theorem dX9_begin_4 : decode cX9_begin 4 = .ok (.iconst 0, 1) := by decide +kernel
theorem dX9_begin_5 : decode cX9_begin 5 = .ok (.aload_n 0, 1) := by decide +kernel
theorem dX9_begin_6 : decode cX9_begin 6 = .ok (.getfield 11, 3) := by decide +kernel
theorem dX9_begin_9 : decode cX9_begin 9 = .ok (.iconst 0, 1) := by decide +kernel
theorem dX9_begin_10 : decode cX9_begin 10 = .ok (.iconst 5, 1) := by decide +kernel
theorem dX9_begin_11 : decode cX9_begin 11 = .ok (.invokestatic 36, 3) := by decide +kernel
theorem dX9_begin_14 : decode cX9_begin 14 = .ok (.aload_n 1, 1) := by decide +kernel
theorem dX9_begin_15 : decode cX9_begin 15 = .ok (.getfield 42, 3) := by decide +kernel
theorem dX9_begin_18 : decode cX9_begin 18 = .ok (.iconst 0, 1) := by decide +kernel
theorem dX9_begin_19 : decode cX9_begin 19 = .ok (.aload_n 0, 1) := by decide +kernel
theorem dX9_begin_20 : decode cX9_begin 20 = .ok (.getfield 17, 3) := by decide +kernel
theorem dX9_begin_23 : decode cX9_begin 23 = .ok (.iconst 0, 1) := by decide +kernel
theorem dX9_begin_24 : decode cX9_begin 24 = .ok (.iconst 5, 1) := by decide +kernel
theorem dX9_begin_25 : decode cX9_begin 25 = .ok (.invokestatic 36, 3) := by decide +kernel
theorem dX9_begin_28 : decode cX9_begin 28 = .ok (.aload_n 0, 1) := by decide +kernel
theorem dX9_begin_29 : decode cX9_begin 29 = .ok (.getfield 20, 3) := by decide +kernel
theorem dX9_begin_32 : decode cX9_begin 32 = .ok (.iconst 0, 1) := by decide +kernel
theorem dX9_begin_33 : decode cX9_begin 33 = .ok (.invokestatic 43, 3) := by decide +kernel
theorem dX9_begin_36 : decode cX9_begin 36 = .ok (.aload_n 0, 1) := by decide +kernel
theorem dX9_begin_37 : decode cX9_begin 37 = .ok (.getfield 23, 3) := by decide +kernel
theorem dX9_begin_40 : decode cX9_begin 40 = .ok (.iconst (-1), 1) := by decide +kernel
theorem dX9_begin_41 : decode cX9_begin 41 = .ok (.invokestatic 43, 3) := by decide +kernel
theorem dX9_begin_44 : decode cX9_begin 44 = .ok (.aload_n 0, 1) := by decide +kernel
theorem dX9_begin_45 : decode cX9_begin 45 = .ok (.iconst 0, 1) := by decide +kernel
theorem dX9_begin_46 : decode cX9_begin 46 = .ok (.putfield 26, 3) := by decide +kernel
theorem dX9_begin_49 : decode cX9_begin 49 = .ok (.aload_n 0, 1) := by decide +kernel
theorem dX9_begin_50 : decode cX9_begin 50 = .ok (.aload_n 1, 1) := by decide +kernel
theorem dX9_begin_51 : decode cX9_begin 51 = .ok (.getfield 49, 3) := by decide +kernel
theorem dX9_begin_54 : decode cX9_begin 54 = .ok (.putfield 30, 3) := by decide +kernel
theorem dX9_begin_57 : decode cX9_begin 57 = .ok (.return_, 1) := by decide +kernel
theorem dX9_copy_0 : decode cX9_copy 0 = .ok (.aload_n 1, 1) := by decide +kernel
theorem dX9_copy_1 : decode cX9_copy 1 = .ok (.getfield 11, 3) := by decide +kernel
theorem dX9_copy_4 : decode cX9_copy 4 = .ok (.iconst 0, 1) := by decide +kernel
theorem dX9_copy_5 : decode cX9_copy 5 = .ok (.aload_n 0, 1) := by decide +kernel
theorem dX9_copy_6 : decode cX9_copy 6 = .ok (.getfield 11, 3) := by decide +kernel
theorem dX9_copy_9 : decode cX9_copy 9 = .ok (.iconst 0, 1) := by decide +kernel
theorem dX9_copy_10 : decode cX9_copy 10 = .ok (.iconst 5, 1) := by decide +kernel
theorem dX9_copy_11 : decode cX9_copy 11 = .ok (.invokestatic 36, 3) := by decide +kernel
theorem dX9_copy_14 : decode cX9_copy 14 = .ok (.aload_n 1, 1) := by decide +kernel
theorem dX9_copy_15 : decode cX9_copy 15 = .ok (.getfield 17, 3) := by decide +kernel
theorem dX9_copy_18 : decode cX9_copy 18 = .ok (.iconst 0, 1) := by decide +kernel
theorem dX9_copy_19 : decode cX9_copy 19 = .ok (.aload_n 0, 1) := by decide +kernel
theorem dX9_copy_20 : decode cX9_copy 20 = .ok (.getfield 17, 3) := by decide +kernel
theorem dX9_copy_23 : decode cX9_copy 23 = .ok (.iconst 0, 1) := by decide +kernel
theorem dX9_copy_24 : decode cX9_copy 24 = .ok (.iconst 5, 1) := by decide +kernel
theorem dX9_copy_25 : decode cX9_copy 25 = .ok (.invokestatic 36, 3) := by decide +kernel
theorem dX9_copy_28 : decode cX9_copy 28 = .ok (.aload_n 1, 1) := by decide +kernel
theorem dX9_copy_29 : decode cX9_copy 29 = .ok (.getfield 20, 3) := by decide +kernel
theorem dX9_copy_32 : decode cX9_copy 32 = .ok (.iconst 0, 1) := by decide +kernel
theorem dX9_copy_33 : decode cX9_copy 33 = .ok (.aload_n 0, 1) := by decide +kernel
theorem dX9_copy_34 : decode cX9_copy 34 = .ok (.getfield 20, 3) := by decide +kernel
theorem dX9_copy_37 : decode cX9_copy 37 = .ok (.iconst 0, 1) := by decide +kernel
theorem dX9_copy_38 : decode cX9_copy 38 = .ok (.iconst 5, 1) := by decide +kernel
theorem dX9_copy_39 : decode cX9_copy 39 = .ok (.invokestatic 36, 3) := by decide +kernel
theorem dX9_copy_42 : decode cX9_copy 42 = .ok (.aload_n 1, 1) := by decide +kernel
theorem dX9_copy_43 : decode cX9_copy 43 = .ok (.getfield 23, 3) := by decide +kernel
theorem dX9_copy_46 : decode cX9_copy 46 = .ok (.iconst 0, 1) := by decide +kernel
theorem dX9_copy_47 : decode cX9_copy 47 = .ok (.aload_n 0, 1) := by decide +kernel
theorem dX9_copy_48 : decode cX9_copy 48 = .ok (.getfield 23, 3) := by decide +kernel
theorem dX9_copy_51 : decode cX9_copy 51 = .ok (.iconst 0, 1) := by decide +kernel
theorem dX9_copy_52 : decode cX9_copy 52 = .ok (.iconst 5, 1) := by decide +kernel
theorem dX9_copy_53 : decode cX9_copy 53 = .ok (.invokestatic 36, 3) := by decide +kernel
theorem dX9_copy_56 : decode cX9_copy 56 = .ok (.aload_n 0, 1) := by decide +kernel
theorem dX9_copy_57 : decode cX9_copy 57 = .ok (.aload_n 1, 1) := by decide +kernel
theorem dX9_copy_58 : decode cX9_copy 58 = .ok (.getfield 26, 3) := by decide +kernel
theorem dX9_copy_61 : decode cX9_copy 61 = .ok (.putfield 26, 3) := by decide +kernel
theorem dX9_copy_64 : decode cX9_copy 64 = .ok (.aload_n 0, 1) := by decide +kernel
theorem dX9_copy_65 : decode cX9_copy 65 = .ok (.aload_n 1, 1) := by decide +kernel
theorem dX9_copy_66 : decode cX9_copy 66 = .ok (.getfield 30, 3) := by decide +kernel
theorem dX9_copy_69 : decode cX9_copy 69 = .ok (.putfield 30, 3) := by decide +kernel
theorem dX9_copy_72 : decode cX9_copy 72 = .ok (.return_, 1) := by decide +kernel
theorem dX9_keepIn_0 : decode cX9_keepIn 0 = .ok (.iload_n 2, 1) := by decide +kernel
theorem dX9_keepIn_1 : decode cX9_keepIn 1 = .ok (.ifCond .lt 12, 3) := by decide +kernel
theorem dX9_keepIn_4 : decode cX9_keepIn 4 = .ok (.iload_n 2, 1) := by decide +kernel
theorem dX9_keepIn_5 : decode cX9_keepIn 5 = .ok (.aload_n 1, 1) := by decide +kernel
theorem dX9_keepIn_6 : decode cX9_keepIn 6 = .ok (.arraylength, 1) := by decide +kernel
theorem dX9_keepIn_7 : decode cX9_keepIn 7 = .ok (.bipush 22, 2) := by decide +kernel
theorem dX9_keepIn_9 : decode cX9_keepIn 9 = .ok (.isub, 1) := by decide +kernel
theorem dX9_keepIn_10 : decode cX9_keepIn 10 = .ok (.if_icmp .le 4, 3) := by decide +kernel
theorem dX9_keepIn_13 : decode cX9_keepIn 13 = .ok (.return_, 1) := by decide +kernel
theorem dX9_keepIn_14 : decode cX9_keepIn 14 = .ok (.iconst 5, 1) := by decide +kernel
theorem dX9_keepIn_15 : decode cX9_keepIn 15 = .ok (.istore_n 3, 1) := by decide +kernel
theorem dX9_keepIn_16 : decode cX9_keepIn 16 = .ok (.aload_n 0, 1) := by decide +kernel
theorem dX9_keepIn_17 : decode cX9_keepIn 17 = .ok (.getfield 11, 3) := by decide +kernel
theorem dX9_keepIn_20 : decode cX9_keepIn 20 = .ok (.iconst 0, 1) := by decide +kernel
theorem dX9_keepIn_21 : decode cX9_keepIn 21 = .ok (.aload_n 1, 1) := by decide +kernel
theorem dX9_keepIn_22 : decode cX9_keepIn 22 = .ok (.iload_n 2, 1) := by decide +kernel
theorem dX9_keepIn_23 : decode cX9_keepIn 23 = .ok (.iload_n 3, 1) := by decide +kernel
theorem dX9_keepIn_24 : decode cX9_keepIn 24 = .ok (.invokestatic 36, 3) := by decide +kernel
theorem dX9_keepIn_27 : decode cX9_keepIn 27 = .ok (.aload_n 0, 1) := by decide +kernel
theorem dX9_keepIn_28 : decode cX9_keepIn 28 = .ok (.getfield 17, 3) := by decide +kernel
theorem dX9_keepIn_31 : decode cX9_keepIn 31 = .ok (.iconst 0, 1) := by decide +kernel
theorem dX9_keepIn_32 : decode cX9_keepIn 32 = .ok (.aload_n 1, 1) := by decide +kernel
theorem dX9_keepIn_33 : decode cX9_keepIn 33 = .ok (.iload_n 2, 1) := by decide +kernel
theorem dX9_keepIn_34 : decode cX9_keepIn 34 = .ok (.iload_n 3, 1) := by decide +kernel
theorem dX9_keepIn_35 : decode cX9_keepIn 35 = .ok (.iadd, 1) := by decide +kernel
theorem dX9_keepIn_36 : decode cX9_keepIn 36 = .ok (.iload_n 3, 1) := by decide +kernel
theorem dX9_keepIn_37 : decode cX9_keepIn 37 = .ok (.invokestatic 36, 3) := by decide +kernel
theorem dX9_keepIn_40 : decode cX9_keepIn 40 = .ok (.aload_n 0, 1) := by decide +kernel
theorem dX9_keepIn_41 : decode cX9_keepIn 41 = .ok (.getfield 20, 3) := by decide +kernel
theorem dX9_keepIn_44 : decode cX9_keepIn 44 = .ok (.iconst 0, 1) := by decide +kernel
theorem dX9_keepIn_45 : decode cX9_keepIn 45 = .ok (.aload_n 1, 1) := by decide +kernel
theorem dX9_keepIn_46 : decode cX9_keepIn 46 = .ok (.iload_n 2, 1) := by decide +kernel
theorem dX9_keepIn_47 : decode cX9_keepIn 47 = .ok (.iconst 2, 1) := by decide +kernel
theorem dX9_keepIn_48 : decode cX9_keepIn 48 = .ok (.iload_n 3, 1) := by decide +kernel
theorem dX9_keepIn_49 : decode cX9_keepIn 49 = .ok (.imul, 1) := by decide +kernel
theorem dX9_keepIn_50 : decode cX9_keepIn 50 = .ok (.iadd, 1) := by decide +kernel
theorem dX9_keepIn_51 : decode cX9_keepIn 51 = .ok (.iload_n 3, 1) := by decide +kernel
theorem dX9_keepIn_52 : decode cX9_keepIn 52 = .ok (.invokestatic 36, 3) := by decide +kernel
theorem dX9_keepIn_55 : decode cX9_keepIn 55 = .ok (.aload_n 0, 1) := by decide +kernel
theorem dX9_keepIn_56 : decode cX9_keepIn 56 = .ok (.getfield 23, 3) := by decide +kernel
theorem dX9_keepIn_59 : decode cX9_keepIn 59 = .ok (.iconst 0, 1) := by decide +kernel
theorem dX9_keepIn_60 : decode cX9_keepIn 60 = .ok (.aload_n 1, 1) := by decide +kernel
theorem dX9_keepIn_61 : decode cX9_keepIn 61 = .ok (.iload_n 2, 1) := by decide +kernel
theorem dX9_keepIn_62 : decode cX9_keepIn 62 = .ok (.iconst 3, 1) := by decide +kernel
theorem dX9_keepIn_63 : decode cX9_keepIn 63 = .ok (.iload_n 3, 1) := by decide +kernel
theorem dX9_keepIn_64 : decode cX9_keepIn 64 = .ok (.imul, 1) := by decide +kernel
theorem dX9_keepIn_65 : decode cX9_keepIn 65 = .ok (.iadd, 1) := by decide +kernel
theorem dX9_keepIn_66 : decode cX9_keepIn 66 = .ok (.iload_n 3, 1) := by decide +kernel
theorem dX9_keepIn_67 : decode cX9_keepIn 67 = .ok (.invokestatic 36, 3) := by decide +kernel
theorem dX9_keepIn_70 : decode cX9_keepIn 70 = .ok (.aload_n 1, 1) := by decide +kernel
theorem dX9_keepIn_71 : decode cX9_keepIn 71 = .ok (.iload_n 2, 1) := by decide +kernel
theorem dX9_keepIn_72 : decode cX9_keepIn 72 = .ok (.iconst 4, 1) := by decide +kernel
theorem dX9_keepIn_73 : decode cX9_keepIn 73 = .ok (.iload_n 3, 1) := by decide +kernel
theorem dX9_keepIn_74 : decode cX9_keepIn 74 = .ok (.imul, 1) := by decide +kernel
theorem dX9_keepIn_75 : decode cX9_keepIn 75 = .ok (.iadd, 1) := by decide +kernel
theorem dX9_keepIn_76 : decode cX9_keepIn 76 = .ok (.aload_n 0, 1) := by decide +kernel
theorem dX9_keepIn_77 : decode cX9_keepIn 77 = .ok (.getfield 26, 3) := by decide +kernel
theorem dX9_keepIn_80 : decode cX9_keepIn 80 = .ok (.iastore, 1) := by decide +kernel
theorem dX9_keepIn_81 : decode cX9_keepIn 81 = .ok (.aload_n 1, 1) := by decide +kernel
theorem dX9_keepIn_82 : decode cX9_keepIn 82 = .ok (.iload_n 2, 1) := by decide +kernel
theorem dX9_keepIn_83 : decode cX9_keepIn 83 = .ok (.iconst 4, 1) := by decide +kernel
theorem dX9_keepIn_84 : decode cX9_keepIn 84 = .ok (.iload_n 3, 1) := by decide +kernel
theorem dX9_keepIn_85 : decode cX9_keepIn 85 = .ok (.imul, 1) := by decide +kernel
theorem dX9_keepIn_86 : decode cX9_keepIn 86 = .ok (.iadd, 1) := by decide +kernel
theorem dX9_keepIn_87 : decode cX9_keepIn 87 = .ok (.iconst 1, 1) := by decide +kernel
theorem dX9_keepIn_88 : decode cX9_keepIn 88 = .ok (.iadd, 1) := by decide +kernel
theorem dX9_keepIn_89 : decode cX9_keepIn 89 = .ok (.aload_n 0, 1) := by decide +kernel
theorem dX9_keepIn_90 : decode cX9_keepIn 90 = .ok (.getfield 30, 3) := by decide +kernel
theorem dX9_keepIn_93 : decode cX9_keepIn 93 = .ok (.iastore, 1) := by decide +kernel
theorem dX9_keepIn_94 : decode cX9_keepIn 94 = .ok (.return_, 1) := by decide +kernel
theorem dX9_takeFrom_0 : decode cX9_takeFrom 0 = .ok (.iload_n 2, 1) := by decide +kernel
theorem dX9_takeFrom_1 : decode cX9_takeFrom 1 = .ok (.ifCond .lt 12, 3) := by decide +kernel
theorem dX9_takeFrom_4 : decode cX9_takeFrom 4 = .ok (.iload_n 2, 1) := by decide +kernel
theorem dX9_takeFrom_5 : decode cX9_takeFrom 5 = .ok (.aload_n 1, 1) := by decide +kernel
theorem dX9_takeFrom_6 : decode cX9_takeFrom 6 = .ok (.arraylength, 1) := by decide +kernel
theorem dX9_takeFrom_7 : decode cX9_takeFrom 7 = .ok (.bipush 22, 2) := by decide +kernel
theorem dX9_takeFrom_9 : decode cX9_takeFrom 9 = .ok (.isub, 1) := by decide +kernel
theorem dX9_takeFrom_10 : decode cX9_takeFrom 10 = .ok (.if_icmp .le 4, 3) := by decide +kernel
theorem dX9_takeFrom_13 : decode cX9_takeFrom 13 = .ok (.return_, 1) := by decide +kernel
theorem dX9_takeFrom_14 : decode cX9_takeFrom 14 = .ok (.iconst 5, 1) := by decide +kernel
theorem dX9_takeFrom_15 : decode cX9_takeFrom 15 = .ok (.istore_n 3, 1) := by decide +kernel
theorem dX9_takeFrom_16 : decode cX9_takeFrom 16 = .ok (.aload_n 1, 1) := by decide +kernel
theorem dX9_takeFrom_17 : decode cX9_takeFrom 17 = .ok (.iload_n 2, 1) := by decide +kernel
theorem dX9_takeFrom_18 : decode cX9_takeFrom 18 = .ok (.aload_n 0, 1) := by decide +kernel
theorem dX9_takeFrom_19 : decode cX9_takeFrom 19 = .ok (.getfield 11, 3) := by decide +kernel
theorem dX9_takeFrom_22 : decode cX9_takeFrom 22 = .ok (.iconst 0, 1) := by decide +kernel
theorem dX9_takeFrom_23 : decode cX9_takeFrom 23 = .ok (.iload_n 3, 1) := by decide +kernel
theorem dX9_takeFrom_24 : decode cX9_takeFrom 24 = .ok (.invokestatic 36, 3) := by decide +kernel
theorem dX9_takeFrom_27 : decode cX9_takeFrom 27 = .ok (.aload_n 1, 1) := by decide +kernel
theorem dX9_takeFrom_28 : decode cX9_takeFrom 28 = .ok (.iload_n 2, 1) := by decide +kernel
theorem dX9_takeFrom_29 : decode cX9_takeFrom 29 = .ok (.iload_n 3, 1) := by decide +kernel
theorem dX9_takeFrom_30 : decode cX9_takeFrom 30 = .ok (.iadd, 1) := by decide +kernel
theorem dX9_takeFrom_31 : decode cX9_takeFrom 31 = .ok (.aload_n 0, 1) := by decide +kernel
theorem dX9_takeFrom_32 : decode cX9_takeFrom 32 = .ok (.getfield 17, 3) := by decide +kernel
theorem dX9_takeFrom_35 : decode cX9_takeFrom 35 = .ok (.iconst 0, 1) := by decide +kernel
theorem dX9_takeFrom_36 : decode cX9_takeFrom 36 = .ok (.iload_n 3, 1) := by decide +kernel
theorem dX9_takeFrom_37 : decode cX9_takeFrom 37 = .ok (.invokestatic 36, 3) := by decide +kernel
theorem dX9_takeFrom_40 : decode cX9_takeFrom 40 = .ok (.aload_n 1, 1) := by decide +kernel
theorem dX9_takeFrom_41 : decode cX9_takeFrom 41 = .ok (.iload_n 2, 1) := by decide +kernel
theorem dX9_takeFrom_42 : decode cX9_takeFrom 42 = .ok (.iconst 2, 1) := by decide +kernel
theorem dX9_takeFrom_43 : decode cX9_takeFrom 43 = .ok (.iload_n 3, 1) := by decide +kernel
theorem dX9_takeFrom_44 : decode cX9_takeFrom 44 = .ok (.imul, 1) := by decide +kernel
theorem dX9_takeFrom_45 : decode cX9_takeFrom 45 = .ok (.iadd, 1) := by decide +kernel
theorem dX9_takeFrom_46 : decode cX9_takeFrom 46 = .ok (.aload_n 0, 1) := by decide +kernel
theorem dX9_takeFrom_47 : decode cX9_takeFrom 47 = .ok (.getfield 20, 3) := by decide +kernel
theorem dX9_takeFrom_50 : decode cX9_takeFrom 50 = .ok (.iconst 0, 1) := by decide +kernel
theorem dX9_takeFrom_51 : decode cX9_takeFrom 51 = .ok (.iload_n 3, 1) := by decide +kernel
theorem dX9_takeFrom_52 : decode cX9_takeFrom 52 = .ok (.invokestatic 36, 3) := by decide +kernel
theorem dX9_takeFrom_55 : decode cX9_takeFrom 55 = .ok (.aload_n 1, 1) := by decide +kernel
theorem dX9_takeFrom_56 : decode cX9_takeFrom 56 = .ok (.iload_n 2, 1) := by decide +kernel
theorem dX9_takeFrom_57 : decode cX9_takeFrom 57 = .ok (.iconst 3, 1) := by decide +kernel
theorem dX9_takeFrom_58 : decode cX9_takeFrom 58 = .ok (.iload_n 3, 1) := by decide +kernel
theorem dX9_takeFrom_59 : decode cX9_takeFrom 59 = .ok (.imul, 1) := by decide +kernel
theorem dX9_takeFrom_60 : decode cX9_takeFrom 60 = .ok (.iadd, 1) := by decide +kernel
theorem dX9_takeFrom_61 : decode cX9_takeFrom 61 = .ok (.aload_n 0, 1) := by decide +kernel
theorem dX9_takeFrom_62 : decode cX9_takeFrom 62 = .ok (.getfield 23, 3) := by decide +kernel
theorem dX9_takeFrom_65 : decode cX9_takeFrom 65 = .ok (.iconst 0, 1) := by decide +kernel
theorem dX9_takeFrom_66 : decode cX9_takeFrom 66 = .ok (.iload_n 3, 1) := by decide +kernel
theorem dX9_takeFrom_67 : decode cX9_takeFrom 67 = .ok (.invokestatic 36, 3) := by decide +kernel
theorem dX9_takeFrom_70 : decode cX9_takeFrom 70 = .ok (.aload_n 0, 1) := by decide +kernel
theorem dX9_takeFrom_71 : decode cX9_takeFrom 71 = .ok (.aload_n 1, 1) := by decide +kernel
theorem dX9_takeFrom_72 : decode cX9_takeFrom 72 = .ok (.iload_n 2, 1) := by decide +kernel
theorem dX9_takeFrom_73 : decode cX9_takeFrom 73 = .ok (.iconst 4, 1) := by decide +kernel
theorem dX9_takeFrom_74 : decode cX9_takeFrom 74 = .ok (.iload_n 3, 1) := by decide +kernel
theorem dX9_takeFrom_75 : decode cX9_takeFrom 75 = .ok (.imul, 1) := by decide +kernel
theorem dX9_takeFrom_76 : decode cX9_takeFrom 76 = .ok (.iadd, 1) := by decide +kernel
theorem dX9_takeFrom_77 : decode cX9_takeFrom 77 = .ok (.iaload, 1) := by decide +kernel
theorem dX9_takeFrom_78 : decode cX9_takeFrom 78 = .ok (.putfield 26, 3) := by decide +kernel
theorem dX9_takeFrom_81 : decode cX9_takeFrom 81 = .ok (.aload_n 0, 1) := by decide +kernel
theorem dX9_takeFrom_82 : decode cX9_takeFrom 82 = .ok (.aload_n 1, 1) := by decide +kernel
theorem dX9_takeFrom_83 : decode cX9_takeFrom 83 = .ok (.iload_n 2, 1) := by decide +kernel
theorem dX9_takeFrom_84 : decode cX9_takeFrom 84 = .ok (.iconst 4, 1) := by decide +kernel
theorem dX9_takeFrom_85 : decode cX9_takeFrom 85 = .ok (.iload_n 3, 1) := by decide +kernel
theorem dX9_takeFrom_86 : decode cX9_takeFrom 86 = .ok (.imul, 1) := by decide +kernel
theorem dX9_takeFrom_87 : decode cX9_takeFrom 87 = .ok (.iadd, 1) := by decide +kernel
theorem dX9_takeFrom_88 : decode cX9_takeFrom 88 = .ok (.iconst 1, 1) := by decide +kernel
theorem dX9_takeFrom_89 : decode cX9_takeFrom 89 = .ok (.iadd, 1) := by decide +kernel
theorem dX9_takeFrom_90 : decode cX9_takeFrom 90 = .ok (.iaload, 1) := by decide +kernel
theorem dX9_takeFrom_91 : decode cX9_takeFrom 91 = .ok (.putfield 30, 3) := by decide +kernel
theorem dX9_takeFrom_94 : decode cX9_takeFrom 94 = .ok (.return_, 1) := by decide +kernel
theorem dX9_isSaved_0 : decode cX9_isSaved 0 = .ok (.aload_n 0, 1) := by decide +kernel
theorem dX9_isSaved_1 : decode cX9_isSaved 1 = .ok (.getfield 20, 3) := by decide +kernel
theorem dX9_isSaved_4 : decode cX9_isSaved 4 = .ok (.iload_n 2, 1) := by decide +kernel
theorem dX9_isSaved_5 : decode cX9_isSaved 5 = .ok (.iaload, 1) := by decide +kernel
theorem dX9_isSaved_6 : decode cX9_isSaved 6 = .ok (.aload_n 1, 1) := by decide +kernel
theorem dX9_isSaved_7 : decode cX9_isSaved 7 = .ok (.getfield 52, 3) := by decide +kernel
theorem dX9_isSaved_10 : decode cX9_isSaved 10 = .ok (.if_icmp .lt 7, 3) := by decide +kernel
theorem dX9_isSaved_13 : decode cX9_isSaved 13 = .ok (.iconst 1, 1) := by decide +kernel
theorem dX9_isSaved_14 : decode cX9_isSaved 14 = .ok (.goto 4, 3) := by decide +kernel
theorem dX9_isSaved_17 : decode cX9_isSaved 17 = .ok (.iconst 0, 1) := by decide +kernel
theorem dX9_isSaved_18 : decode cX9_isSaved 18 = .ok (.ireturn, 1) := by decide +kernel
theorem dX9_savedBits_0 : decode cX9_savedBits 0 = .ok (.iconst 0, 1) := by decide +kernel
theorem dX9_savedBits_1 : decode cX9_savedBits 1 = .ok (.istore_n 2, 1) := by decide +kernel
theorem dX9_savedBits_2 : decode cX9_savedBits 2 = .ok (.iconst 0, 1) := by decide +kernel
theorem dX9_savedBits_3 : decode cX9_savedBits 3 = .ok (.istore_n 3, 1) := by decide +kernel
theorem dX9_savedBits_4 : decode cX9_savedBits 4 = .ok (.iload_n 3, 1) := by decide +kernel
theorem dX9_savedBits_5 : decode cX9_savedBits 5 = .ok (.aload_n 1, 1) := by decide +kernel
theorem dX9_savedBits_6 : decode cX9_savedBits 6 = .ok (.getfield 55, 3) := by decide +kernel
theorem dX9_savedBits_9 : decode cX9_savedBits 9 = .ok (.if_icmp .ge 24, 3) := by decide +kernel
theorem dX9_savedBits_12 : decode cX9_savedBits 12 = .ok (.aload_n 0, 1) := by decide +kernel
theorem dX9_savedBits_13 : decode cX9_savedBits 13 = .ok (.aload_n 1, 1) := by decide +kernel
theorem dX9_savedBits_14 : decode cX9_savedBits 14 = .ok (.iload_n 3, 1) := by decide +kernel
theorem dX9_savedBits_15 : decode cX9_savedBits 15 = .ok (.invokevirtual 58, 3) := by decide +kernel
theorem dX9_savedBits_18 : decode cX9_savedBits 18 = .ok (.ifCond .eq 9, 3) := by decide +kernel
theorem dX9_savedBits_21 : decode cX9_savedBits 21 = .ok (.iload_n 2, 1) := by decide +kernel
theorem dX9_savedBits_22 : decode cX9_savedBits 22 = .ok (.iconst 1, 1) := by decide +kernel
theorem dX9_savedBits_23 : decode cX9_savedBits 23 = .ok (.iload_n 3, 1) := by decide +kernel
theorem dX9_savedBits_24 : decode cX9_savedBits 24 = .ok (.ishl, 1) := by decide +kernel
theorem dX9_savedBits_25 : decode cX9_savedBits 25 = .ok (.ior, 1) := by decide +kernel
theorem dX9_savedBits_26 : decode cX9_savedBits 26 = .ok (.istore_n 2, 1) := by decide +kernel
theorem dX9_savedBits_27 : decode cX9_savedBits 27 = .ok (.iinc 3 1, 3) := by decide +kernel
theorem dX9_savedBits_30 : decode cX9_savedBits 30 = .ok (.goto (-26), 3) := by decide +kernel
theorem dX9_savedBits_33 : decode cX9_savedBits 33 = .ok (.iload_n 2, 1) := by decide +kernel
theorem dX9_savedBits_34 : decode cX9_savedBits 34 = .ok (.ireturn, 1) := by decide +kernel
theorem dX9_setAt_0 : decode cX9_setAt 0 = .ok (.iconst 0, 1) := by decide +kernel
theorem dX9_setAt_1 : decode cX9_setAt 1 = .ok (.istore_n 2, 1) := by decide +kernel
theorem dX9_setAt_2 : decode cX9_setAt 2 = .ok (.iconst 0, 1) := by decide +kernel
theorem dX9_setAt_3 : decode cX9_setAt 3 = .ok (.istore_n 3, 1) := by decide +kernel
theorem dX9_setAt_4 : decode cX9_setAt 4 = .ok (.iload_n 3, 1) := by decide +kernel
theorem dX9_setAt_5 : decode cX9_setAt 5 = .ok (.iconst 5, 1) := by decide +kernel
theorem dX9_setAt_6 : decode cX9_setAt 6 = .ok (.if_icmp .ge 25, 3) := by decide +kernel
theorem dX9_setAt_9 : decode cX9_setAt 9 = .ok (.aload_n 0, 1) := by decide +kernel
theorem dX9_setAt_10 : decode cX9_setAt 10 = .ok (.getfield 23, 3) := by decide +kernel
theorem dX9_setAt_13 : decode cX9_setAt 13 = .ok (.iload_n 3, 1) := by decide +kernel
theorem dX9_setAt_14 : decode cX9_setAt 14 = .ok (.iaload, 1) := by decide +kernel
theorem dX9_setAt_15 : decode cX9_setAt 15 = .ok (.iload_n 1, 1) := by decide +kernel
theorem dX9_setAt_16 : decode cX9_setAt 16 = .ok (.if_icmp .ne 9, 3) := by decide +kernel
theorem dX9_setAt_19 : decode cX9_setAt 19 = .ok (.iload_n 2, 1) := by decide +kernel
theorem dX9_setAt_20 : decode cX9_setAt 20 = .ok (.iconst 1, 1) := by decide +kernel
theorem dX9_setAt_21 : decode cX9_setAt 21 = .ok (.iload_n 3, 1) := by decide +kernel
theorem dX9_setAt_22 : decode cX9_setAt 22 = .ok (.ishl, 1) := by decide +kernel
theorem dX9_setAt_23 : decode cX9_setAt 23 = .ok (.ior, 1) := by decide +kernel
theorem dX9_setAt_24 : decode cX9_setAt 24 = .ok (.istore_n 2, 1) := by decide +kernel
theorem dX9_setAt_25 : decode cX9_setAt 25 = .ok (.iinc 3 1, 3) := by decide +kernel
theorem dX9_setAt_28 : decode cX9_setAt 28 = .ok (.goto (-24), 3) := by decide +kernel
theorem dX9_setAt_31 : decode cX9_setAt 31 = .ok (.iload_n 2, 1) := by decide +kernel
theorem dX9_setAt_32 : decode cX9_setAt 32 = .ok (.ireturn, 1) := by decide +kernel
theorem dX9_counting_0 : decode cX9_counting 0 = .ok (.iconst 0, 1) := by decide +kernel
theorem dX9_counting_1 : decode cX9_counting 1 = .ok (.istore_n 3, 1) := by decide +kernel
theorem dX9_counting_2 : decode cX9_counting 2 = .ok (.iconst 0, 1) := by decide +kernel
theorem dX9_counting_3 : decode cX9_counting 3 = .ok (.istore 4, 2) := by decide +kernel
theorem dX9_counting_5 : decode cX9_counting 5 = .ok (.iload 4, 2) := by decide +kernel
theorem dX9_counting_7 : decode cX9_counting 7 = .ok (.aload_n 1, 1) := by decide +kernel
theorem dX9_counting_8 : decode cX9_counting 8 = .ok (.getfield 62, 3) := by decide +kernel
theorem dX9_counting_11 : decode cX9_counting 11 = .ok (.if_icmp .ge 44, 3) := by decide +kernel
theorem dX9_counting_14 : decode cX9_counting 14 = .ok (.aload_n 0, 1) := by decide +kernel
theorem dX9_counting_15 : decode cX9_counting 15 = .ok (.iload 4, 2) := by decide +kernel
theorem dX9_counting_17 : decode cX9_counting 17 = .ok (.invokevirtual 65, 3) := by decide +kernel
theorem dX9_counting_20 : decode cX9_counting 20 = .ok (.istore 5, 2) := by decide +kernel
theorem dX9_counting_22 : decode cX9_counting 22 = .ok (.aload_n 1, 1) := by decide +kernel
theorem dX9_counting_23 : decode cX9_counting 23 = .ok (.iload 5, 2) := by decide +kernel
theorem dX9_counting_25 : decode cX9_counting 25 = .ok (.invokevirtual 69, 3) := by decide +kernel
theorem dX9_counting_28 : decode cX9_counting 28 = .ok (.ifCond .ne 21, 3) := by decide +kernel
theorem dX9_counting_31 : decode cX9_counting 31 = .ok (.iload_n 3, 1) := by decide +kernel
theorem dX9_counting_32 : decode cX9_counting 32 = .ok (.aload_n 1, 1) := by decide +kernel
theorem dX9_counting_33 : decode cX9_counting 33 = .ok (.aload_n 0, 1) := by decide +kernel
theorem dX9_counting_34 : decode cX9_counting 34 = .ok (.iload 4, 2) := by decide +kernel
theorem dX9_counting_36 : decode cX9_counting 36 = .ok (.iload 5, 2) := by decide +kernel
theorem dX9_counting_38 : decode cX9_counting 38 = .ok (.iload 5, 2) := by decide +kernel
theorem dX9_counting_40 : decode cX9_counting 40 = .ok (.invokestatic 73, 3) := by decide +kernel
theorem dX9_counting_43 : decode cX9_counting 43 = .ok (.iload_n 2, 1) := by decide +kernel
theorem dX9_counting_44 : decode cX9_counting 44 = .ok (.invokevirtual 78, 3) := by decide +kernel
theorem dX9_counting_47 : decode cX9_counting 47 = .ok (.ior, 1) := by decide +kernel
theorem dX9_counting_48 : decode cX9_counting 48 = .ok (.istore_n 3, 1) := by decide +kernel
theorem dX9_counting_49 : decode cX9_counting 49 = .ok (.iinc 4 1, 3) := by decide +kernel
theorem dX9_counting_52 : decode cX9_counting 52 = .ok (.goto (-47), 3) := by decide +kernel
theorem dX9_counting_55 : decode cX9_counting 55 = .ok (.iload_n 3, 1) := by decide +kernel
theorem dX9_counting_56 : decode cX9_counting 56 = .ok (.ireturn, 1) := by decide +kernel
theorem dX9_quarrelling_0 : decode cX9_quarrelling 0 = .ok (.iconst 0, 1) := by decide +kernel
theorem dX9_quarrelling_1 : decode cX9_quarrelling 1 = .ok (.istore_n 2, 1) := by decide +kernel
theorem dX9_quarrelling_2 : decode cX9_quarrelling 2 = .ok (.iconst 0, 1) := by decide +kernel
theorem dX9_quarrelling_3 : decode cX9_quarrelling 3 = .ok (.istore_n 3, 1) := by decide +kernel
theorem dX9_quarrelling_4 : decode cX9_quarrelling 4 = .ok (.iload_n 3, 1) := by decide +kernel
theorem dX9_quarrelling_5 : decode cX9_quarrelling 5 = .ok (.aload_n 1, 1) := by decide +kernel
theorem dX9_quarrelling_6 : decode cX9_quarrelling 6 = .ok (.getfield 62, 3) := by decide +kernel
theorem dX9_quarrelling_9 : decode cX9_quarrelling 9 = .ok (.if_icmp .ge 30, 3) := by decide +kernel
theorem dX9_quarrelling_12 : decode cX9_quarrelling 12 = .ok (.aload_n 0, 1) := by decide +kernel
theorem dX9_quarrelling_13 : decode cX9_quarrelling 13 = .ok (.iload_n 3, 1) := by decide +kernel
theorem dX9_quarrelling_14 : decode cX9_quarrelling 14 = .ok (.invokevirtual 65, 3) := by decide +kernel
theorem dX9_quarrelling_17 : decode cX9_quarrelling 17 = .ok (.istore 4, 2) := by decide +kernel
theorem dX9_quarrelling_19 : decode cX9_quarrelling 19 = .ok (.aload_n 1, 1) := by decide +kernel
theorem dX9_quarrelling_20 : decode cX9_quarrelling 20 = .ok (.iload 4, 2) := by decide +kernel
theorem dX9_quarrelling_22 : decode cX9_quarrelling 22 = .ok (.invokevirtual 69, 3) := by decide +kernel
theorem dX9_quarrelling_25 : decode cX9_quarrelling 25 = .ok (.ifCond .eq 8, 3) := by decide +kernel
theorem dX9_quarrelling_28 : decode cX9_quarrelling 28 = .ok (.iload_n 2, 1) := by decide +kernel
theorem dX9_quarrelling_29 : decode cX9_quarrelling 29 = .ok (.iload 4, 2) := by decide +kernel
theorem dX9_quarrelling_31 : decode cX9_quarrelling 31 = .ok (.ior, 1) := by decide +kernel
theorem dX9_quarrelling_32 : decode cX9_quarrelling 32 = .ok (.istore_n 2, 1) := by decide +kernel
theorem dX9_quarrelling_33 : decode cX9_quarrelling 33 = .ok (.iinc 3 1, 3) := by decide +kernel
theorem dX9_quarrelling_36 : decode cX9_quarrelling 36 = .ok (.goto (-32), 3) := by decide +kernel
theorem dX9_quarrelling_39 : decode cX9_quarrelling 39 = .ok (.iload_n 2, 1) := by decide +kernel
theorem dX9_quarrelling_40 : decode cX9_quarrelling 40 = .ok (.ireturn, 1) := by decide +kernel
theorem dX9_breaking_0 : decode cX9_breaking 0 = .ok (.aload_n 0, 1) := by decide +kernel
theorem dX9_breaking_1 : decode cX9_breaking 1 = .ok (.iconst (-1), 1) := by decide +kernel
theorem dX9_breaking_2 : decode cX9_breaking 2 = .ok (.invokevirtual 65, 3) := by decide +kernel
theorem dX9_breaking_5 : decode cX9_breaking 5 = .ok (.istore_n 2, 1) := by decide +kernel
theorem dX9_breaking_6 : decode cX9_breaking 6 = .ok (.aload_n 1, 1) := by decide +kernel
theorem dX9_breaking_7 : decode cX9_breaking 7 = .ok (.invokevirtual 82, 3) := by decide +kernel
theorem dX9_breaking_10 : decode cX9_breaking 10 = .ok (.iload_n 2, 1) := by decide +kernel
theorem dX9_breaking_11 : decode cX9_breaking 11 = .ok (.iconst (-1), 1) := by decide +kernel
theorem dX9_breaking_12 : decode cX9_breaking 12 = .ok (.ixor, 1) := by decide +kernel
theorem dX9_breaking_13 : decode cX9_breaking 13 = .ok (.iand, 1) := by decide +kernel
theorem dX9_breaking_14 : decode cX9_breaking 14 = .ok (.aload_n 0, 1) := by decide +kernel
theorem dX9_breaking_15 : decode cX9_breaking 15 = .ok (.aload_n 1, 1) := by decide +kernel
theorem dX9_breaking_16 : decode cX9_breaking 16 = .ok (.invokevirtual 86, 3) := by decide +kernel
theorem dX9_breaking_19 : decode cX9_breaking 19 = .ok (.iconst (-1), 1) := by decide +kernel
theorem dX9_breaking_20 : decode cX9_breaking 20 = .ok (.ixor, 1) := by decide +kernel
theorem dX9_breaking_21 : decode cX9_breaking 21 = .ok (.iand, 1) := by decide +kernel
theorem dX9_breaking_22 : decode cX9_breaking 22 = .ok (.aload_n 0, 1) := by decide +kernel
theorem dX9_breaking_23 : decode cX9_breaking 23 = .ok (.aload_n 1, 1) := by decide +kernel
theorem dX9_breaking_24 : decode cX9_breaking 24 = .ok (.iconst 0, 1) := by decide +kernel
theorem dX9_breaking_25 : decode cX9_breaking 25 = .ok (.invokevirtual 90, 3) := by decide +kernel
theorem dX9_breaking_28 : decode cX9_breaking 28 = .ok (.iconst (-1), 1) := by decide +kernel
theorem dX9_breaking_29 : decode cX9_breaking 29 = .ok (.ixor, 1) := by decide +kernel
theorem dX9_breaking_30 : decode cX9_breaking 30 = .ok (.iand, 1) := by decide +kernel
theorem dX9_breaking_31 : decode cX9_breaking 31 = .ok (.ireturn, 1) := by decide +kernel
theorem dX9_drawCold_0 : decode cX9_drawCold 0 = .ok (.iconst 0, 1) := by decide +kernel
theorem dX9_drawCold_1 : decode cX9_drawCold 1 = .ok (.istore_n 2, 1) := by decide +kernel
theorem dX9_drawCold_2 : decode cX9_drawCold 2 = .ok (.iconst 0, 1) := by decide +kernel
theorem dX9_drawCold_3 : decode cX9_drawCold 3 = .ok (.istore_n 3, 1) := by decide +kernel
theorem dX9_drawCold_4 : decode cX9_drawCold 4 = .ok (.iload_n 3, 1) := by decide +kernel
theorem dX9_drawCold_5 : decode cX9_drawCold 5 = .ok (.aload_n 1, 1) := by decide +kernel
theorem dX9_drawCold_6 : decode cX9_drawCold 6 = .ok (.getfield 62, 3) := by decide +kernel
theorem dX9_drawCold_9 : decode cX9_drawCold 9 = .ok (.if_icmp .ge 48, 3) := by decide +kernel
theorem dX9_drawCold_12 : decode cX9_drawCold 12 = .ok (.aload_n 0, 1) := by decide +kernel
theorem dX9_drawCold_13 : decode cX9_drawCold 13 = .ok (.aload_n 0, 1) := by decide +kernel
theorem dX9_drawCold_14 : decode cX9_drawCold 14 = .ok (.getfield 30, 3) := by decide +kernel
theorem dX9_drawCold_17 : decode cX9_drawCold 17 = .ok (.sipush 137, 3) := by decide +kernel
theorem dX9_drawCold_20 : decode cX9_drawCold 20 = .ok (.imul, 1) := by decide +kernel
theorem dX9_drawCold_21 : decode cX9_drawCold 21 = .ok (.bipush 71, 2) := by decide +kernel
theorem dX9_drawCold_23 : decode cX9_drawCold 23 = .ok (.iadd, 1) := by decide +kernel
theorem dX9_drawCold_24 : decode cX9_drawCold 24 = .ok (.sipush 1000, 3) := by decide +kernel
theorem dX9_drawCold_27 : decode cX9_drawCold 27 = .ok (.irem, 1) := by decide +kernel
theorem dX9_drawCold_28 : decode cX9_drawCold 28 = .ok (.putfield 30, 3) := by decide +kernel
theorem dX9_drawCold_31 : decode cX9_drawCold 31 = .ok (.aload_n 0, 1) := by decide +kernel
theorem dX9_drawCold_32 : decode cX9_drawCold 32 = .ok (.getfield 30, 3) := by decide +kernel
theorem dX9_drawCold_35 : decode cX9_drawCold 35 = .ok (.bipush 100, 2) := by decide +kernel
theorem dX9_drawCold_37 : decode cX9_drawCold 37 = .ok (.irem, 1) := by decide +kernel
theorem dX9_drawCold_38 : decode cX9_drawCold 38 = .ok (.aload_n 1, 1) := by decide +kernel
theorem dX9_drawCold_39 : decode cX9_drawCold 39 = .ok (.getfield 94, 3) := by decide +kernel
theorem dX9_drawCold_42 : decode cX9_drawCold 42 = .ok (.if_icmp .ge 9, 3) := by decide +kernel
theorem dX9_drawCold_45 : decode cX9_drawCold 45 = .ok (.iload_n 2, 1) := by decide +kernel
theorem dX9_drawCold_46 : decode cX9_drawCold 46 = .ok (.iconst 1, 1) := by decide +kernel
theorem dX9_drawCold_47 : decode cX9_drawCold 47 = .ok (.iload_n 3, 1) := by decide +kernel
theorem dX9_drawCold_48 : decode cX9_drawCold 48 = .ok (.ishl, 1) := by decide +kernel
theorem dX9_drawCold_49 : decode cX9_drawCold 49 = .ok (.ior, 1) := by decide +kernel
theorem dX9_drawCold_50 : decode cX9_drawCold 50 = .ok (.istore_n 2, 1) := by decide +kernel
theorem dX9_drawCold_51 : decode cX9_drawCold 51 = .ok (.iinc 3 1, 3) := by decide +kernel
theorem dX9_drawCold_54 : decode cX9_drawCold 54 = .ok (.goto (-50), 3) := by decide +kernel
theorem dX9_drawCold_57 : decode cX9_drawCold 57 = .ok (.iload_n 2, 1) := by decide +kernel
theorem dX9_drawCold_58 : decode cX9_drawCold 58 = .ok (.ireturn, 1) := by decide +kernel
theorem dX9_passEvening_0 : decode cX9_passEvening 0 = .ok (.iconst 0, 1) := by decide +kernel
theorem dX9_passEvening_1 : decode cX9_passEvening 1 = .ok (.istore_n 3, 1) := by decide +kernel
theorem dX9_passEvening_2 : decode cX9_passEvening 2 = .ok (.iload_n 3, 1) := by decide +kernel
theorem dX9_passEvening_3 : decode cX9_passEvening 3 = .ok (.aload_n 1, 1) := by decide +kernel
theorem dX9_passEvening_4 : decode cX9_passEvening 4 = .ok (.getfield 55, 3) := by decide +kernel
theorem dX9_passEvening_7 : decode cX9_passEvening 7 = .ok (.if_icmp .ge 71, 3) := by decide +kernel
theorem dX9_passEvening_10 : decode cX9_passEvening 10 = .ok (.aload_n 0, 1) := by decide +kernel
theorem dX9_passEvening_11 : decode cX9_passEvening 11 = .ok (.getfield 23, 3) := by decide +kernel
theorem dX9_passEvening_14 : decode cX9_passEvening 14 = .ok (.iload_n 3, 1) := by decide +kernel
theorem dX9_passEvening_15 : decode cX9_passEvening 15 = .ok (.iaload, 1) := by decide +kernel
theorem dX9_passEvening_16 : decode cX9_passEvening 16 = .ok (.istore 4, 2) := by decide +kernel
theorem dX9_passEvening_18 : decode cX9_passEvening 18 = .ok (.aload_n 0, 1) := by decide +kernel
theorem dX9_passEvening_19 : decode cX9_passEvening 19 = .ok (.iload 4, 2) := by decide +kernel
theorem dX9_passEvening_21 : decode cX9_passEvening 21 = .ok (.invokevirtual 65, 3) := by decide +kernel
theorem dX9_passEvening_24 : decode cX9_passEvening 24 = .ok (.istore 5, 2) := by decide +kernel
theorem dX9_passEvening_26 : decode cX9_passEvening 26 = .ok (.iload 4, 2) := by decide +kernel
theorem dX9_passEvening_28 : decode cX9_passEvening 28 = .ok (.ifCond .ge 12, 3) := by decide +kernel
theorem dX9_passEvening_31 : decode cX9_passEvening 31 = .ok (.aload_n 0, 1) := by decide +kernel
theorem dX9_passEvening_32 : decode cX9_passEvening 32 = .ok (.aload_n 1, 1) := by decide +kernel
theorem dX9_passEvening_33 : decode cX9_passEvening 33 = .ok (.iload_n 3, 1) := by decide +kernel
theorem dX9_passEvening_34 : decode cX9_passEvening 34 = .ok (.invokevirtual 97, 3) := by decide +kernel
theorem dX9_passEvening_37 : decode cX9_passEvening 37 = .ok (.goto 35, 3) := by decide +kernel
theorem dX9_passEvening_40 : decode cX9_passEvening 40 = .ok (.iload_n 2, 1) := by decide +kernel
theorem dX9_passEvening_41 : decode cX9_passEvening 41 = .ok (.iload 4, 2) := by decide +kernel
theorem dX9_passEvening_43 : decode cX9_passEvening 43 = .ok (.ishr, 1) := by decide +kernel
theorem dX9_passEvening_44 : decode cX9_passEvening 44 = .ok (.iconst 1, 1) := by decide +kernel
theorem dX9_passEvening_45 : decode cX9_passEvening 45 = .ok (.iand, 1) := by decide +kernel
theorem dX9_passEvening_46 : decode cX9_passEvening 46 = .ok (.ifCond .ne 26, 3) := by decide +kernel
theorem dX9_passEvening_49 : decode cX9_passEvening 49 = .ok (.aload_n 1, 1) := by decide +kernel
theorem dX9_passEvening_50 : decode cX9_passEvening 50 = .ok (.iload 5, 2) := by decide +kernel
theorem dX9_passEvening_52 : decode cX9_passEvening 52 = .ok (.invokevirtual 69, 3) := by decide +kernel
theorem dX9_passEvening_55 : decode cX9_passEvening 55 = .ok (.ifCond .ne 17, 3) := by decide +kernel
theorem dX9_passEvening_58 : decode cX9_passEvening 58 = .ok (.aload_n 0, 1) := by decide +kernel
theorem dX9_passEvening_59 : decode cX9_passEvening 59 = .ok (.aload_n 1, 1) := by decide +kernel
theorem dX9_passEvening_60 : decode cX9_passEvening 60 = .ok (.iload_n 3, 1) := by decide +kernel
theorem dX9_passEvening_61 : decode cX9_passEvening 61 = .ok (.iload 4, 2) := by decide +kernel
theorem dX9_passEvening_63 : decode cX9_passEvening 63 = .ok (.iload 5, 2) := by decide +kernel
theorem dX9_passEvening_65 : decode cX9_passEvening 65 = .ok (.invokestatic 73, 3) := by decide +kernel
theorem dX9_passEvening_68 : decode cX9_passEvening 68 = .ok (.invokevirtual 101, 3) := by decide +kernel
theorem dX9_passEvening_71 : decode cX9_passEvening 71 = .ok (.pop, 1) := by decide +kernel
theorem dX9_passEvening_72 : decode cX9_passEvening 72 = .ok (.iinc 3 1, 3) := by decide +kernel
theorem dX9_passEvening_75 : decode cX9_passEvening 75 = .ok (.goto (-73), 3) := by decide +kernel
theorem dX9_passEvening_78 : decode cX9_passEvening 78 = .ok (.aload_n 0, 1) := by decide +kernel
theorem dX9_passEvening_79 : decode cX9_passEvening 79 = .ok (.dup, 1) := by decide +kernel
theorem dX9_passEvening_80 : decode cX9_passEvening 80 = .ok (.getfield 26, 3) := by decide +kernel
theorem dX9_passEvening_83 : decode cX9_passEvening 83 = .ok (.iconst 1, 1) := by decide +kernel
theorem dX9_passEvening_84 : decode cX9_passEvening 84 = .ok (.iadd, 1) := by decide +kernel
theorem dX9_passEvening_85 : decode cX9_passEvening 85 = .ok (.putfield 26, 3) := by decide +kernel
theorem dX9_passEvening_88 : decode cX9_passEvening 88 = .ok (.return_, 1) := by decide +kernel
theorem dX9_rest_0 : decode cX9_rest 0 = .ok (.aload_n 0, 1) := by decide +kernel
theorem dX9_rest_1 : decode cX9_rest 1 = .ok (.getfield 11, 3) := by decide +kernel
theorem dX9_rest_4 : decode cX9_rest 4 = .ok (.iload_n 2, 1) := by decide +kernel
theorem dX9_rest_5 : decode cX9_rest 5 = .ok (.aload_n 1, 1) := by decide +kernel
theorem dX9_rest_6 : decode cX9_rest 6 = .ok (.getfield 33, 3) := by decide +kernel
theorem dX9_rest_9 : decode cX9_rest 9 = .ok (.iload_n 2, 1) := by decide +kernel
theorem dX9_rest_10 : decode cX9_rest 10 = .ok (.iaload, 1) := by decide +kernel
theorem dX9_rest_11 : decode cX9_rest 11 = .ok (.aload_n 0, 1) := by decide +kernel
theorem dX9_rest_12 : decode cX9_rest 12 = .ok (.getfield 11, 3) := by decide +kernel
theorem dX9_rest_15 : decode cX9_rest 15 = .ok (.iload_n 2, 1) := by decide +kernel
theorem dX9_rest_16 : decode cX9_rest 16 = .ok (.iaload, 1) := by decide +kernel
theorem dX9_rest_17 : decode cX9_rest 17 = .ok (.iconst 2, 1) := by decide +kernel
theorem dX9_rest_18 : decode cX9_rest 18 = .ok (.iadd, 1) := by decide +kernel
theorem dX9_rest_19 : decode cX9_rest 19 = .ok (.invokestatic 105, 3) := by decide +kernel
theorem dX9_rest_22 : decode cX9_rest 22 = .ok (.iastore, 1) := by decide +kernel
theorem dX9_rest_23 : decode cX9_rest 23 = .ok (.return_, 1) := by decide +kernel
theorem dX9_kneel_0 : decode cX9_kneel 0 = .ok (.aload_n 1, 1) := by decide +kernel
theorem dX9_kneel_1 : decode cX9_kneel 1 = .ok (.aload_n 0, 1) := by decide +kernel
theorem dX9_kneel_2 : decode cX9_kneel 2 = .ok (.iload_n 2, 1) := by decide +kernel
theorem dX9_kneel_3 : decode cX9_kneel 3 = .ok (.iload_n 3, 1) := by decide +kernel
theorem dX9_kneel_4 : decode cX9_kneel 4 = .ok (.iload 4, 2) := by decide +kernel
theorem dX9_kneel_6 : decode cX9_kneel 6 = .ok (.iconst 0, 1) := by decide +kernel
theorem dX9_kneel_7 : decode cX9_kneel 7 = .ok (.invokevirtual 111, 3) := by decide +kernel
theorem dX9_kneel_10 : decode cX9_kneel 10 = .ok (.istore 5, 2) := by decide +kernel
theorem dX9_kneel_12 : decode cX9_kneel 12 = .ok (.iload 5, 2) := by decide +kernel
theorem dX9_kneel_14 : decode cX9_kneel 14 = .ok (.aload_n 0, 1) := by decide +kernel
theorem dX9_kneel_15 : decode cX9_kneel 15 = .ok (.getfield 11, 3) := by decide +kernel
theorem dX9_kneel_18 : decode cX9_kneel 18 = .ok (.iload_n 2, 1) := by decide +kernel
theorem dX9_kneel_19 : decode cX9_kneel 19 = .ok (.iaload, 1) := by decide +kernel
theorem dX9_kneel_20 : decode cX9_kneel 20 = .ok (.if_icmp .le 15, 3) := by decide +kernel
theorem dX9_kneel_23 : decode cX9_kneel 23 = .ok (.aload_n 0, 1) := by decide +kernel
theorem dX9_kneel_24 : decode cX9_kneel 24 = .ok (.getfield 11, 3) := by decide +kernel
theorem dX9_kneel_27 : decode cX9_kneel 27 = .ok (.iload_n 2, 1) := by decide +kernel
theorem dX9_kneel_28 : decode cX9_kneel 28 = .ok (.dup2, 1) := by decide +kernel
theorem dX9_kneel_29 : decode cX9_kneel 29 = .ok (.iaload, 1) := by decide +kernel
theorem dX9_kneel_30 : decode cX9_kneel 30 = .ok (.iconst 2, 1) := by decide +kernel
theorem dX9_kneel_31 : decode cX9_kneel 31 = .ok (.idiv, 1) := by decide +kernel
theorem dX9_kneel_32 : decode cX9_kneel 32 = .ok (.iastore, 1) := by decide +kernel
theorem dX9_kneel_33 : decode cX9_kneel 33 = .ok (.iconst 0, 1) := by decide +kernel
theorem dX9_kneel_34 : decode cX9_kneel 34 = .ok (.ireturn, 1) := by decide +kernel
theorem dX9_kneel_35 : decode cX9_kneel 35 = .ok (.aload_n 1, 1) := by decide +kernel
theorem dX9_kneel_36 : decode cX9_kneel 36 = .ok (.aload_n 0, 1) := by decide +kernel
theorem dX9_kneel_37 : decode cX9_kneel 37 = .ok (.iload_n 2, 1) := by decide +kernel
theorem dX9_kneel_38 : decode cX9_kneel 38 = .ok (.iload_n 3, 1) := by decide +kernel
theorem dX9_kneel_39 : decode cX9_kneel 39 = .ok (.iload 4, 2) := by decide +kernel
theorem dX9_kneel_41 : decode cX9_kneel 41 = .ok (.invokevirtual 114, 3) := by decide +kernel
theorem dX9_kneel_44 : decode cX9_kneel 44 = .ok (.istore 6, 2) := by decide +kernel
theorem dX9_kneel_46 : decode cX9_kneel 46 = .ok (.aload_n 0, 1) := by decide +kernel
theorem dX9_kneel_47 : decode cX9_kneel 47 = .ok (.getfield 20, 3) := by decide +kernel
theorem dX9_kneel_50 : decode cX9_kneel 50 = .ok (.iload_n 2, 1) := by decide +kernel
theorem dX9_kneel_51 : decode cX9_kneel 51 = .ok (.bipush 99, 2) := by decide +kernel
theorem dX9_kneel_53 : decode cX9_kneel 53 = .ok (.aload_n 0, 1) := by decide +kernel
theorem dX9_kneel_54 : decode cX9_kneel 54 = .ok (.getfield 20, 3) := by decide +kernel
theorem dX9_kneel_57 : decode cX9_kneel 57 = .ok (.iload_n 2, 1) := by decide +kernel
theorem dX9_kneel_58 : decode cX9_kneel 58 = .ok (.iaload, 1) := by decide +kernel
theorem dX9_kneel_59 : decode cX9_kneel 59 = .ok (.iconst 1, 1) := by decide +kernel
theorem dX9_kneel_60 : decode cX9_kneel 60 = .ok (.iadd, 1) := by decide +kernel
theorem dX9_kneel_61 : decode cX9_kneel 61 = .ok (.invokestatic 105, 3) := by decide +kernel
theorem dX9_kneel_64 : decode cX9_kneel 64 = .ok (.iastore, 1) := by decide +kernel
theorem dX9_kneel_65 : decode cX9_kneel 65 = .ok (.aload_n 0, 1) := by decide +kernel
theorem dX9_kneel_66 : decode cX9_kneel 66 = .ok (.getfield 17, 3) := by decide +kernel
theorem dX9_kneel_69 : decode cX9_kneel 69 = .ok (.iload_n 2, 1) := by decide +kernel
theorem dX9_kneel_70 : decode cX9_kneel 70 = .ok (.bipush 99, 2) := by decide +kernel
theorem dX9_kneel_72 : decode cX9_kneel 72 = .ok (.aload_n 0, 1) := by decide +kernel
theorem dX9_kneel_73 : decode cX9_kneel 73 = .ok (.getfield 17, 3) := by decide +kernel
theorem dX9_kneel_76 : decode cX9_kneel 76 = .ok (.iload_n 2, 1) := by decide +kernel
theorem dX9_kneel_77 : decode cX9_kneel 77 = .ok (.iaload, 1) := by decide +kernel
theorem dX9_kneel_78 : decode cX9_kneel 78 = .ok (.iload 5, 2) := by decide +kernel
theorem dX9_kneel_80 : decode cX9_kneel 80 = .ok (.iconst 5, 1) := by decide +kernel
theorem dX9_kneel_81 : decode cX9_kneel 81 = .ok (.idiv, 1) := by decide +kernel
theorem dX9_kneel_82 : decode cX9_kneel 82 = .ok (.iadd, 1) := by decide +kernel
theorem dX9_kneel_83 : decode cX9_kneel 83 = .ok (.invokestatic 105, 3) := by decide +kernel
theorem dX9_kneel_86 : decode cX9_kneel 86 = .ok (.iastore, 1) := by decide +kernel
theorem dX9_kneel_87 : decode cX9_kneel 87 = .ok (.aload_n 0, 1) := by decide +kernel
theorem dX9_kneel_88 : decode cX9_kneel 88 = .ok (.getfield 11, 3) := by decide +kernel
theorem dX9_kneel_91 : decode cX9_kneel 91 = .ok (.iload_n 2, 1) := by decide +kernel
theorem dX9_kneel_92 : decode cX9_kneel 92 = .ok (.dup2, 1) := by decide +kernel
theorem dX9_kneel_93 : decode cX9_kneel 93 = .ok (.iaload, 1) := by decide +kernel
theorem dX9_kneel_94 : decode cX9_kneel 94 = .ok (.iload 6, 2) := by decide +kernel
theorem dX9_kneel_96 : decode cX9_kneel 96 = .ok (.isub, 1) := by decide +kernel
theorem dX9_kneel_97 : decode cX9_kneel 97 = .ok (.iastore, 1) := by decide +kernel
theorem dX9_kneel_98 : decode cX9_kneel 98 = .ok (.iconst 1, 1) := by decide +kernel
theorem dX9_kneel_99 : decode cX9_kneel 99 = .ok (.ireturn, 1) := by decide +kernel
theorem dX10_init_0 : decode cX10_init 0 = .ok (.aload_n 0, 1) := by decide +kernel
theorem dX10_init_1 : decode cX10_init 1 = .ok (.invokespecial 1, 3) := by decide +kernel
theorem dX10_init_4 : decode cX10_init 4 = .ok (.aload_n 0, 1) := by decide +kernel
theorem dX10_init_5 : decode cX10_init 5 = .ok (.sipush 1600, 3) := by decide +kernel
theorem dX10_init_8 : decode cX10_init 8 = .ok (.newarray .byte, 2) := by decide +kernel
theorem dX10_init_10 : decode cX10_init 10 = .ok (.putfield 9, 3) := by decide +kernel
theorem dX10_init_13 : decode cX10_init 13 = .ok (.aload_n 0, 1) := by decide +kernel
theorem dX10_init_14 : decode cX10_init 14 = .ok (.iconst 0, 1) := by decide +kernel
theorem dX10_init_15 : decode cX10_init 15 = .ok (.putfield 13, 3) := by decide +kernel
theorem dX10_init_18 : decode cX10_init 18 = .ok (.return_, 1) := by decide +kernel
theorem dX10_hasRoomFor_0 : decode cX10_hasRoomFor 0 = .ok (.aload_n 0, 1) := by decide +kernel
theorem dX10_hasRoomFor_1 : decode cX10_hasRoomFor 1 = .ok (.getfield 13, 3) := by decide +kernel
theorem dX10_hasRoomFor_4 : decode cX10_hasRoomFor 4 = .ok (.iload_n 1, 1) := by decide +kernel
theorem dX10_hasRoomFor_5 : decode cX10_hasRoomFor 5 = .ok (.iadd, 1) := by decide +kernel
theorem dX10_hasRoomFor_6 : decode cX10_hasRoomFor 6 = .ok (.sipush 1600, 3) := by decide +kernel
theorem dX10_hasRoomFor_9 : decode cX10_hasRoomFor 9 = .ok (.if_icmp .gt 7, 3) := by decide +kernel
theorem dX10_hasRoomFor_12 : decode cX10_hasRoomFor 12 = .ok (.iconst 1, 1) := by decide +kernel
theorem dX10_hasRoomFor_13 : decode cX10_hasRoomFor 13 = .ok (.goto 4, 3) := by decide +kernel
theorem dX10_hasRoomFor_16 : decode cX10_hasRoomFor 16 = .ok (.iconst 0, 1) := by decide +kernel
theorem dX10_hasRoomFor_17 : decode cX10_hasRoomFor 17 = .ok (.ireturn, 1) := by decide +kernel
theorem dX10_put_0 : decode cX10_put 0 = .ok (.bipush 24, 2) := by decide +kernel
theorem dX10_put_2 : decode cX10_put 2 = .ok (.istore_n 2, 1) := by decide +kernel
theorem dX10_put_3 : decode cX10_put 3 = .ok (.iload_n 2, 1) := by decide +kernel
theorem dX10_put_4 : decode cX10_put 4 = .ok (.ifCond .lt 49, 3) := by decide +kernel
theorem dX10_put_7 : decode cX10_put 7 = .ok (.aload_n 0, 1) := by decide +kernel
theorem dX10_put_8 : decode cX10_put 8 = .ok (.getfield 13, 3) := by decide +kernel
theorem dX10_put_11 : decode cX10_put 11 = .ok (.ifCond .lt 36, 3) := by decide +kernel
theorem dX10_put_14 : decode cX10_put 14 = .ok (.aload_n 0, 1) := by decide +kernel
theorem dX10_put_15 : decode cX10_put 15 = .ok (.getfield 13, 3) := by decide +kernel
theorem dX10_put_18 : decode cX10_put 18 = .ok (.sipush 1600, 3) := by decide +kernel
theorem dX10_put_21 : decode cX10_put 21 = .ok (.if_icmp .ge 26, 3) := by decide +kernel
theorem dX10_put_24 : decode cX10_put 24 = .ok (.aload_n 0, 1) := by decide +kernel
theorem dX10_put_25 : decode cX10_put 25 = .ok (.getfield 9, 3) := by decide +kernel
theorem dX10_put_28 : decode cX10_put 28 = .ok (.aload_n 0, 1) := by decide +kernel
theorem dX10_put_29 : decode cX10_put 29 = .ok (.getfield 13, 3) := by decide +kernel
theorem dX10_put_32 : decode cX10_put 32 = .ok (.iload_n 1, 1) := by decide +kernel
theorem dX10_put_33 : decode cX10_put 33 = .ok (.iload_n 2, 1) := by decide +kernel
theorem dX10_put_34 : decode cX10_put 34 = .ok (.iushr, 1) := by decide +kernel
theorem dX10_put_35 : decode cX10_put 35 = .ok (.i2b, 1) := by decide +kernel
theorem dX10_put_36 : decode cX10_put 36 = .ok (.bastore, 1) := by decide +kernel
theorem dX10_put_37 : decode cX10_put 37 = .ok (.aload_n 0, 1) := by decide +kernel
theorem dX10_put_38 : decode cX10_put 38 = .ok (.dup, 1) := by decide +kernel
theorem dX10_put_39 : decode cX10_put 39 = .ok (.getfield 13, 3) := by decide +kernel
theorem dX10_put_42 : decode cX10_put 42 = .ok (.iconst 1, 1) := by decide +kernel
theorem dX10_put_43 : decode cX10_put 43 = .ok (.iadd, 1) := by decide +kernel
theorem dX10_put_44 : decode cX10_put 44 = .ok (.putfield 13, 3) := by decide +kernel
theorem dX10_put_47 : decode cX10_put 47 = .ok (.iinc 2 (-8), 3) := by decide +kernel
theorem dX10_put_50 : decode cX10_put 50 = .ok (.goto (-47), 3) := by decide +kernel
theorem dX10_put_53 : decode cX10_put 53 = .ok (.return_, 1) := by decide +kernel
theorem dX11_init_0 : decode cX11_init 0 = .ok (.aload_n 0, 1) := by decide +kernel
theorem dX11_init_1 : decode cX11_init 1 = .ok (.invokespecial 1, 3) := by decide +kernel
theorem dX11_init_4 : decode cX11_init 4 = .ok (.aload_n 0, 1) := by decide +kernel
theorem dX11_init_5 : decode cX11_init 5 = .ok (.new 7, 3) := by decide +kernel
theorem dX11_init_8 : decode cX11_init 8 = .ok (.dup, 1) := by decide +kernel
theorem dX11_init_9 : decode cX11_init 9 = .ok (.invokespecial 9, 3) := by decide +kernel
theorem dX11_init_12 : decode cX11_init 12 = .ok (.putfield 10, 3) := by decide +kernel
theorem dX11_init_15 : decode cX11_init 15 = .ok (.aload_n 0, 1) := by decide +kernel
theorem dX11_init_16 : decode cX11_init 16 = .ok (.aload_n 0, 1) := by decide +kernel
theorem dX11_init_17 : decode cX11_init 17 = .ok (.getfield 10, 3) := by decide +kernel
theorem dX11_init_20 : decode cX11_init 20 = .ok (.getfield 16, 3) := by decide +kernel
theorem dX11_init_23 : decode cX11_init 23 = .ok (.getfield 20, 3) := by decide +kernel
theorem dX11_init_26 : decode cX11_init 26 = .ok (.putfield 26, 3) := by decide +kernel
theorem dX11_init_29 : decode cX11_init 29 = .ok (.aload_n 0, 1) := by decide +kernel
theorem dX11_init_30 : decode cX11_init 30 = .ok (.new 27, 3) := by decide +kernel
theorem dX11_init_33 : decode cX11_init 33 = .ok (.dup, 1) := by decide +kernel
theorem dX11_init_34 : decode cX11_init 34 = .ok (.invokespecial 29, 3) := by decide +kernel
theorem dX11_init_37 : decode cX11_init 37 = .ok (.putfield 30, 3) := by decide +kernel
theorem dX11_init_40 : decode cX11_init 40 = .ok (.aload_n 0, 1) := by decide +kernel
theorem dX11_init_41 : decode cX11_init 41 = .ok (.new 27, 3) := by decide +kernel
theorem dX11_init_44 : decode cX11_init 44 = .ok (.dup, 1) := by decide +kernel
theorem dX11_init_45 : decode cX11_init 45 = .ok (.invokespecial 29, 3) := by decide +kernel
theorem dX11_init_48 : decode cX11_init 48 = .ok (.putfield 34, 3) := by decide +kernel
theorem dX11_init_51 : decode cX11_init 51 = .ok (.aload_n 0, 1) := by decide +kernel
theorem dX11_init_52 : decode cX11_init 52 = .ok (.new 37, 3) := by decide +kernel
theorem dX11_init_55 : decode cX11_init 55 = .ok (.dup, 1) := by decide +kernel
theorem dX11_init_56 : decode cX11_init 56 = .ok (.invokespecial 39, 3) := by decide +kernel
theorem dX11_init_59 : decode cX11_init 59 = .ok (.putfield 40, 3) := by decide +kernel
theorem dX11_init_62 : decode cX11_init 62 = .ok (.aload_n 0, 1) := by decide +kernel
theorem dX11_init_63 : decode cX11_init 63 = .ok (.new 37, 3) := by decide +kernel
theorem dX11_init_66 : decode cX11_init 66 = .ok (.dup, 1) := by decide +kernel
theorem dX11_init_67 : decode cX11_init 67 = .ok (.invokespecial 39, 3) := by decide +kernel
theorem dX11_init_70 : decode cX11_init 70 = .ok (.putfield 44, 3) := by decide +kernel
theorem dX11_init_73 : decode cX11_init 73 = .ok (.aload_n 0, 1) := by decide +kernel
theorem dX11_init_74 : decode cX11_init 74 = .ok (.new 47, 3) := by decide +kernel
theorem dX11_init_77 : decode cX11_init 77 = .ok (.dup, 1) := by decide +kernel
theorem dX11_init_78 : decode cX11_init 78 = .ok (.invokespecial 49, 3) := by decide +kernel
theorem dX11_init_81 : decode cX11_init 81 = .ok (.putfield 50, 3) := by decide +kernel
theorem dX11_init_84 : decode cX11_init 84 = .ok (.aload_n 0, 1) := by decide +kernel
theorem dX11_init_85 : decode cX11_init 85 = .ok (.bipush 66, 2) := by decide +kernel
theorem dX11_init_87 : decode cX11_init 87 = .ok (.newarray .int, 2) := by decide +kernel
theorem dX11_init_89 : decode cX11_init 89 = .ok (.putfield 54, 3) := by decide +kernel
theorem dX11_init_92 : decode cX11_init 92 = .ok (.aload_n 0, 1) := by decide +kernel
theorem dX11_init_93 : decode cX11_init 93 = .ok (.iconst 3, 1) := by decide +kernel
theorem dX11_init_94 : decode cX11_init 94 = .ok (.newarray .boolean, 2) := by decide +kernel
theorem dX11_init_96 : decode cX11_init 96 = .ok (.putfield 58, 3) := by decide +kernel
theorem dX11_init_99 : decode cX11_init 99 = .ok (.aload_n 0, 1) := by decide +kernel
theorem dX11_init_100 : decode cX11_init 100 = .ok (.new 62, 3) := by decide +kernel
theorem dX11_init_103 : decode cX11_init 103 = .ok (.dup, 1) := by decide +kernel
theorem dX11_init_104 : decode cX11_init 104 = .ok (.invokespecial 64, 3) := by decide +kernel
theorem dX11_init_107 : decode cX11_init 107 = .ok (.putfield 65, 3) := by decide +kernel
theorem dX11_init_110 : decode cX11_init 110 = .ok (.aload_n 0, 1) := by decide +kernel
theorem dX11_init_111 : decode cX11_init 111 = .ok (.new 69, 3) := by decide +kernel
theorem dX11_init_114 : decode cX11_init 114 = .ok (.dup, 1) := by decide +kernel
theorem dX11_init_115 : decode cX11_init 115 = .ok (.invokespecial 71, 3) := by decide +kernel
theorem dX11_init_118 : decode cX11_init 118 = .ok (.putfield 72, 3) := by decide +kernel
theorem dX11_init_121 : decode cX11_init 121 = .ok (.aload_n 0, 1) := by decide +kernel
theorem dX11_init_122 : decode cX11_init 122 = .ok (.new 76, 3) := by decide +kernel
theorem dX11_init_125 : decode cX11_init 125 = .ok (.dup, 1) := by decide +kernel
theorem dX11_init_126 : decode cX11_init 126 = .ok (.invokespecial 78, 3) := by decide +kernel
theorem dX11_init_129 : decode cX11_init 129 = .ok (.putfield 79, 3) := by decide +kernel
theorem dX11_init_132 : decode cX11_init 132 = .ok (.aload_n 0, 1) := by decide +kernel
theorem dX11_init_133 : decode cX11_init 133 = .ok (.iconst 5, 1) := by decide +kernel
theorem dX11_init_134 : decode cX11_init 134 = .ok (.newarray .int, 2) := by decide +kernel
theorem dX11_init_136 : decode cX11_init 136 = .ok (.putfield 83, 3) := by decide +kernel
theorem dX11_init_139 : decode cX11_init 139 = .ok (.aload_n 0, 1) := by decide +kernel
theorem dX11_init_140 : decode cX11_init 140 = .ok (.iconst 5, 1) := by decide +kernel
theorem dX11_init_141 : decode cX11_init 141 = .ok (.newarray .int, 2) := by decide +kernel
theorem dX11_init_143 : decode cX11_init 143 = .ok (.putfield 86, 3) := by decide +kernel
theorem dX11_init_146 : decode cX11_init 146 = .ok (.aload_n 0, 1) := by decide +kernel
theorem dX11_init_147 : decode cX11_init 147 = .ok (.iconst 0, 1) := by decide +kernel
theorem dX11_init_148 : decode cX11_init 148 = .ok (.putfield 89, 3) := by decide +kernel
theorem dX11_init_151 : decode cX11_init 151 = .ok (.aload_n 0, 1) := by decide +kernel
theorem dX11_init_152 : decode cX11_init 152 = .ok (.iconst 0, 1) := by decide +kernel
theorem dX11_init_153 : decode cX11_init 153 = .ok (.putfield 93, 3) := by decide +kernel
theorem dX11_init_156 : decode cX11_init 156 = .ok (.aload_n 0, 1) := by decide +kernel
theorem dX11_init_157 : decode cX11_init 157 = .ok (.iconst (-1), 1) := by decide +kernel
theorem dX11_init_158 : decode cX11_init 158 = .ok (.putfield 96, 3) := by decide +kernel
theorem dX11_init_161 : decode cX11_init 161 = .ok (.aload_n 0, 1) := by decide +kernel
theorem dX11_init_162 : decode cX11_init 162 = .ok (.getfield 40, 3) := by decide +kernel
theorem dX11_init_165 : decode cX11_init 165 = .ok (.aload_n 0, 1) := by decide +kernel
theorem dX11_init_166 : decode cX11_init 166 = .ok (.getfield 30, 3) := by decide +kernel
theorem dX11_init_169 : decode cX11_init 169 = .ok (.invokevirtual 99, 3) := by decide +kernel
theorem dX11_init_172 : decode cX11_init 172 = .ok (.aload_n 0, 1) := by decide +kernel
theorem dX11_init_173 : decode cX11_init 173 = .ok (.getfield 50, 3) := by decide +kernel
theorem dX11_init_176 : decode cX11_init 176 = .ok (.aload_n 0, 1) := by decide +kernel
theorem dX11_init_177 : decode cX11_init 177 = .ok (.getfield 40, 3) := by decide +kernel
theorem dX11_init_180 : decode cX11_init 180 = .ok (.invokevirtual 103, 3) := by decide +kernel
theorem dX11_init_183 : decode cX11_init 183 = .ok (.return_, 1) := by decide +kernel
theorem dX11_feed_0 : decode cX11_feed 0 = .ok (.aload_n 0, 1) := by decide +kernel
theorem dX11_feed_1 : decode cX11_feed 1 = .ok (.getfield 26, 3) := by decide +kernel
theorem dX11_feed_4 : decode cX11_feed 4 = .ok (.bipush 20, 2) := by decide +kernel
theorem dX11_feed_6 : decode cX11_feed 6 = .ok (.invokevirtual 106, 3) := by decide +kernel
theorem dX11_feed_9 : decode cX11_feed 9 = .ok (.ifCond .ne 5, 3) := by decide +kernel
theorem dX11_feed_12 : decode cX11_feed 12 = .ok (.iconst (-1), 1) := by decide +kernel
theorem dX11_feed_13 : decode cX11_feed 13 = .ok (.ireturn, 1) := by decide +kernel
theorem dX11_feed_14 : decode cX11_feed 14 = .ok (.aload_n 0, 1) := by decide +kernel
theorem dX11_feed_15 : decode cX11_feed 15 = .ok (.getfield 26, 3) := by decide +kernel
theorem dX11_feed_18 : decode cX11_feed 18 = .ok (.iload_n 1, 1) := by decide +kernel
theorem dX11_feed_19 : decode cX11_feed 19 = .ok (.invokevirtual 112, 3) := by decide +kernel
theorem dX11_feed_22 : decode cX11_feed 22 = .ok (.aload_n 0, 1) := by decide +kernel
theorem dX11_feed_23 : decode cX11_feed 23 = .ok (.getfield 26, 3) := by decide +kernel
theorem dX11_feed_26 : decode cX11_feed 26 = .ok (.iload_n 2, 1) := by decide +kernel
theorem dX11_feed_27 : decode cX11_feed 27 = .ok (.invokevirtual 112, 3) := by decide +kernel
theorem dX11_feed_30 : decode cX11_feed 30 = .ok (.aload_n 0, 1) := by decide +kernel
theorem dX11_feed_31 : decode cX11_feed 31 = .ok (.getfield 26, 3) := by decide +kernel
theorem dX11_feed_34 : decode cX11_feed 34 = .ok (.iload_n 3, 1) := by decide +kernel
theorem dX11_feed_35 : decode cX11_feed 35 = .ok (.invokevirtual 112, 3) := by decide +kernel
theorem dX11_feed_38 : decode cX11_feed 38 = .ok (.aload_n 0, 1) := by decide +kernel
theorem dX11_feed_39 : decode cX11_feed 39 = .ok (.getfield 26, 3) := by decide +kernel
theorem dX11_feed_42 : decode cX11_feed 42 = .ok (.iload 4, 2) := by decide +kernel
theorem dX11_feed_44 : decode cX11_feed 44 = .ok (.invokevirtual 112, 3) := by decide +kernel
theorem dX11_feed_47 : decode cX11_feed 47 = .ok (.aload_n 0, 1) := by decide +kernel
theorem dX11_feed_48 : decode cX11_feed 48 = .ok (.getfield 26, 3) := by decide +kernel
theorem dX11_feed_51 : decode cX11_feed 51 = .ok (.iload 5, 2) := by decide +kernel
theorem dX11_feed_53 : decode cX11_feed 53 = .ok (.invokevirtual 112, 3) := by decide +kernel
theorem dX11_feed_56 : decode cX11_feed 56 = .ok (.aload_n 0, 1) := by decide +kernel
theorem dX11_feed_57 : decode cX11_feed 57 = .ok (.getfield 26, 3) := by decide +kernel
theorem dX11_feed_60 : decode cX11_feed 60 = .ok (.getfield 116, 3) := by decide +kernel
theorem dX11_feed_63 : decode cX11_feed 63 = .ok (.ireturn, 1) := by decide +kernel
theorem dX11_end_0 : decode cX11_end 0 = .ok (.iload_n 1, 1) := by decide +kernel
theorem dX11_end_1 : decode cX11_end 1 = .ok (.ifCond .lt 14, 3) := by decide +kernel
theorem dX11_end_4 : decode cX11_end 4 = .ok (.iload_n 1, 1) := by decide +kernel
theorem dX11_end_5 : decode cX11_end 5 = .ok (.aload_n 0, 1) := by decide +kernel
theorem dX11_end_6 : decode cX11_end 6 = .ok (.getfield 26, 3) := by decide +kernel
theorem dX11_end_9 : decode cX11_end 9 = .ok (.getfield 116, 3) := by decide +kernel
theorem dX11_end_12 : decode cX11_end 12 = .ok (.if_icmp .le 5, 3) := by decide +kernel
theorem dX11_end_15 : decode cX11_end 15 = .ok (.iconst (-1), 1) := by decide +kernel
theorem dX11_end_16 : decode cX11_end 16 = .ok (.ireturn, 1) := by decide +kernel
theorem dX11_end_17 : decode cX11_end 17 = .ok (.aload_n 0, 1) := by decide +kernel
theorem dX11_end_18 : decode cX11_end 18 = .ok (.getfield 26, 3) := by decide +kernel
theorem dX11_end_21 : decode cX11_end 21 = .ok (.iload_n 1, 1) := by decide +kernel
theorem dX11_end_22 : decode cX11_end 22 = .ok (.putfield 116, 3) := by decide +kernel
theorem dX11_end_25 : decode cX11_end 25 = .ok (.iload_n 1, 1) := by decide +kernel
theorem dX11_end_26 : decode cX11_end 26 = .ok (.ireturn, 1) := by decide +kernel
theorem dX11_chapel_0 : decode cX11_chapel 0 = .ok (.aload_n 0, 1) := by decide +kernel
theorem dX11_chapel_1 : decode cX11_chapel 1 = .ok (.getfield 10, 3) := by decide +kernel
theorem dX11_chapel_4 : decode cX11_chapel 4 = .ok (.aload_n 0, 1) := by decide +kernel
theorem dX11_chapel_5 : decode cX11_chapel 5 = .ok (.getfield 34, 3) := by decide +kernel
theorem dX11_chapel_8 : decode cX11_chapel 8 = .ok (.invokevirtual 119, 3) := by decide +kernel
theorem dX11_chapel_11 : decode cX11_chapel 11 = .ok (.istore_n 1, 1) := by decide +kernel
theorem dX11_chapel_12 : decode cX11_chapel 12 = .ok (.aload_n 0, 1) := by decide +kernel
theorem dX11_chapel_13 : decode cX11_chapel 13 = .ok (.getfield 26, 3) := by decide +kernel
theorem dX11_chapel_16 : decode cX11_chapel 16 = .ok (.iconst 0, 1) := by decide +kernel
theorem dX11_chapel_17 : decode cX11_chapel 17 = .ok (.putfield 116, 3) := by decide +kernel
theorem dX11_chapel_20 : decode cX11_chapel 20 = .ok (.aload_n 0, 1) := by decide +kernel
theorem dX11_chapel_21 : decode cX11_chapel 21 = .ok (.aload_n 0, 1) := by decide +kernel
theorem dX11_chapel_22 : decode cX11_chapel 22 = .ok (.getfield 10, 3) := by decide +kernel
theorem dX11_chapel_25 : decode cX11_chapel 25 = .ok (.getfield 16, 3) := by decide +kernel
theorem dX11_chapel_28 : decode cX11_chapel 28 = .ok (.getfield 123, 3) := by decide +kernel
theorem dX11_chapel_31 : decode cX11_chapel 31 = .ok (.putfield 93, 3) := by decide +kernel
theorem dX11_chapel_34 : decode cX11_chapel 34 = .ok (.aload_n 0, 1) := by decide +kernel
theorem dX11_chapel_35 : decode cX11_chapel 35 = .ok (.aload_n 0, 1) := by decide +kernel
theorem dX11_chapel_36 : decode cX11_chapel 36 = .ok (.getfield 10, 3) := by decide +kernel
theorem dX11_chapel_39 : decode cX11_chapel 39 = .ok (.getfield 16, 3) := by decide +kernel
theorem dX11_chapel_42 : decode cX11_chapel 42 = .ok (.getfield 126, 3) := by decide +kernel
theorem dX11_chapel_45 : decode cX11_chapel 45 = .ok (.putfield 96, 3) := by decide +kernel
theorem dX11_chapel_48 : decode cX11_chapel 48 = .ok (.iload_n 1, 1) := by decide +kernel
theorem dX11_chapel_49 : decode cX11_chapel 49 = .ok (.ifCond .ne 5, 3) := by decide +kernel
theorem dX11_chapel_52 : decode cX11_chapel 52 = .ok (.iconst (-1), 1) := by decide +kernel
theorem dX11_chapel_53 : decode cX11_chapel 53 = .ok (.ireturn, 1) := by decide +kernel
theorem dX11_chapel_54 : decode cX11_chapel 54 = .ok (.aload_n 0, 1) := by decide +kernel
theorem dX11_chapel_55 : decode cX11_chapel 55 = .ok (.getfield 30, 3) := by decide +kernel
theorem dX11_chapel_58 : decode cX11_chapel 58 = .ok (.astore_n 2, 1) := by decide +kernel
theorem dX11_chapel_59 : decode cX11_chapel 59 = .ok (.aload_n 0, 1) := by decide +kernel
theorem dX11_chapel_60 : decode cX11_chapel 60 = .ok (.aload_n 0, 1) := by decide +kernel
theorem dX11_chapel_61 : decode cX11_chapel 61 = .ok (.getfield 34, 3) := by decide +kernel
theorem dX11_chapel_64 : decode cX11_chapel 64 = .ok (.putfield 30, 3) := by decide +kernel
theorem dX11_chapel_67 : decode cX11_chapel 67 = .ok (.aload_n 0, 1) := by decide +kernel
theorem dX11_chapel_68 : decode cX11_chapel 68 = .ok (.aload_n 2, 1) := by decide +kernel
theorem dX11_chapel_69 : decode cX11_chapel 69 = .ok (.putfield 34, 3) := by decide +kernel
theorem dX11_chapel_72 : decode cX11_chapel 72 = .ok (.aload_n 0, 1) := by decide +kernel
theorem dX11_chapel_73 : decode cX11_chapel 73 = .ok (.getfield 40, 3) := by decide +kernel
theorem dX11_chapel_76 : decode cX11_chapel 76 = .ok (.aload_n 0, 1) := by decide +kernel
theorem dX11_chapel_77 : decode cX11_chapel 77 = .ok (.getfield 30, 3) := by decide +kernel
theorem dX11_chapel_80 : decode cX11_chapel 80 = .ok (.invokevirtual 99, 3) := by decide +kernel
theorem dX11_chapel_83 : decode cX11_chapel 83 = .ok (.aload_n 0, 1) := by decide +kernel
theorem dX11_chapel_84 : decode cX11_chapel 84 = .ok (.getfield 50, 3) := by decide +kernel
theorem dX11_chapel_87 : decode cX11_chapel 87 = .ok (.aload_n 0, 1) := by decide +kernel
theorem dX11_chapel_88 : decode cX11_chapel 88 = .ok (.getfield 40, 3) := by decide +kernel
theorem dX11_chapel_91 : decode cX11_chapel 91 = .ok (.invokevirtual 103, 3) := by decide +kernel
theorem dX11_chapel_94 : decode cX11_chapel 94 = .ok (.aload_n 0, 1) := by decide +kernel
theorem dX11_chapel_95 : decode cX11_chapel 95 = .ok (.getfield 79, 3) := by decide +kernel
theorem dX11_chapel_98 : decode cX11_chapel 98 = .ok (.invokevirtual 129, 3) := by decide +kernel
theorem dX11_chapel_101 : decode cX11_chapel 101 = .ok (.aload_n 0, 1) := by decide +kernel
theorem dX11_chapel_102 : decode cX11_chapel 102 = .ok (.iconst 0, 1) := by decide +kernel
theorem dX11_chapel_103 : decode cX11_chapel 103 = .ok (.putfield 89, 3) := by decide +kernel
theorem dX11_chapel_106 : decode cX11_chapel 106 = .ok (.iconst 0, 1) := by decide +kernel
theorem dX11_chapel_107 : decode cX11_chapel 107 = .ok (.istore_n 3, 1) := by decide +kernel
theorem dX11_chapel_108 : decode cX11_chapel 108 = .ok (.iload_n 3, 1) := by decide +kernel
theorem dX11_chapel_109 : decode cX11_chapel 109 = .ok (.iconst 3, 1) := by decide +kernel
theorem dX11_chapel_110 : decode cX11_chapel 110 = .ok (.if_icmp .ge 16, 3) := by decide +kernel
theorem dX11_chapel_113 : decode cX11_chapel 113 = .ok (.aload_n 0, 1) := by decide +kernel
theorem dX11_chapel_114 : decode cX11_chapel 114 = .ok (.getfield 58, 3) := by decide +kernel
theorem dX11_chapel_117 : decode cX11_chapel 117 = .ok (.iload_n 3, 1) := by decide +kernel
theorem dX11_chapel_118 : decode cX11_chapel 118 = .ok (.iconst 0, 1) := by decide +kernel
theorem dX11_chapel_119 : decode cX11_chapel 119 = .ok (.bastore, 1) := by decide +kernel
theorem dX11_chapel_120 : decode cX11_chapel 120 = .ok (.iinc 3 1, 3) := by decide +kernel
theorem dX11_chapel_123 : decode cX11_chapel 123 = .ok (.goto (-15), 3) := by decide +kernel
theorem dX11_chapel_126 : decode cX11_chapel 126 = .ok (.aload_n 0, 1) := by decide +kernel
theorem dX11_chapel_127 : decode cX11_chapel 127 = .ok (.getfield 30, 3) := by decide +kernel
theorem dX11_chapel_130 : decode cX11_chapel 130 = .ok (.getfield 132, 3) := by decide +kernel
theorem dX11_chapel_133 : decode cX11_chapel 133 = .ok (.ireturn, 1) := by decide +kernel
theorem dX11_fault_0 : decode cX11_fault 0 = .ok (.iload_n 1, 1) := by decide +kernel
theorem dX11_fault_1 : decode cX11_fault 1 = .ok (.lookupswitch 37 #[(0, 27), (1, 32)], 27) := by decide +kernel
theorem dX11_fault_28 : decode cX11_fault 28 = .ok (.aload_n 0, 1) := by decide +kernel
theorem dX11_fault_29 : decode cX11_fault 29 = .ok (.getfield 93, 3) := by decide +kernel
theorem dX11_fault_32 : decode cX11_fault 32 = .ok (.ireturn, 1) := by decide +kernel
theorem dX11_fault_33 : decode cX11_fault 33 = .ok (.aload_n 0, 1) := by decide +kernel
theorem dX11_fault_34 : decode cX11_fault 34 = .ok (.getfield 96, 3) := by decide +kernel
theorem dX11_fault_37 : decode cX11_fault 37 = .ok (.ireturn, 1) := by decide +kernel
theorem dX11_fault_38 : decode cX11_fault 38 = .ok (.iconst (-1), 1) := by decide +kernel
theorem dX11_fault_39 : decode cX11_fault 39 = .ok (.ireturn, 1) := by decide +kernel
theorem dX11_hearth_0 : decode cX11_hearth 0 = .ok (.aload_n 0, 1) := by decide +kernel
theorem dX11_hearth_1 : decode cX11_hearth 1 = .ok (.getfield 30, 3) := by decide +kernel
theorem dX11_hearth_4 : decode cX11_hearth 4 = .ok (.iload_n 1, 1) := by decide +kernel
theorem dX11_hearth_5 : decode cX11_hearth 5 = .ok (.invokevirtual 135, 3) := by decide +kernel
theorem dX11_hearth_8 : decode cX11_hearth 8 = .ok (.ifCond .ne 5, 3) := by decide +kernel
theorem dX11_hearth_11 : decode cX11_hearth 11 = .ok (.iconst (-1), 1) := by decide +kernel
theorem dX11_hearth_12 : decode cX11_hearth 12 = .ok (.ireturn, 1) := by decide +kernel
theorem dX11_hearth_13 : decode cX11_hearth 13 = .ok (.iload_n 2, 1) := by decide +kernel
theorem dX11_hearth_14 : decode cX11_hearth 14 = .ok (.tableswitch 111 0 5 #[38, 48, 58, 68, 78, 87], 38) := by decide +kernel
theorem dX11_hearth_52 : decode cX11_hearth 52 = .ok (.aload_n 0, 1) := by decide +kernel
theorem dX11_hearth_53 : decode cX11_hearth 53 = .ok (.getfield 30, 3) := by decide +kernel
theorem dX11_hearth_56 : decode cX11_hearth 56 = .ok (.getfield 138, 3) := by decide +kernel
theorem dX11_hearth_59 : decode cX11_hearth 59 = .ok (.iload_n 1, 1) := by decide +kernel
theorem dX11_hearth_60 : decode cX11_hearth 60 = .ok (.iaload, 1) := by decide +kernel
theorem dX11_hearth_61 : decode cX11_hearth 61 = .ok (.ireturn, 1) := by decide +kernel
theorem dX11_hearth_62 : decode cX11_hearth 62 = .ok (.aload_n 0, 1) := by decide +kernel
theorem dX11_hearth_63 : decode cX11_hearth 63 = .ok (.getfield 30, 3) := by decide +kernel
theorem dX11_hearth_66 : decode cX11_hearth 66 = .ok (.getfield 141, 3) := by decide +kernel
theorem dX11_hearth_69 : decode cX11_hearth 69 = .ok (.iload_n 1, 1) := by decide +kernel
theorem dX11_hearth_70 : decode cX11_hearth 70 = .ok (.iaload, 1) := by decide +kernel
theorem dX11_hearth_71 : decode cX11_hearth 71 = .ok (.ireturn, 1) := by decide +kernel
theorem dX11_hearth_72 : decode cX11_hearth 72 = .ok (.aload_n 0, 1) := by decide +kernel
theorem dX11_hearth_73 : decode cX11_hearth 73 = .ok (.getfield 30, 3) := by decide +kernel
theorem dX11_hearth_76 : decode cX11_hearth 76 = .ok (.getfield 144, 3) := by decide +kernel
theorem dX11_hearth_79 : decode cX11_hearth 79 = .ok (.iload_n 1, 1) := by decide +kernel
theorem dX11_hearth_80 : decode cX11_hearth 80 = .ok (.iaload, 1) := by decide +kernel
theorem dX11_hearth_81 : decode cX11_hearth 81 = .ok (.ireturn, 1) := by decide +kernel
theorem dX11_hearth_82 : decode cX11_hearth 82 = .ok (.aload_n 0, 1) := by decide +kernel
theorem dX11_hearth_83 : decode cX11_hearth 83 = .ok (.getfield 30, 3) := by decide +kernel
theorem dX11_hearth_86 : decode cX11_hearth 86 = .ok (.getfield 147, 3) := by decide +kernel
theorem dX11_hearth_89 : decode cX11_hearth 89 = .ok (.iload_n 1, 1) := by decide +kernel
theorem dX11_hearth_90 : decode cX11_hearth 90 = .ok (.iaload, 1) := by decide +kernel
theorem dX11_hearth_91 : decode cX11_hearth 91 = .ok (.ireturn, 1) := by decide +kernel
theorem dX11_hearth_92 : decode cX11_hearth 92 = .ok (.aload_n 0, 1) := by decide +kernel
theorem dX11_hearth_93 : decode cX11_hearth 93 = .ok (.getfield 40, 3) := by decide +kernel
theorem dX11_hearth_96 : decode cX11_hearth 96 = .ok (.iload_n 1, 1) := by decide +kernel
theorem dX11_hearth_97 : decode cX11_hearth 97 = .ok (.invokevirtual 150, 3) := by decide +kernel
theorem dX11_hearth_100 : decode cX11_hearth 100 = .ok (.ireturn, 1) := by decide +kernel
theorem dX11_hearth_101 : decode cX11_hearth 101 = .ok (.aload_n 0, 1) := by decide +kernel
theorem dX11_hearth_102 : decode cX11_hearth 102 = .ok (.getfield 30, 3) := by decide +kernel
theorem dX11_hearth_105 : decode cX11_hearth 105 = .ok (.aload_n 0, 1) := by decide +kernel
theorem dX11_hearth_106 : decode cX11_hearth 106 = .ok (.getfield 40, 3) := by decide +kernel
theorem dX11_hearth_109 : decode cX11_hearth 109 = .ok (.iload_n 1, 1) := by decide +kernel
theorem dX11_hearth_110 : decode cX11_hearth 110 = .ok (.invokevirtual 150, 3) := by decide +kernel
theorem dX11_hearth_113 : decode cX11_hearth 113 = .ok (.invokevirtual 154, 3) := by decide +kernel
theorem dX11_hearth_116 : decode cX11_hearth 116 = .ok (.ifCond .eq 7, 3) := by decide +kernel
theorem dX11_hearth_119 : decode cX11_hearth 119 = .ok (.iconst 1, 1) := by decide +kernel
theorem dX11_hearth_120 : decode cX11_hearth 120 = .ok (.goto 4, 3) := by decide +kernel
theorem dX11_hearth_123 : decode cX11_hearth 123 = .ok (.iconst 0, 1) := by decide +kernel
theorem dX11_hearth_124 : decode cX11_hearth 124 = .ok (.ireturn, 1) := by decide +kernel
theorem dX11_hearth_125 : decode cX11_hearth 125 = .ok (.iconst (-1), 1) := by decide +kernel
theorem dX11_hearth_126 : decode cX11_hearth 126 = .ok (.ireturn, 1) := by decide +kernel
theorem dX11_stool_0 : decode cX11_stool 0 = .ok (.aload_n 0, 1) := by decide +kernel
theorem dX11_stool_1 : decode cX11_stool 1 = .ok (.getfield 30, 3) := by decide +kernel
theorem dX11_stool_4 : decode cX11_stool 4 = .ok (.iload_n 1, 1) := by decide +kernel
theorem dX11_stool_5 : decode cX11_stool 5 = .ok (.invokevirtual 157, 3) := by decide +kernel
theorem dX11_stool_8 : decode cX11_stool 8 = .ok (.ifCond .ne 6, 3) := by decide +kernel
theorem dX11_stool_11 : decode cX11_stool 11 = .ok (.bipush (-2), 2) := by decide +kernel
theorem dX11_stool_13 : decode cX11_stool 13 = .ok (.ireturn, 1) := by decide +kernel
theorem dX11_stool_14 : decode cX11_stool 14 = .ok (.iload_n 2, 1) := by decide +kernel
theorem dX11_stool_15 : decode cX11_stool 15 = .ok (.tableswitch 122 0 6 #[41, 51, 61, 71, 81, 91, 101], 41) := by decide +kernel
theorem dX11_stool_56 : decode cX11_stool 56 = .ok (.aload_n 0, 1) := by decide +kernel
theorem dX11_stool_57 : decode cX11_stool 57 = .ok (.getfield 30, 3) := by decide +kernel
theorem dX11_stool_60 : decode cX11_stool 60 = .ok (.getfield 160, 3) := by decide +kernel
theorem dX11_stool_63 : decode cX11_stool 63 = .ok (.iload_n 1, 1) := by decide +kernel
theorem dX11_stool_64 : decode cX11_stool 64 = .ok (.iaload, 1) := by decide +kernel
theorem dX11_stool_65 : decode cX11_stool 65 = .ok (.ireturn, 1) := by decide +kernel
theorem dX11_stool_66 : decode cX11_stool 66 = .ok (.aload_n 0, 1) := by decide +kernel
theorem dX11_stool_67 : decode cX11_stool 67 = .ok (.getfield 40, 3) := by decide +kernel
theorem dX11_stool_70 : decode cX11_stool 70 = .ok (.getfield 163, 3) := by decide +kernel
theorem dX11_stool_73 : decode cX11_stool 73 = .ok (.iload_n 1, 1) := by decide +kernel
theorem dX11_stool_74 : decode cX11_stool 74 = .ok (.iaload, 1) := by decide +kernel
theorem dX11_stool_75 : decode cX11_stool 75 = .ok (.ireturn, 1) := by decide +kernel
theorem dX11_stool_76 : decode cX11_stool 76 = .ok (.aload_n 0, 1) := by decide +kernel
theorem dX11_stool_77 : decode cX11_stool 77 = .ok (.getfield 30, 3) := by decide +kernel
theorem dX11_stool_80 : decode cX11_stool 80 = .ok (.getfield 166, 3) := by decide +kernel
theorem dX11_stool_83 : decode cX11_stool 83 = .ok (.iload_n 1, 1) := by decide +kernel
theorem dX11_stool_84 : decode cX11_stool 84 = .ok (.iaload, 1) := by decide +kernel
theorem dX11_stool_85 : decode cX11_stool 85 = .ok (.ireturn, 1) := by decide +kernel
theorem dX11_stool_86 : decode cX11_stool 86 = .ok (.aload_n 0, 1) := by decide +kernel
theorem dX11_stool_87 : decode cX11_stool 87 = .ok (.getfield 40, 3) := by decide +kernel
theorem dX11_stool_90 : decode cX11_stool 90 = .ok (.getfield 169, 3) := by decide +kernel
theorem dX11_stool_93 : decode cX11_stool 93 = .ok (.iload_n 1, 1) := by decide +kernel
theorem dX11_stool_94 : decode cX11_stool 94 = .ok (.iaload, 1) := by decide +kernel
theorem dX11_stool_95 : decode cX11_stool 95 = .ok (.ireturn, 1) := by decide +kernel
theorem dX11_stool_96 : decode cX11_stool 96 = .ok (.aload_n 0, 1) := by decide +kernel
theorem dX11_stool_97 : decode cX11_stool 97 = .ok (.getfield 40, 3) := by decide +kernel
theorem dX11_stool_100 : decode cX11_stool 100 = .ok (.getfield 172, 3) := by decide +kernel
theorem dX11_stool_103 : decode cX11_stool 103 = .ok (.iload_n 1, 1) := by decide +kernel
theorem dX11_stool_104 : decode cX11_stool 104 = .ok (.iaload, 1) := by decide +kernel
theorem dX11_stool_105 : decode cX11_stool 105 = .ok (.ireturn, 1) := by decide +kernel
theorem dX11_stool_106 : decode cX11_stool 106 = .ok (.aload_n 0, 1) := by decide +kernel
theorem dX11_stool_107 : decode cX11_stool 107 = .ok (.getfield 40, 3) := by decide +kernel
theorem dX11_stool_110 : decode cX11_stool 110 = .ok (.getfield 175, 3) := by decide +kernel
theorem dX11_stool_113 : decode cX11_stool 113 = .ok (.iload_n 1, 1) := by decide +kernel
theorem dX11_stool_114 : decode cX11_stool 114 = .ok (.iaload, 1) := by decide +kernel
theorem dX11_stool_115 : decode cX11_stool 115 = .ok (.ireturn, 1) := by decide +kernel
theorem dX11_stool_116 : decode cX11_stool 116 = .ok (.aload_n 0, 1) := by decide +kernel
theorem dX11_stool_117 : decode cX11_stool 117 = .ok (.getfield 40, 3) := by decide +kernel
theorem dX11_stool_120 : decode cX11_stool 120 = .ok (.aload_n 0, 1) := by decide +kernel
theorem dX11_stool_121 : decode cX11_stool 121 = .ok (.getfield 30, 3) := by decide +kernel
theorem dX11_stool_124 : decode cX11_stool 124 = .ok (.iload_n 1, 1) := by decide +kernel
theorem dX11_stool_125 : decode cX11_stool 125 = .ok (.invokevirtual 178, 3) := by decide +kernel
theorem dX11_stool_128 : decode cX11_stool 128 = .ok (.ifCond .eq 7, 3) := by decide +kernel
theorem dX11_stool_131 : decode cX11_stool 131 = .ok (.iconst 1, 1) := by decide +kernel
theorem dX11_stool_132 : decode cX11_stool 132 = .ok (.goto 4, 3) := by decide +kernel
theorem dX11_stool_135 : decode cX11_stool 135 = .ok (.iconst 0, 1) := by decide +kernel
theorem dX11_stool_136 : decode cX11_stool 136 = .ok (.ireturn, 1) := by decide +kernel
theorem dX11_stool_137 : decode cX11_stool 137 = .ok (.bipush (-2), 2) := by decide +kernel
theorem dX11_stool_139 : decode cX11_stool 139 = .ok (.ireturn, 1) := by decide +kernel
theorem dX11_load_0 : decode cX11_load 0 = .ok (.aload_n 0, 1) := by decide +kernel
theorem dX11_load_1 : decode cX11_load 1 = .ok (.iload_n 1, 1) := by decide +kernel
theorem dX11_load_2 : decode cX11_load 2 = .ok (.invokevirtual 182, 3) := by decide +kernel
theorem dX11_load_5 : decode cX11_load 5 = .ok (.ifCond .ne 5, 3) := by decide +kernel
theorem dX11_load_8 : decode cX11_load 8 = .ok (.iconst (-1), 1) := by decide +kernel
theorem dX11_load_9 : decode cX11_load 9 = .ok (.ireturn, 1) := by decide +kernel
theorem dX11_load_10 : decode cX11_load 10 = .ok (.aload_n 0, 1) := by decide +kernel
theorem dX11_load_11 : decode cX11_load 11 = .ok (.getfield 40, 3) := by decide +kernel
theorem dX11_load_14 : decode cX11_load 14 = .ok (.getfield 175, 3) := by decide +kernel
theorem dX11_load_17 : decode cX11_load 17 = .ok (.iload_n 1, 1) := by decide +kernel
theorem dX11_load_18 : decode cX11_load 18 = .ok (.iaload, 1) := by decide +kernel
theorem dX11_load_19 : decode cX11_load 19 = .ok (.istore_n 2, 1) := by decide +kernel
theorem dX11_load_20 : decode cX11_load 20 = .ok (.aload_n 0, 1) := by decide +kernel
theorem dX11_load_21 : decode cX11_load 21 = .ok (.getfield 30, 3) := by decide +kernel
theorem dX11_load_24 : decode cX11_load 24 = .ok (.aload_n 0, 1) := by decide +kernel
theorem dX11_load_25 : decode cX11_load 25 = .ok (.getfield 40, 3) := by decide +kernel
theorem dX11_load_28 : decode cX11_load 28 = .ok (.iload_n 1, 1) := by decide +kernel
theorem dX11_load_29 : decode cX11_load 29 = .ok (.iload_n 2, 1) := by decide +kernel
theorem dX11_load_30 : decode cX11_load 30 = .ok (.aload_n 0, 1) := by decide +kernel
theorem dX11_load_31 : decode cX11_load 31 = .ok (.getfield 40, 3) := by decide +kernel
theorem dX11_load_34 : decode cX11_load 34 = .ok (.iload_n 2, 1) := by decide +kernel
theorem dX11_load_35 : decode cX11_load 35 = .ok (.invokevirtual 150, 3) := by decide +kernel
theorem dX11_load_38 : decode cX11_load 38 = .ok (.invokestatic 185, 3) := by decide +kernel
theorem dX11_load_41 : decode cX11_load 41 = .ok (.iconst 0, 1) := by decide +kernel
theorem dX11_load_42 : decode cX11_load 42 = .ok (.invokevirtual 190, 3) := by decide +kernel
theorem dX11_load_45 : decode cX11_load 45 = .ok (.ireturn, 1) := by decide +kernel
theorem dX11_tonight_0 : decode cX11_tonight 0 = .ok (.iload_n 1, 1) := by decide +kernel
theorem dX11_tonight_1 : decode cX11_tonight 1 = .ok (.tableswitch 64 0 2 #[27, 40, 52], 27) := by decide +kernel
theorem dX11_tonight_28 : decode cX11_tonight 28 = .ok (.aload_n 0, 1) := by decide +kernel
theorem dX11_tonight_29 : decode cX11_tonight 29 = .ok (.getfield 40, 3) := by decide +kernel
theorem dX11_tonight_32 : decode cX11_tonight 32 = .ok (.aload_n 0, 1) := by decide +kernel
theorem dX11_tonight_33 : decode cX11_tonight 33 = .ok (.getfield 30, 3) := by decide +kernel
theorem dX11_tonight_36 : decode cX11_tonight 36 = .ok (.iconst 0, 1) := by decide +kernel
theorem dX11_tonight_37 : decode cX11_tonight 37 = .ok (.invokevirtual 194, 3) := by decide +kernel
theorem dX11_tonight_40 : decode cX11_tonight 40 = .ok (.ireturn, 1) := by decide +kernel
theorem dX11_tonight_41 : decode cX11_tonight 41 = .ok (.aload_n 0, 1) := by decide +kernel
theorem dX11_tonight_42 : decode cX11_tonight 42 = .ok (.getfield 40, 3) := by decide +kernel
theorem dX11_tonight_45 : decode cX11_tonight 45 = .ok (.aload_n 0, 1) := by decide +kernel
theorem dX11_tonight_46 : decode cX11_tonight 46 = .ok (.getfield 30, 3) := by decide +kernel
theorem dX11_tonight_49 : decode cX11_tonight 49 = .ok (.invokevirtual 198, 3) := by decide +kernel
theorem dX11_tonight_52 : decode cX11_tonight 52 = .ok (.ireturn, 1) := by decide +kernel
theorem dX11_tonight_53 : decode cX11_tonight 53 = .ok (.aload_n 0, 1) := by decide +kernel
theorem dX11_tonight_54 : decode cX11_tonight 54 = .ok (.getfield 40, 3) := by decide +kernel
theorem dX11_tonight_57 : decode cX11_tonight 57 = .ok (.aload_n 0, 1) := by decide +kernel
theorem dX11_tonight_58 : decode cX11_tonight 58 = .ok (.getfield 30, 3) := by decide +kernel
theorem dX11_tonight_61 : decode cX11_tonight 61 = .ok (.invokevirtual 202, 3) := by decide +kernel
theorem dX11_tonight_64 : decode cX11_tonight 64 = .ok (.ireturn, 1) := by decide +kernel
theorem dX11_tonight_65 : decode cX11_tonight 65 = .ok (.iconst (-1), 1) := by decide +kernel
theorem dX11_tonight_66 : decode cX11_tonight 66 = .ok (.ireturn, 1) := by decide +kernel
theorem dX11_walk_0 : decode cX11_walk 0 = .ok (.iconst 0, 1) := by decide +kernel
theorem dX11_walk_1 : decode cX11_walk 1 = .ok (.istore_n 1, 1) := by decide +kernel
theorem dX11_walk_2 : decode cX11_walk 2 = .ok (.iconst 0, 1) := by decide +kernel
theorem dX11_walk_3 : decode cX11_walk 3 = .ok (.istore_n 2, 1) := by decide +kernel
theorem dX11_walk_4 : decode cX11_walk 4 = .ok (.iload_n 2, 1) := by decide +kernel
theorem dX11_walk_5 : decode cX11_walk 5 = .ok (.aload_n 0, 1) := by decide +kernel
theorem dX11_walk_6 : decode cX11_walk 6 = .ok (.getfield 30, 3) := by decide +kernel
theorem dX11_walk_9 : decode cX11_walk 9 = .ok (.getfield 132, 3) := by decide +kernel
theorem dX11_walk_12 : decode cX11_walk 12 = .ok (.if_icmp .ge 37, 3) := by decide +kernel
theorem dX11_walk_15 : decode cX11_walk 15 = .ok (.aload_n 0, 1) := by decide +kernel
theorem dX11_walk_16 : decode cX11_walk 16 = .ok (.iload_n 2, 1) := by decide +kernel
theorem dX11_walk_17 : decode cX11_walk 17 = .ok (.invokevirtual 182, 3) := by decide +kernel
theorem dX11_walk_20 : decode cX11_walk 20 = .ok (.ifCond .eq 23, 3) := by decide +kernel
theorem dX11_walk_23 : decode cX11_walk 23 = .ok (.iload_n 1, 1) := by decide +kernel
theorem dX11_walk_24 : decode cX11_walk 24 = .ok (.aload_n 0, 1) := by decide +kernel
theorem dX11_walk_25 : decode cX11_walk 25 = .ok (.getfield 30, 3) := by decide +kernel
theorem dX11_walk_28 : decode cX11_walk 28 = .ok (.iload_n 2, 1) := by decide +kernel
theorem dX11_walk_29 : decode cX11_walk 29 = .ok (.aload_n 0, 1) := by decide +kernel
theorem dX11_walk_30 : decode cX11_walk 30 = .ok (.getfield 40, 3) := by decide +kernel
theorem dX11_walk_33 : decode cX11_walk 33 = .ok (.getfield 175, 3) := by decide +kernel
theorem dX11_walk_36 : decode cX11_walk 36 = .ok (.iload_n 2, 1) := by decide +kernel
theorem dX11_walk_37 : decode cX11_walk 37 = .ok (.iaload, 1) := by decide +kernel
theorem dX11_walk_38 : decode cX11_walk 38 = .ok (.invokevirtual 205, 3) := by decide +kernel
theorem dX11_walk_41 : decode cX11_walk 41 = .ok (.iadd, 1) := by decide +kernel
theorem dX11_walk_42 : decode cX11_walk 42 = .ok (.istore_n 1, 1) := by decide +kernel
theorem dX11_walk_43 : decode cX11_walk 43 = .ok (.iinc 2 1, 3) := by decide +kernel
theorem dX11_walk_46 : decode cX11_walk 46 = .ok (.goto (-42), 3) := by decide +kernel
theorem dX11_walk_49 : decode cX11_walk 49 = .ok (.iload_n 1, 1) := by decide +kernel
theorem dX11_walk_50 : decode cX11_walk 50 = .ok (.ireturn, 1) := by decide +kernel
theorem dX11_saved_0 : decode cX11_saved 0 = .ok (.aload_n 0, 1) := by decide +kernel
theorem dX11_saved_1 : decode cX11_saved 1 = .ok (.getfield 40, 3) := by decide +kernel
theorem dX11_saved_4 : decode cX11_saved 4 = .ok (.aload_n 0, 1) := by decide +kernel
theorem dX11_saved_5 : decode cX11_saved 5 = .ok (.getfield 30, 3) := by decide +kernel
theorem dX11_saved_8 : decode cX11_saved 8 = .ok (.invokevirtual 209, 3) := by decide +kernel
theorem dX11_saved_11 : decode cX11_saved 11 = .ok (.ireturn, 1) := by decide +kernel
theorem dX11_about_0 : decode cX11_about 0 = .ok (.iload_n 1, 1) := by decide +kernel
theorem dX11_about_1 : decode cX11_about 1 = .ok (.tableswitch 182 0 12 #[67, 75, 83, 91, 99, 107, 115, 123, 131, 139, 147, 155, 177], 67) := by decide +kernel
theorem dX11_about_68 : decode cX11_about 68 = .ok (.aload_n 0, 1) := by decide +kernel
theorem dX11_about_69 : decode cX11_about 69 = .ok (.getfield 30, 3) := by decide +kernel
theorem dX11_about_72 : decode cX11_about 72 = .ok (.getfield 132, 3) := by decide +kernel
theorem dX11_about_75 : decode cX11_about 75 = .ok (.ireturn, 1) := by decide +kernel
theorem dX11_about_76 : decode cX11_about 76 = .ok (.aload_n 0, 1) := by decide +kernel
theorem dX11_about_77 : decode cX11_about 77 = .ok (.getfield 30, 3) := by decide +kernel
theorem dX11_about_80 : decode cX11_about 80 = .ok (.getfield 212, 3) := by decide +kernel
theorem dX11_about_83 : decode cX11_about 83 = .ok (.ireturn, 1) := by decide +kernel
theorem dX11_about_84 : decode cX11_about 84 = .ok (.aload_n 0, 1) := by decide +kernel
theorem dX11_about_85 : decode cX11_about 85 = .ok (.getfield 30, 3) := by decide +kernel
theorem dX11_about_88 : decode cX11_about 88 = .ok (.getfield 215, 3) := by decide +kernel
theorem dX11_about_91 : decode cX11_about 91 = .ok (.ireturn, 1) := by decide +kernel
theorem dX11_about_92 : decode cX11_about 92 = .ok (.aload_n 0, 1) := by decide +kernel
theorem dX11_about_93 : decode cX11_about 93 = .ok (.getfield 30, 3) := by decide +kernel
theorem dX11_about_96 : decode cX11_about 96 = .ok (.getfield 218, 3) := by decide +kernel
theorem dX11_about_99 : decode cX11_about 99 = .ok (.ireturn, 1) := by decide +kernel
theorem dX11_about_100 : decode cX11_about 100 = .ok (.aload_n 0, 1) := by decide +kernel
theorem dX11_about_101 : decode cX11_about 101 = .ok (.getfield 40, 3) := by decide +kernel
theorem dX11_about_104 : decode cX11_about 104 = .ok (.getfield 221, 3) := by decide +kernel
theorem dX11_about_107 : decode cX11_about 107 = .ok (.ireturn, 1) := by decide +kernel
theorem dX11_about_108 : decode cX11_about 108 = .ok (.aload_n 0, 1) := by decide +kernel
theorem dX11_about_109 : decode cX11_about 109 = .ok (.getfield 40, 3) := by decide +kernel
theorem dX11_about_112 : decode cX11_about 112 = .ok (.getfield 224, 3) := by decide +kernel
theorem dX11_about_115 : decode cX11_about 115 = .ok (.ireturn, 1) := by decide +kernel
theorem dX11_about_116 : decode cX11_about 116 = .ok (.aload_n 0, 1) := by decide +kernel
theorem dX11_about_117 : decode cX11_about 117 = .ok (.getfield 50, 3) := by decide +kernel
theorem dX11_about_120 : decode cX11_about 120 = .ok (.getfield 227, 3) := by decide +kernel
theorem dX11_about_123 : decode cX11_about 123 = .ok (.ireturn, 1) := by decide +kernel
theorem dX11_about_124 : decode cX11_about 124 = .ok (.aload_n 0, 1) := by decide +kernel
theorem dX11_about_125 : decode cX11_about 125 = .ok (.getfield 50, 3) := by decide +kernel
theorem dX11_about_128 : decode cX11_about 128 = .ok (.getfield 230, 3) := by decide +kernel
theorem dX11_about_131 : decode cX11_about 131 = .ok (.ireturn, 1) := by decide +kernel
theorem dX11_about_132 : decode cX11_about 132 = .ok (.aload_n 0, 1) := by decide +kernel
theorem dX11_about_133 : decode cX11_about 133 = .ok (.getfield 79, 3) := by decide +kernel
theorem dX11_about_136 : decode cX11_about 136 = .ok (.getfield 233, 3) := by decide +kernel
theorem dX11_about_139 : decode cX11_about 139 = .ok (.ireturn, 1) := by decide +kernel
theorem dX11_about_140 : decode cX11_about 140 = .ok (.aload_n 0, 1) := by decide +kernel
theorem dX11_about_141 : decode cX11_about 141 = .ok (.getfield 79, 3) := by decide +kernel
theorem dX11_about_144 : decode cX11_about 144 = .ok (.getfield 234, 3) := by decide +kernel
theorem dX11_about_147 : decode cX11_about 147 = .ok (.ireturn, 1) := by decide +kernel
theorem dX11_about_148 : decode cX11_about 148 = .ok (.aload_n 0, 1) := by decide +kernel
theorem dX11_about_149 : decode cX11_about 149 = .ok (.getfield 26, 3) := by decide +kernel
theorem dX11_about_152 : decode cX11_about 152 = .ok (.getfield 116, 3) := by decide +kernel
theorem dX11_about_155 : decode cX11_about 155 = .ok (.ireturn, 1) := by decide +kernel
theorem dX11_about_156 : decode cX11_about 156 = .ok (.aload_n 0, 1) := by decide +kernel
theorem dX11_about_157 : decode cX11_about 157 = .ok (.getfield 30, 3) := by decide +kernel
theorem dX11_about_160 : decode cX11_about 160 = .ok (.getfield 237, 3) := by decide +kernel
theorem dX11_about_163 : decode cX11_about 163 = .ok (.getfield 241, 3) := by decide +kernel
theorem dX11_about_166 : decode cX11_about 166 = .ok (.aload_n 0, 1) := by decide +kernel
theorem dX11_about_167 : decode cX11_about 167 = .ok (.getfield 30, 3) := by decide +kernel
theorem dX11_about_170 : decode cX11_about 170 = .ok (.getfield 246, 3) := by decide +kernel
theorem dX11_about_173 : decode cX11_about 173 = .ok (.getfield 241, 3) := by decide +kernel
theorem dX11_about_176 : decode cX11_about 176 = .ok (.iadd, 1) := by decide +kernel
theorem dX11_about_177 : decode cX11_about 177 = .ok (.ireturn, 1) := by decide +kernel
theorem dX11_about_178 : decode cX11_about 178 = .ok (.aload_n 0, 1) := by decide +kernel
theorem dX11_about_179 : decode cX11_about 179 = .ok (.getfield 89, 3) := by decide +kernel
theorem dX11_about_182 : decode cX11_about 182 = .ok (.ireturn, 1) := by decide +kernel
theorem dX11_about_183 : decode cX11_about 183 = .ok (.iconst (-1), 1) := by decide +kernel
theorem dX11_about_184 : decode cX11_about 184 = .ok (.ireturn, 1) := by decide +kernel
theorem dX11_send_0 : decode cX11_send 0 = .ok (.aload_n 0, 1) := by decide +kernel
theorem dX11_send_1 : decode cX11_send 1 = .ok (.getfield 30, 3) := by decide +kernel
theorem dX11_send_4 : decode cX11_send 4 = .ok (.iload_n 1, 1) := by decide +kernel
theorem dX11_send_5 : decode cX11_send 5 = .ok (.invokevirtual 157, 3) := by decide +kernel
theorem dX11_send_8 : decode cX11_send 8 = .ok (.ifCond .eq 14, 3) := by decide +kernel
theorem dX11_send_11 : decode cX11_send 11 = .ok (.aload_n 0, 1) := by decide +kernel
theorem dX11_send_12 : decode cX11_send 12 = .ok (.getfield 30, 3) := by decide +kernel
theorem dX11_send_15 : decode cX11_send 15 = .ok (.iload_n 2, 1) := by decide +kernel
theorem dX11_send_16 : decode cX11_send 16 = .ok (.invokevirtual 135, 3) := by decide +kernel
theorem dX11_send_19 : decode cX11_send 19 = .ok (.ifCond .ne 6, 3) := by decide +kernel
theorem dX11_send_22 : decode cX11_send 22 = .ok (.bipush (-2), 2) := by decide +kernel
theorem dX11_send_24 : decode cX11_send 24 = .ok (.ireturn, 1) := by decide +kernel
theorem dX11_send_25 : decode cX11_send 25 = .ok (.aload_n 0, 1) := by decide +kernel
theorem dX11_send_26 : decode cX11_send 26 = .ok (.getfield 40, 3) := by decide +kernel
theorem dX11_send_29 : decode cX11_send 29 = .ok (.getfield 175, 3) := by decide +kernel
theorem dX11_send_32 : decode cX11_send 32 = .ok (.iload_n 1, 1) := by decide +kernel
theorem dX11_send_33 : decode cX11_send 33 = .ok (.iaload, 1) := by decide +kernel
theorem dX11_send_34 : decode cX11_send 34 = .ok (.istore_n 3, 1) := by decide +kernel
theorem dX11_send_35 : decode cX11_send 35 = .ok (.iload_n 3, 1) := by decide +kernel
theorem dX11_send_36 : decode cX11_send 36 = .ok (.iload_n 2, 1) := by decide +kernel
theorem dX11_send_37 : decode cX11_send 37 = .ok (.if_icmp .eq 11, 3) := by decide +kernel
theorem dX11_send_40 : decode cX11_send 40 = .ok (.aload_n 0, 1) := by decide +kernel
theorem dX11_send_41 : decode cX11_send 41 = .ok (.iload_n 2, 1) := by decide +kernel
theorem dX11_send_42 : decode cX11_send 42 = .ok (.invokevirtual 249, 3) := by decide +kernel
theorem dX11_send_45 : decode cX11_send 45 = .ok (.ifCond .ne 6, 3) := by decide +kernel
theorem dX11_send_48 : decode cX11_send 48 = .ok (.bipush (-2), 2) := by decide +kernel
theorem dX11_send_50 : decode cX11_send 50 = .ok (.ireturn, 1) := by decide +kernel
theorem dX11_send_51 : decode cX11_send 51 = .ok (.aload_n 0, 1) := by decide +kernel
theorem dX11_send_52 : decode cX11_send 52 = .ok (.getfield 40, 3) := by decide +kernel
theorem dX11_send_55 : decode cX11_send 55 = .ok (.getfield 175, 3) := by decide +kernel
theorem dX11_send_58 : decode cX11_send 58 = .ok (.iload_n 1, 1) := by decide +kernel
theorem dX11_send_59 : decode cX11_send 59 = .ok (.iload_n 2, 1) := by decide +kernel
theorem dX11_send_60 : decode cX11_send 60 = .ok (.iastore, 1) := by decide +kernel
theorem dX11_send_61 : decode cX11_send 61 = .ok (.aload_n 0, 1) := by decide +kernel
theorem dX11_send_62 : decode cX11_send 62 = .ok (.getfield 50, 3) := by decide +kernel
theorem dX11_send_65 : decode cX11_send 65 = .ok (.aload_n 0, 1) := by decide +kernel
theorem dX11_send_66 : decode cX11_send 66 = .ok (.getfield 40, 3) := by decide +kernel
theorem dX11_send_69 : decode cX11_send 69 = .ok (.invokevirtual 252, 3) := by decide +kernel
theorem dX11_send_72 : decode cX11_send 72 = .ok (.iload_n 3, 1) := by decide +kernel
theorem dX11_send_73 : decode cX11_send 73 = .ok (.ireturn, 1) := by decide +kernel
theorem dX11_call_0 : decode cX11_call 0 = .ok (.aload_n 0, 1) := by decide +kernel
theorem dX11_call_1 : decode cX11_call 1 = .ok (.iload_n 1, 1) := by decide +kernel
theorem dX11_call_2 : decode cX11_call 2 = .ok (.invokevirtual 182, 3) := by decide +kernel
theorem dX11_call_5 : decode cX11_call 5 = .ok (.ifCond .ne 5, 3) := by decide +kernel
theorem dX11_call_8 : decode cX11_call 8 = .ok (.iconst (-1), 1) := by decide +kernel
theorem dX11_call_9 : decode cX11_call 9 = .ok (.ireturn, 1) := by decide +kernel
theorem dX11_call_10 : decode cX11_call 10 = .ok (.aload_n 0, 1) := by decide +kernel
theorem dX11_call_11 : decode cX11_call 11 = .ok (.getfield 40, 3) := by decide +kernel
theorem dX11_call_14 : decode cX11_call 14 = .ok (.getfield 175, 3) := by decide +kernel
theorem dX11_call_17 : decode cX11_call 17 = .ok (.iload_n 1, 1) := by decide +kernel
theorem dX11_call_18 : decode cX11_call 18 = .ok (.iaload, 1) := by decide +kernel
theorem dX11_call_19 : decode cX11_call 19 = .ok (.istore_n 2, 1) := by decide +kernel
theorem dX11_call_20 : decode cX11_call 20 = .ok (.aload_n 0, 1) := by decide +kernel
theorem dX11_call_21 : decode cX11_call 21 = .ok (.getfield 40, 3) := by decide +kernel
theorem dX11_call_24 : decode cX11_call 24 = .ok (.getfield 175, 3) := by decide +kernel
theorem dX11_call_27 : decode cX11_call 27 = .ok (.iload_n 1, 1) := by decide +kernel
theorem dX11_call_28 : decode cX11_call 28 = .ok (.iconst (-1), 1) := by decide +kernel
theorem dX11_call_29 : decode cX11_call 29 = .ok (.iastore, 1) := by decide +kernel
theorem dX11_call_30 : decode cX11_call 30 = .ok (.aload_n 0, 1) := by decide +kernel
theorem dX11_call_31 : decode cX11_call 31 = .ok (.getfield 50, 3) := by decide +kernel
theorem dX11_call_34 : decode cX11_call 34 = .ok (.aload_n 0, 1) := by decide +kernel
theorem dX11_call_35 : decode cX11_call 35 = .ok (.getfield 40, 3) := by decide +kernel
theorem dX11_call_38 : decode cX11_call 38 = .ok (.invokevirtual 252, 3) := by decide +kernel
theorem dX11_call_41 : decode cX11_call 41 = .ok (.iload_n 2, 1) := by decide +kernel
theorem dX11_call_42 : decode cX11_call 42 = .ok (.ireturn, 1) := by decide +kernel
theorem dX11_evening_0 : decode cX11_evening 0 = .ok (.aload_n 0, 1) := by decide +kernel
theorem dX11_evening_1 : decode cX11_evening 1 = .ok (.getfield 40, 3) := by decide +kernel
theorem dX11_evening_4 : decode cX11_evening 4 = .ok (.getfield 221, 3) := by decide +kernel
theorem dX11_evening_7 : decode cX11_evening 7 = .ok (.sipush 999, 3) := by decide +kernel
theorem dX11_evening_10 : decode cX11_evening 10 = .ok (.if_icmp .lt 5, 3) := by decide +kernel
theorem dX11_evening_13 : decode cX11_evening 13 = .ok (.iconst (-1), 1) := by decide +kernel
theorem dX11_evening_14 : decode cX11_evening 14 = .ok (.ireturn, 1) := by decide +kernel
theorem dX11_evening_15 : decode cX11_evening 15 = .ok (.aload_n 0, 1) := by decide +kernel
theorem dX11_evening_16 : decode cX11_evening 16 = .ok (.getfield 40, 3) := by decide +kernel
theorem dX11_evening_19 : decode cX11_evening 19 = .ok (.aload_n 0, 1) := by decide +kernel
theorem dX11_evening_20 : decode cX11_evening 20 = .ok (.getfield 30, 3) := by decide +kernel
theorem dX11_evening_23 : decode cX11_evening 23 = .ok (.invokevirtual 255, 3) := by decide +kernel
theorem dX11_evening_26 : decode cX11_evening 26 = .ok (.istore_n 1, 1) := by decide +kernel
theorem dX11_evening_27 : decode cX11_evening 27 = .ok (.aload_n 0, 1) := by decide +kernel
theorem dX11_evening_28 : decode cX11_evening 28 = .ok (.getfield 40, 3) := by decide +kernel
theorem dX11_evening_31 : decode cX11_evening 31 = .ok (.aload_n 0, 1) := by decide +kernel
theorem dX11_evening_32 : decode cX11_evening 32 = .ok (.getfield 30, 3) := by decide +kernel
theorem dX11_evening_35 : decode cX11_evening 35 = .ok (.iload_n 1, 1) := by decide +kernel
theorem dX11_evening_36 : decode cX11_evening 36 = .ok (.invokevirtual 258, 3) := by decide +kernel
theorem dX11_evening_39 : decode cX11_evening 39 = .ok (.aload_n 0, 1) := by decide +kernel
theorem dX11_evening_40 : decode cX11_evening 40 = .ok (.getfield 50, 3) := by decide +kernel
theorem dX11_evening_43 : decode cX11_evening 43 = .ok (.aload_n 0, 1) := by decide +kernel
theorem dX11_evening_44 : decode cX11_evening 44 = .ok (.getfield 40, 3) := by decide +kernel
theorem dX11_evening_47 : decode cX11_evening 47 = .ok (.invokevirtual 252, 3) := by decide +kernel
theorem dX11_evening_50 : decode cX11_evening 50 = .ok (.iload_n 1, 1) := by decide +kernel
theorem dX11_evening_51 : decode cX11_evening 51 = .ok (.ireturn, 1) := by decide +kernel
theorem dX11_undo_0 : decode cX11_undo 0 = .ok (.aload_n 0, 1) := by decide +kernel
theorem dX11_undo_1 : decode cX11_undo 1 = .ok (.getfield 50, 3) := by decide +kernel
theorem dX11_undo_4 : decode cX11_undo 4 = .ok (.aload_n 0, 1) := by decide +kernel
theorem dX11_undo_5 : decode cX11_undo 5 = .ok (.getfield 40, 3) := by decide +kernel
theorem dX11_undo_8 : decode cX11_undo 8 = .ok (.invokevirtual 262, 3) := by decide +kernel
theorem dX11_undo_11 : decode cX11_undo 11 = .ok (.ireturn, 1) := by decide +kernel
theorem dX11_redo_0 : decode cX11_redo 0 = .ok (.aload_n 0, 1) := by decide +kernel
theorem dX11_redo_1 : decode cX11_redo 1 = .ok (.getfield 50, 3) := by decide +kernel
theorem dX11_redo_4 : decode cX11_redo 4 = .ok (.aload_n 0, 1) := by decide +kernel
theorem dX11_redo_5 : decode cX11_redo 5 = .ok (.getfield 40, 3) := by decide +kernel
theorem dX11_redo_8 : decode cX11_redo 8 = .ok (.invokevirtual 266, 3) := by decide +kernel
theorem dX11_redo_11 : decode cX11_redo 11 = .ok (.ireturn, 1) := by decide +kernel
theorem dX11_image_0 : decode cX11_image 0 = .ok (.iload_n 1, 1) := by decide +kernel
theorem dX11_image_1 : decode cX11_image 1 = .ok (.ifCond .lt 8, 3) := by decide +kernel
theorem dX11_image_4 : decode cX11_image 4 = .ok (.iload_n 1, 1) := by decide +kernel
theorem dX11_image_5 : decode cX11_image 5 = .ok (.iconst 3, 1) := by decide +kernel
theorem dX11_image_6 : decode cX11_image 6 = .ok (.if_icmp .lt 5, 3) := by decide +kernel
theorem dX11_image_9 : decode cX11_image 9 = .ok (.iconst (-1), 1) := by decide +kernel
theorem dX11_image_10 : decode cX11_image 10 = .ok (.ireturn, 1) := by decide +kernel
theorem dX11_image_11 : decode cX11_image 11 = .ok (.aload_n 0, 1) := by decide +kernel
theorem dX11_image_12 : decode cX11_image 12 = .ok (.getfield 40, 3) := by decide +kernel
theorem dX11_image_15 : decode cX11_image 15 = .ok (.aload_n 0, 1) := by decide +kernel
theorem dX11_image_16 : decode cX11_image 16 = .ok (.getfield 54, 3) := by decide +kernel
theorem dX11_image_19 : decode cX11_image 19 = .ok (.iload_n 1, 1) := by decide +kernel
theorem dX11_image_20 : decode cX11_image 20 = .ok (.bipush 22, 2) := by decide +kernel
theorem dX11_image_22 : decode cX11_image 22 = .ok (.imul, 1) := by decide +kernel
theorem dX11_image_23 : decode cX11_image 23 = .ok (.invokevirtual 269, 3) := by decide +kernel
theorem dX11_image_26 : decode cX11_image 26 = .ok (.aload_n 0, 1) := by decide +kernel
theorem dX11_image_27 : decode cX11_image 27 = .ok (.getfield 58, 3) := by decide +kernel
theorem dX11_image_30 : decode cX11_image 30 = .ok (.iload_n 1, 1) := by decide +kernel
theorem dX11_image_31 : decode cX11_image 31 = .ok (.iconst 1, 1) := by decide +kernel
theorem dX11_image_32 : decode cX11_image 32 = .ok (.bastore, 1) := by decide +kernel
theorem dX11_image_33 : decode cX11_image 33 = .ok (.aload_n 0, 1) := by decide +kernel
theorem dX11_image_34 : decode cX11_image 34 = .ok (.getfield 40, 3) := by decide +kernel
theorem dX11_image_37 : decode cX11_image 37 = .ok (.getfield 221, 3) := by decide +kernel
theorem dX11_image_40 : decode cX11_image 40 = .ok (.ireturn, 1) := by decide +kernel
theorem dX11_back_0 : decode cX11_back 0 = .ok (.iload_n 1, 1) := by decide +kernel
theorem dX11_back_1 : decode cX11_back 1 = .ok (.ifCond .lt 17, 3) := by decide +kernel
theorem dX11_back_4 : decode cX11_back 4 = .ok (.iload_n 1, 1) := by decide +kernel
theorem dX11_back_5 : decode cX11_back 5 = .ok (.iconst 3, 1) := by decide +kernel
theorem dX11_back_6 : decode cX11_back 6 = .ok (.if_icmp .ge 12, 3) := by decide +kernel
theorem dX11_back_9 : decode cX11_back 9 = .ok (.aload_n 0, 1) := by decide +kernel
theorem dX11_back_10 : decode cX11_back 10 = .ok (.getfield 58, 3) := by decide +kernel
theorem dX11_back_13 : decode cX11_back 13 = .ok (.iload_n 1, 1) := by decide +kernel
theorem dX11_back_14 : decode cX11_back 14 = .ok (.baload, 1) := by decide +kernel
theorem dX11_back_15 : decode cX11_back 15 = .ok (.ifCond .ne 5, 3) := by decide +kernel
theorem dX11_back_18 : decode cX11_back 18 = .ok (.iconst (-1), 1) := by decide +kernel
theorem dX11_back_19 : decode cX11_back 19 = .ok (.ireturn, 1) := by decide +kernel
theorem dX11_back_20 : decode cX11_back 20 = .ok (.aload_n 0, 1) := by decide +kernel
theorem dX11_back_21 : decode cX11_back 21 = .ok (.getfield 40, 3) := by decide +kernel
theorem dX11_back_24 : decode cX11_back 24 = .ok (.aload_n 0, 1) := by decide +kernel
theorem dX11_back_25 : decode cX11_back 25 = .ok (.getfield 54, 3) := by decide +kernel
theorem dX11_back_28 : decode cX11_back 28 = .ok (.iload_n 1, 1) := by decide +kernel
theorem dX11_back_29 : decode cX11_back 29 = .ok (.bipush 22, 2) := by decide +kernel
theorem dX11_back_31 : decode cX11_back 31 = .ok (.imul, 1) := by decide +kernel
theorem dX11_back_32 : decode cX11_back 32 = .ok (.invokevirtual 273, 3) := by decide +kernel
theorem dX11_back_35 : decode cX11_back 35 = .ok (.aload_n 0, 1) := by decide +kernel
theorem dX11_back_36 : decode cX11_back 36 = .ok (.getfield 50, 3) := by decide +kernel
theorem dX11_back_39 : decode cX11_back 39 = .ok (.aload_n 0, 1) := by decide +kernel
theorem dX11_back_40 : decode cX11_back 40 = .ok (.getfield 40, 3) := by decide +kernel
theorem dX11_back_43 : decode cX11_back 43 = .ok (.invokevirtual 103, 3) := by decide +kernel
theorem dX11_back_46 : decode cX11_back 46 = .ok (.aload_n 0, 1) := by decide +kernel
theorem dX11_back_47 : decode cX11_back 47 = .ok (.getfield 40, 3) := by decide +kernel
theorem dX11_back_50 : decode cX11_back 50 = .ok (.getfield 221, 3) := by decide +kernel
theorem dX11_back_53 : decode cX11_back 53 = .ok (.ireturn, 1) := by decide +kernel
theorem dX11_round_0 : decode cX11_round 0 = .ok (.iload_n 1, 1) := by decide +kernel
theorem dX11_round_1 : decode cX11_round 1 = .ok (.ifCond .lt 8, 3) := by decide +kernel
theorem dX11_round_4 : decode cX11_round 4 = .ok (.iload_n 1, 1) := by decide +kernel
theorem dX11_round_5 : decode cX11_round 5 = .ok (.iconst 1, 1) := by decide +kernel
theorem dX11_round_6 : decode cX11_round 6 = .ok (.if_icmp .le 5, 3) := by decide +kernel
theorem dX11_round_9 : decode cX11_round 9 = .ok (.iconst (-1), 1) := by decide +kernel
theorem dX11_round_10 : decode cX11_round 10 = .ok (.ireturn, 1) := by decide +kernel
theorem dX11_round_11 : decode cX11_round 11 = .ok (.aload_n 0, 1) := by decide +kernel
theorem dX11_round_12 : decode cX11_round 12 = .ok (.getfield 65, 3) := by decide +kernel
theorem dX11_round_15 : decode cX11_round 15 = .ok (.aload_n 0, 1) := by decide +kernel
theorem dX11_round_16 : decode cX11_round 16 = .ok (.getfield 30, 3) := by decide +kernel
theorem dX11_round_19 : decode cX11_round 19 = .ok (.aload_n 0, 1) := by decide +kernel
theorem dX11_round_20 : decode cX11_round 20 = .ok (.getfield 40, 3) := by decide +kernel
theorem dX11_round_23 : decode cX11_round 23 = .ok (.iconst 0, 1) := by decide +kernel
theorem dX11_round_24 : decode cX11_round 24 = .ok (.invokevirtual 276, 3) := by decide +kernel
theorem dX11_round_27 : decode cX11_round 27 = .ok (.pop, 1) := by decide +kernel
theorem dX11_round_28 : decode cX11_round 28 = .ok (.aload_n 0, 1) := by decide +kernel
theorem dX11_round_29 : decode cX11_round 29 = .ok (.invokevirtual 280, 3) := by decide +kernel
theorem dX11_round_32 : decode cX11_round 32 = .ok (.iload_n 1, 1) := by decide +kernel
theorem dX11_round_33 : decode cX11_round 33 = .ok (.ifCond .ne 13, 3) := by decide +kernel
theorem dX11_round_36 : decode cX11_round 36 = .ok (.aload_n 0, 1) := by decide +kernel
theorem dX11_round_37 : decode cX11_round 37 = .ok (.getfield 65, 3) := by decide +kernel
theorem dX11_round_40 : decode cX11_round 40 = .ok (.getfield 283, 3) := by decide +kernel
theorem dX11_round_43 : decode cX11_round 43 = .ok (.goto 10, 3) := by decide +kernel
theorem dX11_round_46 : decode cX11_round 46 = .ok (.aload_n 0, 1) := by decide +kernel
theorem dX11_round_47 : decode cX11_round 47 = .ok (.getfield 65, 3) := by decide +kernel
theorem dX11_round_50 : decode cX11_round 50 = .ok (.getfield 285, 3) := by decide +kernel
theorem dX11_round_53 : decode cX11_round 53 = .ok (.ireturn, 1) := by decide +kernel
theorem dX11_service_0 : decode cX11_service 0 = .ok (.aload_n 0, 1) := by decide +kernel
theorem dX11_service_1 : decode cX11_service 1 = .ok (.iconst 0, 1) := by decide +kernel
theorem dX11_service_2 : decode cX11_service 2 = .ok (.putfield 89, 3) := by decide +kernel
theorem dX11_service_5 : decode cX11_service 5 = .ok (.aload_n 0, 1) := by decide +kernel
theorem dX11_service_6 : decode cX11_service 6 = .ok (.getfield 65, 3) := by decide +kernel
theorem dX11_service_9 : decode cX11_service 9 = .ok (.aload_n 0, 1) := by decide +kernel
theorem dX11_service_10 : decode cX11_service 10 = .ok (.getfield 30, 3) := by decide +kernel
theorem dX11_service_13 : decode cX11_service 13 = .ok (.aload_n 0, 1) := by decide +kernel
theorem dX11_service_14 : decode cX11_service 14 = .ok (.getfield 40, 3) := by decide +kernel
theorem dX11_service_17 : decode cX11_service 17 = .ok (.iconst 1, 1) := by decide +kernel
theorem dX11_service_18 : decode cX11_service 18 = .ok (.invokevirtual 276, 3) := by decide +kernel
theorem dX11_service_21 : decode cX11_service 21 = .ok (.ifCond .ne 5, 3) := by decide +kernel
theorem dX11_service_24 : decode cX11_service 24 = .ok (.iconst (-1), 1) := by decide +kernel
theorem dX11_service_25 : decode cX11_service 25 = .ok (.ireturn, 1) := by decide +kernel
theorem dX11_service_26 : decode cX11_service 26 = .ok (.aload_n 0, 1) := by decide +kernel
theorem dX11_service_27 : decode cX11_service 27 = .ok (.invokevirtual 280, 3) := by decide +kernel
theorem dX11_service_30 : decode cX11_service 30 = .ok (.aload_n 0, 1) := by decide +kernel
theorem dX11_service_31 : decode cX11_service 31 = .ok (.getfield 65, 3) := by decide +kernel
theorem dX11_service_34 : decode cX11_service 34 = .ok (.getfield 285, 3) := by decide +kernel
theorem dX11_service_37 : decode cX11_service 37 = .ok (.ireturn, 1) := by decide +kernel
theorem dX11_team_0 : decode cX11_team 0 = .ok (.aload_n 0, 1) := by decide +kernel
theorem dX11_team_1 : decode cX11_team 1 = .ok (.getfield 30, 3) := by decide +kernel
theorem dX11_team_4 : decode cX11_team 4 = .ok (.iload_n 1, 1) := by decide +kernel
theorem dX11_team_5 : decode cX11_team 5 = .ok (.invokevirtual 135, 3) := by decide +kernel
theorem dX11_team_8 : decode cX11_team 8 = .ok (.ifCond .eq 12, 3) := by decide +kernel
theorem dX11_team_11 : decode cX11_team 11 = .ok (.iload_n 2, 1) := by decide +kernel
theorem dX11_team_12 : decode cX11_team 12 = .ok (.ifCond .lt 8, 3) := by decide +kernel
theorem dX11_team_15 : decode cX11_team 15 = .ok (.iload_n 2, 1) := by decide +kernel
theorem dX11_team_16 : decode cX11_team 16 = .ok (.iconst 1, 1) := by decide +kernel
theorem dX11_team_17 : decode cX11_team 17 = .ok (.if_icmp .le 5, 3) := by decide +kernel
theorem dX11_team_20 : decode cX11_team 20 = .ok (.iconst (-1), 1) := by decide +kernel
theorem dX11_team_21 : decode cX11_team 21 = .ok (.ireturn, 1) := by decide +kernel
theorem dX11_team_22 : decode cX11_team 22 = .ok (.iconst 0, 1) := by decide +kernel
theorem dX11_team_23 : decode cX11_team 23 = .ok (.istore_n 3, 1) := by decide +kernel
theorem dX11_team_24 : decode cX11_team 24 = .ok (.iconst 1, 1) := by decide +kernel
theorem dX11_team_25 : decode cX11_team 25 = .ok (.istore 4, 2) := by decide +kernel
theorem dX11_team_27 : decode cX11_team 27 = .ok (.iload 4, 2) := by decide +kernel
theorem dX11_team_29 : decode cX11_team 29 = .ok (.iconst 1, 1) := by decide +kernel
theorem dX11_team_30 : decode cX11_team 30 = .ok (.aload_n 0, 1) := by decide +kernel
theorem dX11_team_31 : decode cX11_team 31 = .ok (.getfield 30, 3) := by decide +kernel
theorem dX11_team_34 : decode cX11_team 34 = .ok (.getfield 132, 3) := by decide +kernel
theorem dX11_team_37 : decode cX11_team 37 = .ok (.ishl, 1) := by decide +kernel
theorem dX11_team_38 : decode cX11_team 38 = .ok (.if_icmp .ge 50, 3) := by decide +kernel
theorem dX11_team_41 : decode cX11_team 41 = .ok (.iload_n 3, 1) := by decide +kernel
theorem dX11_team_42 : decode cX11_team 42 = .ok (.ifCond .eq 15, 3) := by decide +kernel
theorem dX11_team_45 : decode cX11_team 45 = .ok (.iload 4, 2) := by decide +kernel
theorem dX11_team_47 : decode cX11_team 47 = .ok (.invokestatic 185, 3) := by decide +kernel
theorem dX11_team_50 : decode cX11_team 50 = .ok (.iload_n 3, 1) := by decide +kernel
theorem dX11_team_51 : decode cX11_team 51 = .ok (.invokestatic 185, 3) := by decide +kernel
theorem dX11_team_54 : decode cX11_team 54 = .ok (.if_icmp .ge 7, 3) := by decide +kernel
theorem dX11_team_57 : decode cX11_team 57 = .ok (.iconst 1, 1) := by decide +kernel
theorem dX11_team_58 : decode cX11_team 58 = .ok (.goto 4, 3) := by decide +kernel
theorem dX11_team_61 : decode cX11_team 61 = .ok (.iconst 0, 1) := by decide +kernel
theorem dX11_team_62 : decode cX11_team 62 = .ok (.istore 5, 2) := by decide +kernel
theorem dX11_team_64 : decode cX11_team 64 = .ok (.iload 5, 2) := by decide +kernel
theorem dX11_team_66 : decode cX11_team 66 = .ok (.ifCond .eq 16, 3) := by decide +kernel
theorem dX11_team_69 : decode cX11_team 69 = .ok (.aload_n 0, 1) := by decide +kernel
theorem dX11_team_70 : decode cX11_team 70 = .ok (.iload_n 1, 1) := by decide +kernel
theorem dX11_team_71 : decode cX11_team 71 = .ok (.iload 4, 2) := by decide +kernel
theorem dX11_team_73 : decode cX11_team 73 = .ok (.invokevirtual 288, 3) := by decide +kernel
theorem dX11_team_76 : decode cX11_team 76 = .ok (.ifCond .eq 6, 3) := by decide +kernel
theorem dX11_team_79 : decode cX11_team 79 = .ok (.iload 4, 2) := by decide +kernel
theorem dX11_team_81 : decode cX11_team 81 = .ok (.istore_n 3, 1) := by decide +kernel
theorem dX11_team_82 : decode cX11_team 82 = .ok (.iinc 4 1, 3) := by decide +kernel
theorem dX11_team_85 : decode cX11_team 85 = .ok (.goto (-58), 3) := by decide +kernel
theorem dX11_team_88 : decode cX11_team 88 = .ok (.iload_n 3, 1) := by decide +kernel
theorem dX11_team_89 : decode cX11_team 89 = .ok (.ifCond .ne 5, 3) := by decide +kernel
theorem dX11_team_92 : decode cX11_team 92 = .ok (.iconst (-1), 1) := by decide +kernel
theorem dX11_team_93 : decode cX11_team 93 = .ok (.ireturn, 1) := by decide +kernel
theorem dX11_team_94 : decode cX11_team 94 = .ok (.iload_n 2, 1) := by decide +kernel
theorem dX11_team_95 : decode cX11_team 95 = .ok (.ifCond .ne 10, 3) := by decide +kernel
theorem dX11_team_98 : decode cX11_team 98 = .ok (.iload_n 3, 1) := by decide +kernel
theorem dX11_team_99 : decode cX11_team 99 = .ok (.invokestatic 185, 3) := by decide +kernel
theorem dX11_team_102 : decode cX11_team 102 = .ok (.goto 4, 3) := by decide +kernel
theorem dX11_team_105 : decode cX11_team 105 = .ok (.iload_n 3, 1) := by decide +kernel
theorem dX11_team_106 : decode cX11_team 106 = .ok (.ireturn, 1) := by decide +kernel
theorem dX11_change_0 : decode cX11_change 0 = .ok (.iload_n 1, 1) := by decide +kernel
theorem dX11_change_1 : decode cX11_change 1 = .ok (.ifCond .lt 8, 3) := by decide +kernel
theorem dX11_change_4 : decode cX11_change 4 = .ok (.iload_n 1, 1) := by decide +kernel
theorem dX11_change_5 : decode cX11_change 5 = .ok (.iconst 2, 1) := by decide +kernel
theorem dX11_change_6 : decode cX11_change 6 = .ok (.if_icmp .le 5, 3) := by decide +kernel
theorem dX11_change_9 : decode cX11_change 9 = .ok (.iconst (-1), 1) := by decide +kernel
theorem dX11_change_10 : decode cX11_change 10 = .ok (.ireturn, 1) := by decide +kernel
theorem dX11_change_11 : decode cX11_change 11 = .ok (.aload_n 0, 1) := by decide +kernel
theorem dX11_change_12 : decode cX11_change 12 = .ok (.getfield 40, 3) := by decide +kernel
theorem dX11_change_15 : decode cX11_change 15 = .ok (.aload_n 0, 1) := by decide +kernel
theorem dX11_change_16 : decode cX11_change 16 = .ok (.getfield 30, 3) := by decide +kernel
theorem dX11_change_19 : decode cX11_change 19 = .ok (.iconst 0, 1) := by decide +kernel
theorem dX11_change_20 : decode cX11_change 20 = .ok (.invokevirtual 194, 3) := by decide +kernel
theorem dX11_change_23 : decode cX11_change 23 = .ok (.invokestatic 185, 3) := by decide +kernel
theorem dX11_change_26 : decode cX11_change 26 = .ok (.istore_n 2, 1) := by decide +kernel
theorem dX11_change_27 : decode cX11_change 27 = .ok (.iconst (-1), 1) := by decide +kernel
theorem dX11_change_28 : decode cX11_change 28 = .ok (.istore_n 3, 1) := by decide +kernel
theorem dX11_change_29 : decode cX11_change 29 = .ok (.iconst (-1), 1) := by decide +kernel
theorem dX11_change_30 : decode cX11_change 30 = .ok (.istore 4, 2) := by decide +kernel
theorem dX11_change_32 : decode cX11_change 32 = .ok (.iconst 0, 1) := by decide +kernel
theorem dX11_change_33 : decode cX11_change 33 = .ok (.istore 5, 2) := by decide +kernel
theorem dX11_change_35 : decode cX11_change 35 = .ok (.iload 5, 2) := by decide +kernel
theorem dX11_change_37 : decode cX11_change 37 = .ok (.aload_n 0, 1) := by decide +kernel
theorem dX11_change_38 : decode cX11_change 38 = .ok (.getfield 30, 3) := by decide +kernel
theorem dX11_change_41 : decode cX11_change 41 = .ok (.getfield 132, 3) := by decide +kernel
theorem dX11_change_44 : decode cX11_change 44 = .ok (.if_icmp .ge 59, 3) := by decide +kernel
theorem dX11_change_47 : decode cX11_change 47 = .ok (.iload 5, 2) := by decide +kernel
theorem dX11_change_49 : decode cX11_change 49 = .ok (.iconst 1, 1) := by decide +kernel
theorem dX11_change_50 : decode cX11_change 50 = .ok (.iadd, 1) := by decide +kernel
theorem dX11_change_51 : decode cX11_change 51 = .ok (.istore 6, 2) := by decide +kernel
theorem dX11_change_53 : decode cX11_change 53 = .ok (.iload 6, 2) := by decide +kernel
theorem dX11_change_55 : decode cX11_change 55 = .ok (.aload_n 0, 1) := by decide +kernel
theorem dX11_change_56 : decode cX11_change 56 = .ok (.getfield 30, 3) := by decide +kernel
theorem dX11_change_59 : decode cX11_change 59 = .ok (.getfield 132, 3) := by decide +kernel
theorem dX11_change_62 : decode cX11_change 62 = .ok (.if_icmp .ge 35, 3) := by decide +kernel
theorem dX11_change_65 : decode cX11_change 65 = .ok (.aload_n 0, 1) := by decide +kernel
theorem dX11_change_66 : decode cX11_change 66 = .ok (.iload 5, 2) := by decide +kernel
theorem dX11_change_68 : decode cX11_change 68 = .ok (.iload 6, 2) := by decide +kernel
theorem dX11_change_70 : decode cX11_change 70 = .ok (.invokevirtual 292, 3) := by decide +kernel
theorem dX11_change_73 : decode cX11_change 73 = .ok (.istore 7, 2) := by decide +kernel
theorem dX11_change_75 : decode cX11_change 75 = .ok (.iload 7, 2) := by decide +kernel
theorem dX11_change_77 : decode cX11_change 77 = .ok (.iload_n 2, 1) := by decide +kernel
theorem dX11_change_78 : decode cX11_change 78 = .ok (.if_icmp .le 13, 3) := by decide +kernel
theorem dX11_change_81 : decode cX11_change 81 = .ok (.iload 7, 2) := by decide +kernel
theorem dX11_change_83 : decode cX11_change 83 = .ok (.istore_n 2, 1) := by decide +kernel
theorem dX11_change_84 : decode cX11_change 84 = .ok (.iload 5, 2) := by decide +kernel
theorem dX11_change_86 : decode cX11_change 86 = .ok (.istore_n 3, 1) := by decide +kernel
theorem dX11_change_87 : decode cX11_change 87 = .ok (.iload 6, 2) := by decide +kernel
theorem dX11_change_89 : decode cX11_change 89 = .ok (.istore 4, 2) := by decide +kernel
theorem dX11_change_91 : decode cX11_change 91 = .ok (.iinc 6 1, 3) := by decide +kernel
theorem dX11_change_94 : decode cX11_change 94 = .ok (.goto (-41), 3) := by decide +kernel
theorem dX11_change_97 : decode cX11_change 97 = .ok (.iinc 5 1, 3) := by decide +kernel
theorem dX11_change_100 : decode cX11_change 100 = .ok (.goto (-65), 3) := by decide +kernel
theorem dX11_change_103 : decode cX11_change 103 = .ok (.iload_n 3, 1) := by decide +kernel
theorem dX11_change_104 : decode cX11_change 104 = .ok (.iconst (-1), 1) := by decide +kernel
theorem dX11_change_105 : decode cX11_change 105 = .ok (.if_icmp .eq 7, 3) := by decide +kernel
theorem dX11_change_108 : decode cX11_change 108 = .ok (.iload_n 1, 1) := by decide +kernel
theorem dX11_change_109 : decode cX11_change 109 = .ok (.ifCond .ne 5, 3) := by decide +kernel
theorem dX11_change_112 : decode cX11_change 112 = .ok (.iload_n 3, 1) := by decide +kernel
theorem dX11_change_113 : decode cX11_change 113 = .ok (.ireturn, 1) := by decide +kernel
theorem dX11_change_114 : decode cX11_change 114 = .ok (.iload_n 1, 1) := by decide +kernel
theorem dX11_change_115 : decode cX11_change 115 = .ok (.iconst 1, 1) := by decide +kernel
theorem dX11_change_116 : decode cX11_change 116 = .ok (.if_icmp .ne 8, 3) := by decide +kernel
theorem dX11_change_119 : decode cX11_change 119 = .ok (.iload 4, 2) := by decide +kernel
theorem dX11_change_121 : decode cX11_change 121 = .ok (.goto 4, 3) := by decide +kernel
theorem dX11_change_124 : decode cX11_change 124 = .ok (.iload_n 2, 1) := by decide +kernel
theorem dX11_change_125 : decode cX11_change 125 = .ok (.ireturn, 1) := by decide +kernel
theorem dX11_guests_0 : decode cX11_guests 0 = .ok (.aload_n 0, 1) := by decide +kernel
theorem dX11_guests_1 : decode cX11_guests 1 = .ok (.iconst 0, 1) := by decide +kernel
theorem dX11_guests_2 : decode cX11_guests 2 = .ok (.putfield 89, 3) := by decide +kernel
theorem dX11_guests_5 : decode cX11_guests 5 = .ok (.aload_n 0, 1) := by decide +kernel
theorem dX11_guests_6 : decode cX11_guests 6 = .ok (.getfield 30, 3) := by decide +kernel
theorem dX11_guests_9 : decode cX11_guests 9 = .ok (.iload_n 1, 1) := by decide +kernel
theorem dX11_guests_10 : decode cX11_guests 10 = .ok (.invokevirtual 157, 3) := by decide +kernel
theorem dX11_guests_13 : decode cX11_guests 13 = .ok (.ifCond .eq 29, 3) := by decide +kernel
theorem dX11_guests_16 : decode cX11_guests 16 = .ok (.aload_n 0, 1) := by decide +kernel
theorem dX11_guests_17 : decode cX11_guests 17 = .ok (.getfield 30, 3) := by decide +kernel
theorem dX11_guests_20 : decode cX11_guests 20 = .ok (.iload_n 2, 1) := by decide +kernel
theorem dX11_guests_21 : decode cX11_guests 21 = .ok (.invokevirtual 157, 3) := by decide +kernel
theorem dX11_guests_24 : decode cX11_guests 24 = .ok (.ifCond .eq 18, 3) := by decide +kernel
theorem dX11_guests_27 : decode cX11_guests 27 = .ok (.iload_n 1, 1) := by decide +kernel
theorem dX11_guests_28 : decode cX11_guests 28 = .ok (.iload_n 2, 1) := by decide +kernel
theorem dX11_guests_29 : decode cX11_guests 29 = .ok (.if_icmp .eq 13, 3) := by decide +kernel
theorem dX11_guests_32 : decode cX11_guests 32 = .ok (.aload_n 0, 1) := by decide +kernel
theorem dX11_guests_33 : decode cX11_guests 33 = .ok (.getfield 30, 3) := by decide +kernel
theorem dX11_guests_36 : decode cX11_guests 36 = .ok (.getfield 212, 3) := by decide +kernel
theorem dX11_guests_39 : decode cX11_guests 39 = .ok (.ifCond .ne 5, 3) := by decide +kernel
theorem dX11_guests_42 : decode cX11_guests 42 = .ok (.iconst (-1), 1) := by decide +kernel
theorem dX11_guests_43 : decode cX11_guests 43 = .ok (.ireturn, 1) := by decide +kernel
theorem dX11_guests_44 : decode cX11_guests 44 = .ok (.aload_n 0, 1) := by decide +kernel
theorem dX11_guests_45 : decode cX11_guests 45 = .ok (.getfield 72, 3) := by decide +kernel
theorem dX11_guests_48 : decode cX11_guests 48 = .ok (.aload_n 0, 1) := by decide +kernel
theorem dX11_guests_49 : decode cX11_guests 49 = .ok (.getfield 30, 3) := by decide +kernel
theorem dX11_guests_52 : decode cX11_guests 52 = .ok (.aload_n 0, 1) := by decide +kernel
theorem dX11_guests_53 : decode cX11_guests 53 = .ok (.getfield 40, 3) := by decide +kernel
theorem dX11_guests_56 : decode cX11_guests 56 = .ok (.iload_n 1, 1) := by decide +kernel
theorem dX11_guests_57 : decode cX11_guests 57 = .ok (.iload_n 2, 1) := by decide +kernel
theorem dX11_guests_58 : decode cX11_guests 58 = .ok (.invokevirtual 295, 3) := by decide +kernel
theorem dX11_guests_61 : decode cX11_guests 61 = .ok (.istore_n 3, 1) := by decide +kernel
theorem dX11_guests_62 : decode cX11_guests 62 = .ok (.iload_n 3, 1) := by decide +kernel
theorem dX11_guests_63 : decode cX11_guests 63 = .ok (.ifCond .le 34, 3) := by decide +kernel
theorem dX11_guests_66 : decode cX11_guests 66 = .ok (.aload_n 0, 1) := by decide +kernel
theorem dX11_guests_67 : decode cX11_guests 67 = .ok (.getfield 86, 3) := by decide +kernel
theorem dX11_guests_70 : decode cX11_guests 70 = .ok (.iconst 0, 1) := by decide +kernel
theorem dX11_guests_71 : decode cX11_guests 71 = .ok (.aload_n 0, 1) := by decide +kernel
theorem dX11_guests_72 : decode cX11_guests 72 = .ok (.getfield 72, 3) := by decide +kernel
theorem dX11_guests_75 : decode cX11_guests 75 = .ok (.getfield 299, 3) := by decide +kernel
theorem dX11_guests_78 : decode cX11_guests 78 = .ok (.iastore, 1) := by decide +kernel
theorem dX11_guests_79 : decode cX11_guests 79 = .ok (.aload_n 0, 1) := by decide +kernel
theorem dX11_guests_80 : decode cX11_guests 80 = .ok (.getfield 86, 3) := by decide +kernel
theorem dX11_guests_83 : decode cX11_guests 83 = .ok (.iconst 1, 1) := by decide +kernel
theorem dX11_guests_84 : decode cX11_guests 84 = .ok (.aload_n 0, 1) := by decide +kernel
theorem dX11_guests_85 : decode cX11_guests 85 = .ok (.getfield 72, 3) := by decide +kernel
theorem dX11_guests_88 : decode cX11_guests 88 = .ok (.getfield 302, 3) := by decide +kernel
theorem dX11_guests_91 : decode cX11_guests 91 = .ok (.iastore, 1) := by decide +kernel
theorem dX11_guests_92 : decode cX11_guests 92 = .ok (.aload_n 0, 1) := by decide +kernel
theorem dX11_guests_93 : decode cX11_guests 93 = .ok (.iconst 2, 1) := by decide +kernel
theorem dX11_guests_94 : decode cX11_guests 94 = .ok (.putfield 89, 3) := by decide +kernel
theorem dX11_guests_97 : decode cX11_guests 97 = .ok (.iload_n 3, 1) := by decide +kernel
theorem dX11_guests_98 : decode cX11_guests 98 = .ok (.ireturn, 1) := by decide +kernel
theorem dX11_lies_0 : decode cX11_lies 0 = .ok (.iload_n 1, 1) := by decide +kernel
theorem dX11_lies_1 : decode cX11_lies 1 = .ok (.ifCond .lt 20, 3) := by decide +kernel
theorem dX11_lies_4 : decode cX11_lies 4 = .ok (.iload_n 1, 1) := by decide +kernel
theorem dX11_lies_5 : decode cX11_lies 5 = .ok (.aload_n 0, 1) := by decide +kernel
theorem dX11_lies_6 : decode cX11_lies 6 = .ok (.getfield 89, 3) := by decide +kernel
theorem dX11_lies_9 : decode cX11_lies 9 = .ok (.if_icmp .ge 12, 3) := by decide +kernel
theorem dX11_lies_12 : decode cX11_lies 12 = .ok (.aload_n 0, 1) := by decide +kernel
theorem dX11_lies_13 : decode cX11_lies 13 = .ok (.getfield 86, 3) := by decide +kernel
theorem dX11_lies_16 : decode cX11_lies 16 = .ok (.iload_n 1, 1) := by decide +kernel
theorem dX11_lies_17 : decode cX11_lies 17 = .ok (.iaload, 1) := by decide +kernel
theorem dX11_lies_18 : decode cX11_lies 18 = .ok (.goto 5, 3) := by decide +kernel
theorem dX11_lies_21 : decode cX11_lies 21 = .ok (.bipush (-2), 2) := by decide +kernel
theorem dX11_lies_23 : decode cX11_lies 23 = .ok (.ireturn, 1) := by decide +kernel
theorem dX11_cover_0 : decode cX11_cover 0 = .ok (.iload_n 1, 1) := by decide +kernel
theorem dX11_cover_1 : decode cX11_cover 1 = .ok (.ifCond .lt 8, 3) := by decide +kernel
theorem dX11_cover_4 : decode cX11_cover 4 = .ok (.iload_n 1, 1) := by decide +kernel
theorem dX11_cover_5 : decode cX11_cover 5 = .ok (.iconst 1, 1) := by decide +kernel
theorem dX11_cover_6 : decode cX11_cover 6 = .ok (.if_icmp .le 5, 3) := by decide +kernel
theorem dX11_cover_9 : decode cX11_cover 9 = .ok (.iconst (-1), 1) := by decide +kernel
theorem dX11_cover_10 : decode cX11_cover 10 = .ok (.ireturn, 1) := by decide +kernel
theorem dX11_cover_11 : decode cX11_cover 11 = .ok (.aload_n 0, 1) := by decide +kernel
theorem dX11_cover_12 : decode cX11_cover 12 = .ok (.invokevirtual 305, 3) := by decide +kernel
theorem dX11_cover_15 : decode cX11_cover 15 = .ok (.iconst 1, 1) := by decide +kernel
theorem dX11_cover_16 : decode cX11_cover 16 = .ok (.aload_n 0, 1) := by decide +kernel
theorem dX11_cover_17 : decode cX11_cover 17 = .ok (.getfield 30, 3) := by decide +kernel
theorem dX11_cover_20 : decode cX11_cover 20 = .ok (.getfield 212, 3) := by decide +kernel
theorem dX11_cover_23 : decode cX11_cover 23 = .ok (.ishl, 1) := by decide +kernel
theorem dX11_cover_24 : decode cX11_cover 24 = .ok (.iconst 1, 1) := by decide +kernel
theorem dX11_cover_25 : decode cX11_cover 25 = .ok (.isub, 1) := by decide +kernel
theorem dX11_cover_26 : decode cX11_cover 26 = .ok (.istore_n 2, 1) := by decide +kernel
theorem dX11_cover_27 : decode cX11_cover 27 = .ok (.iconst 0, 1) := by decide +kernel
theorem dX11_cover_28 : decode cX11_cover 28 = .ok (.istore_n 3, 1) := by decide +kernel
theorem dX11_cover_29 : decode cX11_cover 29 = .ok (.iload_n 3, 1) := by decide +kernel
theorem dX11_cover_30 : decode cX11_cover 30 = .ok (.iconst 1, 1) := by decide +kernel
theorem dX11_cover_31 : decode cX11_cover 31 = .ok (.aload_n 0, 1) := by decide +kernel
theorem dX11_cover_32 : decode cX11_cover 32 = .ok (.getfield 30, 3) := by decide +kernel
theorem dX11_cover_35 : decode cX11_cover 35 = .ok (.getfield 212, 3) := by decide +kernel
theorem dX11_cover_38 : decode cX11_cover 38 = .ok (.ishl, 1) := by decide +kernel
theorem dX11_cover_39 : decode cX11_cover 39 = .ok (.if_icmp .ge 30, 3) := by decide +kernel
theorem dX11_cover_42 : decode cX11_cover 42 = .ok (.iload_n 3, 1) := by decide +kernel
theorem dX11_cover_43 : decode cX11_cover 43 = .ok (.invokestatic 185, 3) := by decide +kernel
theorem dX11_cover_46 : decode cX11_cover 46 = .ok (.iload_n 2, 1) := by decide +kernel
theorem dX11_cover_47 : decode cX11_cover 47 = .ok (.invokestatic 185, 3) := by decide +kernel
theorem dX11_cover_50 : decode cX11_cover 50 = .ok (.if_icmp .ge 13, 3) := by decide +kernel
theorem dX11_cover_53 : decode cX11_cover 53 = .ok (.aload_n 0, 1) := by decide +kernel
theorem dX11_cover_54 : decode cX11_cover 54 = .ok (.iload_n 3, 1) := by decide +kernel
theorem dX11_cover_55 : decode cX11_cover 55 = .ok (.invokevirtual 308, 3) := by decide +kernel
theorem dX11_cover_58 : decode cX11_cover 58 = .ok (.ifCond .eq 5, 3) := by decide +kernel
theorem dX11_cover_61 : decode cX11_cover 61 = .ok (.iload_n 3, 1) := by decide +kernel
theorem dX11_cover_62 : decode cX11_cover 62 = .ok (.istore_n 2, 1) := by decide +kernel
theorem dX11_cover_63 : decode cX11_cover 63 = .ok (.iinc 3 1, 3) := by decide +kernel
theorem dX11_cover_66 : decode cX11_cover 66 = .ok (.goto (-37), 3) := by decide +kernel
theorem dX11_cover_69 : decode cX11_cover 69 = .ok (.iload_n 1, 1) := by decide +kernel
theorem dX11_cover_70 : decode cX11_cover 70 = .ok (.ifCond .ne 10, 3) := by decide +kernel
theorem dX11_cover_73 : decode cX11_cover 73 = .ok (.iload_n 2, 1) := by decide +kernel
theorem dX11_cover_74 : decode cX11_cover 74 = .ok (.invokestatic 185, 3) := by decide +kernel
theorem dX11_cover_77 : decode cX11_cover 77 = .ok (.goto 4, 3) := by decide +kernel
theorem dX11_cover_80 : decode cX11_cover 80 = .ok (.iload_n 2, 1) := by decide +kernel
theorem dX11_cover_81 : decode cX11_cover 81 = .ok (.ireturn, 1) := by decide +kernel
theorem dX11_easiest_0 : decode cX11_easiest 0 = .ok (.aload_n 0, 1) := by decide +kernel
theorem dX11_easiest_1 : decode cX11_easiest 1 = .ok (.getfield 30, 3) := by decide +kernel
theorem dX11_easiest_4 : decode cX11_easiest 4 = .ok (.iload_n 1, 1) := by decide +kernel
theorem dX11_easiest_5 : decode cX11_easiest 5 = .ok (.invokevirtual 157, 3) := by decide +kernel
theorem dX11_easiest_8 : decode cX11_easiest 8 = .ok (.ifCond .ne 5, 3) := by decide +kernel
theorem dX11_easiest_11 : decode cX11_easiest 11 = .ok (.iconst (-1), 1) := by decide +kernel
theorem dX11_easiest_12 : decode cX11_easiest 12 = .ok (.ireturn, 1) := by decide +kernel
theorem dX11_easiest_13 : decode cX11_easiest 13 = .ok (.iconst (-1), 1) := by decide +kernel
theorem dX11_easiest_14 : decode cX11_easiest 14 = .ok (.istore_n 2, 1) := by decide +kernel
theorem dX11_easiest_15 : decode cX11_easiest 15 = .ok (.iconst 0, 1) := by decide +kernel
theorem dX11_easiest_16 : decode cX11_easiest 16 = .ok (.istore_n 3, 1) := by decide +kernel
theorem dX11_easiest_17 : decode cX11_easiest 17 = .ok (.iconst 0, 1) := by decide +kernel
theorem dX11_easiest_18 : decode cX11_easiest 18 = .ok (.istore 4, 2) := by decide +kernel
theorem dX11_easiest_20 : decode cX11_easiest 20 = .ok (.iload 4, 2) := by decide +kernel
theorem dX11_easiest_22 : decode cX11_easiest 22 = .ok (.aload_n 0, 1) := by decide +kernel
theorem dX11_easiest_23 : decode cX11_easiest 23 = .ok (.getfield 30, 3) := by decide +kernel
theorem dX11_easiest_26 : decode cX11_easiest 26 = .ok (.getfield 212, 3) := by decide +kernel
theorem dX11_easiest_29 : decode cX11_easiest 29 = .ok (.if_icmp .ge 58, 3) := by decide +kernel
theorem dX11_easiest_32 : decode cX11_easiest 32 = .ok (.aload_n 0, 1) := by decide +kernel
theorem dX11_easiest_33 : decode cX11_easiest 33 = .ok (.getfield 30, 3) := by decide +kernel
theorem dX11_easiest_36 : decode cX11_easiest 36 = .ok (.aload_n 0, 1) := by decide +kernel
theorem dX11_easiest_37 : decode cX11_easiest 37 = .ok (.getfield 40, 3) := by decide +kernel
theorem dX11_easiest_40 : decode cX11_easiest 40 = .ok (.iload_n 1, 1) := by decide +kernel
theorem dX11_easiest_41 : decode cX11_easiest 41 = .ok (.iload 4, 2) := by decide +kernel
theorem dX11_easiest_43 : decode cX11_easiest 43 = .ok (.iconst 1, 1) := by decide +kernel
theorem dX11_easiest_44 : decode cX11_easiest 44 = .ok (.iconst 0, 1) := by decide +kernel
theorem dX11_easiest_45 : decode cX11_easiest 45 = .ok (.invokevirtual 190, 3) := by decide +kernel
theorem dX11_easiest_48 : decode cX11_easiest 48 = .ok (.istore 5, 2) := by decide +kernel
theorem dX11_easiest_50 : decode cX11_easiest 50 = .ok (.iload 5, 2) := by decide +kernel
theorem dX11_easiest_52 : decode cX11_easiest 52 = .ok (.aload_n 0, 1) := by decide +kernel
theorem dX11_easiest_53 : decode cX11_easiest 53 = .ok (.getfield 40, 3) := by decide +kernel
theorem dX11_easiest_56 : decode cX11_easiest 56 = .ok (.getfield 163, 3) := by decide +kernel
theorem dX11_easiest_59 : decode cX11_easiest 59 = .ok (.iload_n 1, 1) := by decide +kernel
theorem dX11_easiest_60 : decode cX11_easiest 60 = .ok (.iaload, 1) := by decide +kernel
theorem dX11_easiest_61 : decode cX11_easiest 61 = .ok (.if_icmp .gt 20, 3) := by decide +kernel
theorem dX11_easiest_64 : decode cX11_easiest 64 = .ok (.iload_n 2, 1) := by decide +kernel
theorem dX11_easiest_65 : decode cX11_easiest 65 = .ok (.iconst (-1), 1) := by decide +kernel
theorem dX11_easiest_66 : decode cX11_easiest 66 = .ok (.if_icmp .eq 9, 3) := by decide +kernel
theorem dX11_easiest_69 : decode cX11_easiest 69 = .ok (.iload 5, 2) := by decide +kernel
theorem dX11_easiest_71 : decode cX11_easiest 71 = .ok (.iload_n 3, 1) := by decide +kernel
theorem dX11_easiest_72 : decode cX11_easiest 72 = .ok (.if_icmp .ge 9, 3) := by decide +kernel
theorem dX11_easiest_75 : decode cX11_easiest 75 = .ok (.iload 4, 2) := by decide +kernel
theorem dX11_easiest_77 : decode cX11_easiest 77 = .ok (.istore_n 2, 1) := by decide +kernel
theorem dX11_easiest_78 : decode cX11_easiest 78 = .ok (.iload 5, 2) := by decide +kernel
theorem dX11_easiest_80 : decode cX11_easiest 80 = .ok (.istore_n 3, 1) := by decide +kernel
theorem dX11_easiest_81 : decode cX11_easiest 81 = .ok (.iinc 4 1, 3) := by decide +kernel
theorem dX11_easiest_84 : decode cX11_easiest 84 = .ok (.goto (-64), 3) := by decide +kernel
theorem dX11_easiest_87 : decode cX11_easiest 87 = .ok (.iload_n 2, 1) := by decide +kernel
theorem dX11_easiest_88 : decode cX11_easiest 88 = .ok (.ireturn, 1) := by decide +kernel
theorem dX11_forlorn_0 : decode cX11_forlorn 0 = .ok (.iconst 0, 1) := by decide +kernel
theorem dX11_forlorn_1 : decode cX11_forlorn 1 = .ok (.istore_n 1, 1) := by decide +kernel
theorem dX11_forlorn_2 : decode cX11_forlorn 2 = .ok (.iconst 0, 1) := by decide +kernel
theorem dX11_forlorn_3 : decode cX11_forlorn 3 = .ok (.istore_n 2, 1) := by decide +kernel
theorem dX11_forlorn_4 : decode cX11_forlorn 4 = .ok (.iload_n 2, 1) := by decide +kernel
theorem dX11_forlorn_5 : decode cX11_forlorn 5 = .ok (.aload_n 0, 1) := by decide +kernel
theorem dX11_forlorn_6 : decode cX11_forlorn 6 = .ok (.getfield 30, 3) := by decide +kernel
theorem dX11_forlorn_9 : decode cX11_forlorn 9 = .ok (.getfield 212, 3) := by decide +kernel
theorem dX11_forlorn_12 : decode cX11_forlorn 12 = .ok (.if_icmp .ge 39, 3) := by decide +kernel
theorem dX11_forlorn_15 : decode cX11_forlorn 15 = .ok (.aload_n 0, 1) := by decide +kernel
theorem dX11_forlorn_16 : decode cX11_forlorn 16 = .ok (.getfield 30, 3) := by decide +kernel
theorem dX11_forlorn_19 : decode cX11_forlorn 19 = .ok (.aload_n 0, 1) := by decide +kernel
theorem dX11_forlorn_20 : decode cX11_forlorn 20 = .ok (.getfield 40, 3) := by decide +kernel
theorem dX11_forlorn_23 : decode cX11_forlorn 23 = .ok (.iload_n 2, 1) := by decide +kernel
theorem dX11_forlorn_24 : decode cX11_forlorn 24 = .ok (.aload_n 0, 1) := by decide +kernel
theorem dX11_forlorn_25 : decode cX11_forlorn 25 = .ok (.getfield 30, 3) := by decide +kernel
theorem dX11_forlorn_28 : decode cX11_forlorn 28 = .ok (.invokevirtual 311, 3) := by decide +kernel
theorem dX11_forlorn_31 : decode cX11_forlorn 31 = .ok (.iconst 1, 1) := by decide +kernel
theorem dX11_forlorn_32 : decode cX11_forlorn 32 = .ok (.iconst 0, 1) := by decide +kernel
theorem dX11_forlorn_33 : decode cX11_forlorn 33 = .ok (.invokevirtual 315, 3) := by decide +kernel
theorem dX11_forlorn_36 : decode cX11_forlorn 36 = .ok (.ifCond .ne 9, 3) := by decide +kernel
theorem dX11_forlorn_39 : decode cX11_forlorn 39 = .ok (.iload_n 1, 1) := by decide +kernel
theorem dX11_forlorn_40 : decode cX11_forlorn 40 = .ok (.iconst 1, 1) := by decide +kernel
theorem dX11_forlorn_41 : decode cX11_forlorn 41 = .ok (.iload_n 2, 1) := by decide +kernel
theorem dX11_forlorn_42 : decode cX11_forlorn 42 = .ok (.ishl, 1) := by decide +kernel
theorem dX11_forlorn_43 : decode cX11_forlorn 43 = .ok (.ior, 1) := by decide +kernel
theorem dX11_forlorn_44 : decode cX11_forlorn 44 = .ok (.istore_n 1, 1) := by decide +kernel
theorem dX11_forlorn_45 : decode cX11_forlorn 45 = .ok (.iinc 2 1, 3) := by decide +kernel
theorem dX11_forlorn_48 : decode cX11_forlorn 48 = .ok (.goto (-44), 3) := by decide +kernel
theorem dX11_forlorn_51 : decode cX11_forlorn 51 = .ok (.iload_n 1, 1) := by decide +kernel
theorem dX11_forlorn_52 : decode cX11_forlorn 52 = .ok (.ireturn, 1) := by decide +kernel
theorem dX11_nearest_0 : decode cX11_nearest 0 = .ok (.aload_n 0, 1) := by decide +kernel
theorem dX11_nearest_1 : decode cX11_nearest 1 = .ok (.getfield 30, 3) := by decide +kernel
theorem dX11_nearest_4 : decode cX11_nearest 4 = .ok (.iload_n 1, 1) := by decide +kernel
theorem dX11_nearest_5 : decode cX11_nearest 5 = .ok (.invokevirtual 157, 3) := by decide +kernel
theorem dX11_nearest_8 : decode cX11_nearest 8 = .ok (.ifCond .ne 5, 3) := by decide +kernel
theorem dX11_nearest_11 : decode cX11_nearest 11 = .ok (.iconst (-1), 1) := by decide +kernel
theorem dX11_nearest_12 : decode cX11_nearest 12 = .ok (.ireturn, 1) := by decide +kernel
theorem dX11_nearest_13 : decode cX11_nearest 13 = .ok (.iconst (-1), 1) := by decide +kernel
theorem dX11_nearest_14 : decode cX11_nearest 14 = .ok (.istore_n 2, 1) := by decide +kernel
theorem dX11_nearest_15 : decode cX11_nearest 15 = .ok (.iconst 0, 1) := by decide +kernel
theorem dX11_nearest_16 : decode cX11_nearest 16 = .ok (.istore_n 3, 1) := by decide +kernel
theorem dX11_nearest_17 : decode cX11_nearest 17 = .ok (.iload_n 3, 1) := by decide +kernel
theorem dX11_nearest_18 : decode cX11_nearest 18 = .ok (.aload_n 0, 1) := by decide +kernel
theorem dX11_nearest_19 : decode cX11_nearest 19 = .ok (.getfield 30, 3) := by decide +kernel
theorem dX11_nearest_22 : decode cX11_nearest 22 = .ok (.getfield 212, 3) := by decide +kernel
theorem dX11_nearest_25 : decode cX11_nearest 25 = .ok (.if_icmp .ge 57, 3) := by decide +kernel
theorem dX11_nearest_28 : decode cX11_nearest 28 = .ok (.iload_n 2, 1) := by decide +kernel
theorem dX11_nearest_29 : decode cX11_nearest 29 = .ok (.iconst (-1), 1) := by decide +kernel
theorem dX11_nearest_30 : decode cX11_nearest 30 = .ok (.if_icmp .eq 24, 3) := by decide +kernel
theorem dX11_nearest_33 : decode cX11_nearest 33 = .ok (.aload_n 0, 1) := by decide +kernel
theorem dX11_nearest_34 : decode cX11_nearest 34 = .ok (.getfield 30, 3) := by decide +kernel
theorem dX11_nearest_37 : decode cX11_nearest 37 = .ok (.iload_n 1, 1) := by decide +kernel
theorem dX11_nearest_38 : decode cX11_nearest 38 = .ok (.iload_n 3, 1) := by decide +kernel
theorem dX11_nearest_39 : decode cX11_nearest 39 = .ok (.invokevirtual 205, 3) := by decide +kernel
theorem dX11_nearest_42 : decode cX11_nearest 42 = .ok (.aload_n 0, 1) := by decide +kernel
theorem dX11_nearest_43 : decode cX11_nearest 43 = .ok (.getfield 30, 3) := by decide +kernel
theorem dX11_nearest_46 : decode cX11_nearest 46 = .ok (.iload_n 1, 1) := by decide +kernel
theorem dX11_nearest_47 : decode cX11_nearest 47 = .ok (.iload_n 2, 1) := by decide +kernel
theorem dX11_nearest_48 : decode cX11_nearest 48 = .ok (.invokevirtual 205, 3) := by decide +kernel
theorem dX11_nearest_51 : decode cX11_nearest 51 = .ok (.if_icmp .ge 7, 3) := by decide +kernel
theorem dX11_nearest_54 : decode cX11_nearest 54 = .ok (.iconst 1, 1) := by decide +kernel
theorem dX11_nearest_55 : decode cX11_nearest 55 = .ok (.goto 4, 3) := by decide +kernel
theorem dX11_nearest_58 : decode cX11_nearest 58 = .ok (.iconst 0, 1) := by decide +kernel
theorem dX11_nearest_59 : decode cX11_nearest 59 = .ok (.istore 4, 2) := by decide +kernel
theorem dX11_nearest_61 : decode cX11_nearest 61 = .ok (.iload 4, 2) := by decide +kernel
theorem dX11_nearest_63 : decode cX11_nearest 63 = .ok (.ifCond .eq 13, 3) := by decide +kernel
theorem dX11_nearest_66 : decode cX11_nearest 66 = .ok (.aload_n 0, 1) := by decide +kernel
theorem dX11_nearest_67 : decode cX11_nearest 67 = .ok (.iload_n 3, 1) := by decide +kernel
theorem dX11_nearest_68 : decode cX11_nearest 68 = .ok (.invokevirtual 249, 3) := by decide +kernel
theorem dX11_nearest_71 : decode cX11_nearest 71 = .ok (.ifCond .eq 5, 3) := by decide +kernel
theorem dX11_nearest_74 : decode cX11_nearest 74 = .ok (.iload_n 3, 1) := by decide +kernel
theorem dX11_nearest_75 : decode cX11_nearest 75 = .ok (.istore_n 2, 1) := by decide +kernel
theorem dX11_nearest_76 : decode cX11_nearest 76 = .ok (.iinc 3 1, 3) := by decide +kernel
theorem dX11_nearest_79 : decode cX11_nearest 79 = .ok (.goto (-62), 3) := by decide +kernel
theorem dX11_nearest_82 : decode cX11_nearest 82 = .ok (.iload_n 2, 1) := by decide +kernel
theorem dX11_nearest_83 : decode cX11_nearest 83 = .ok (.ireturn, 1) := by decide +kernel
theorem dX11_pilgrim_0 : decode cX11_pilgrim 0 = .ok (.aload_n 0, 1) := by decide +kernel
theorem dX11_pilgrim_1 : decode cX11_pilgrim 1 = .ok (.getfield 30, 3) := by decide +kernel
theorem dX11_pilgrim_4 : decode cX11_pilgrim 4 = .ok (.iload_n 1, 1) := by decide +kernel
theorem dX11_pilgrim_5 : decode cX11_pilgrim 5 = .ok (.invokevirtual 157, 3) := by decide +kernel
theorem dX11_pilgrim_8 : decode cX11_pilgrim 8 = .ok (.ifCond .ne 5, 3) := by decide +kernel
theorem dX11_pilgrim_11 : decode cX11_pilgrim 11 = .ok (.iconst (-1), 1) := by decide +kernel
theorem dX11_pilgrim_12 : decode cX11_pilgrim 12 = .ok (.ireturn, 1) := by decide +kernel
theorem dX11_pilgrim_13 : decode cX11_pilgrim 13 = .ok (.aload_n 0, 1) := by decide +kernel
theorem dX11_pilgrim_14 : decode cX11_pilgrim 14 = .ok (.getfield 30, 3) := by decide +kernel
theorem dX11_pilgrim_17 : decode cX11_pilgrim 17 = .ok (.getfield 212, 3) := by decide +kernel
theorem dX11_pilgrim_20 : decode cX11_pilgrim 20 = .ok (.ifCond .ne 5, 3) := by decide +kernel
theorem dX11_pilgrim_23 : decode cX11_pilgrim 23 = .ok (.iconst 0, 1) := by decide +kernel
theorem dX11_pilgrim_24 : decode cX11_pilgrim 24 = .ok (.ireturn, 1) := by decide +kernel
theorem dX11_pilgrim_25 : decode cX11_pilgrim 25 = .ok (.aload_n 0, 1) := by decide +kernel
theorem dX11_pilgrim_26 : decode cX11_pilgrim 26 = .ok (.getfield 30, 3) := by decide +kernel
theorem dX11_pilgrim_29 : decode cX11_pilgrim 29 = .ok (.getfield 138, 3) := by decide +kernel
theorem dX11_pilgrim_32 : decode cX11_pilgrim 32 = .ok (.iconst 0, 1) := by decide +kernel
theorem dX11_pilgrim_33 : decode cX11_pilgrim 33 = .ok (.iaload, 1) := by decide +kernel
theorem dX11_pilgrim_34 : decode cX11_pilgrim 34 = .ok (.istore_n 2, 1) := by decide +kernel
theorem dX11_pilgrim_35 : decode cX11_pilgrim 35 = .ok (.aload_n 0, 1) := by decide +kernel
theorem dX11_pilgrim_36 : decode cX11_pilgrim 36 = .ok (.getfield 30, 3) := by decide +kernel
theorem dX11_pilgrim_39 : decode cX11_pilgrim 39 = .ok (.getfield 138, 3) := by decide +kernel
theorem dX11_pilgrim_42 : decode cX11_pilgrim 42 = .ok (.iconst 0, 1) := by decide +kernel
theorem dX11_pilgrim_43 : decode cX11_pilgrim 43 = .ok (.iaload, 1) := by decide +kernel
theorem dX11_pilgrim_44 : decode cX11_pilgrim 44 = .ok (.istore_n 3, 1) := by decide +kernel
theorem dX11_pilgrim_45 : decode cX11_pilgrim 45 = .ok (.iconst 1, 1) := by decide +kernel
theorem dX11_pilgrim_46 : decode cX11_pilgrim 46 = .ok (.istore 4, 2) := by decide +kernel
theorem dX11_pilgrim_48 : decode cX11_pilgrim 48 = .ok (.iload 4, 2) := by decide +kernel
theorem dX11_pilgrim_50 : decode cX11_pilgrim 50 = .ok (.aload_n 0, 1) := by decide +kernel
theorem dX11_pilgrim_51 : decode cX11_pilgrim 51 = .ok (.getfield 30, 3) := by decide +kernel
theorem dX11_pilgrim_54 : decode cX11_pilgrim 54 = .ok (.getfield 212, 3) := by decide +kernel
theorem dX11_pilgrim_57 : decode cX11_pilgrim 57 = .ok (.if_icmp .ge 39, 3) := by decide +kernel
theorem dX11_pilgrim_60 : decode cX11_pilgrim 60 = .ok (.iload_n 2, 1) := by decide +kernel
theorem dX11_pilgrim_61 : decode cX11_pilgrim 61 = .ok (.aload_n 0, 1) := by decide +kernel
theorem dX11_pilgrim_62 : decode cX11_pilgrim 62 = .ok (.getfield 30, 3) := by decide +kernel
theorem dX11_pilgrim_65 : decode cX11_pilgrim 65 = .ok (.getfield 138, 3) := by decide +kernel
theorem dX11_pilgrim_68 : decode cX11_pilgrim 68 = .ok (.iload 4, 2) := by decide +kernel
theorem dX11_pilgrim_70 : decode cX11_pilgrim 70 = .ok (.iaload, 1) := by decide +kernel
theorem dX11_pilgrim_71 : decode cX11_pilgrim 71 = .ok (.invokestatic 318, 3) := by decide +kernel
theorem dX11_pilgrim_74 : decode cX11_pilgrim 74 = .ok (.istore_n 2, 1) := by decide +kernel
theorem dX11_pilgrim_75 : decode cX11_pilgrim 75 = .ok (.iload_n 3, 1) := by decide +kernel
theorem dX11_pilgrim_76 : decode cX11_pilgrim 76 = .ok (.aload_n 0, 1) := by decide +kernel
theorem dX11_pilgrim_77 : decode cX11_pilgrim 77 = .ok (.getfield 30, 3) := by decide +kernel
theorem dX11_pilgrim_80 : decode cX11_pilgrim 80 = .ok (.getfield 138, 3) := by decide +kernel
theorem dX11_pilgrim_83 : decode cX11_pilgrim 83 = .ok (.iload 4, 2) := by decide +kernel
theorem dX11_pilgrim_85 : decode cX11_pilgrim 85 = .ok (.iaload, 1) := by decide +kernel
theorem dX11_pilgrim_86 : decode cX11_pilgrim 86 = .ok (.invokestatic 323, 3) := by decide +kernel
theorem dX11_pilgrim_89 : decode cX11_pilgrim 89 = .ok (.istore_n 3, 1) := by decide +kernel
theorem dX11_pilgrim_90 : decode cX11_pilgrim 90 = .ok (.iinc 4 1, 3) := by decide +kernel
theorem dX11_pilgrim_93 : decode cX11_pilgrim 93 = .ok (.goto (-45), 3) := by decide +kernel
theorem dX11_pilgrim_96 : decode cX11_pilgrim 96 = .ok (.aload_n 0, 1) := by decide +kernel
theorem dX11_pilgrim_97 : decode cX11_pilgrim 97 = .ok (.getfield 30, 3) := by decide +kernel
theorem dX11_pilgrim_100 : decode cX11_pilgrim 100 = .ok (.getfield 160, 3) := by decide +kernel
theorem dX11_pilgrim_103 : decode cX11_pilgrim 103 = .ok (.iload_n 1, 1) := by decide +kernel
theorem dX11_pilgrim_104 : decode cX11_pilgrim 104 = .ok (.iaload, 1) := by decide +kernel
theorem dX11_pilgrim_105 : decode cX11_pilgrim 105 = .ok (.istore 4, 2) := by decide +kernel
theorem dX11_pilgrim_107 : decode cX11_pilgrim 107 = .ok (.iload 4, 2) := by decide +kernel
theorem dX11_pilgrim_109 : decode cX11_pilgrim 109 = .ok (.iload_n 2, 1) := by decide +kernel
theorem dX11_pilgrim_110 : decode cX11_pilgrim 110 = .ok (.isub, 1) := by decide +kernel
theorem dX11_pilgrim_111 : decode cX11_pilgrim 111 = .ok (.invokestatic 326, 3) := by decide +kernel
theorem dX11_pilgrim_114 : decode cX11_pilgrim 114 = .ok (.iload 4, 2) := by decide +kernel
theorem dX11_pilgrim_116 : decode cX11_pilgrim 116 = .ok (.iload_n 3, 1) := by decide +kernel
theorem dX11_pilgrim_117 : decode cX11_pilgrim 117 = .ok (.isub, 1) := by decide +kernel
theorem dX11_pilgrim_118 : decode cX11_pilgrim 118 = .ok (.invokestatic 326, 3) := by decide +kernel
theorem dX11_pilgrim_121 : decode cX11_pilgrim 121 = .ok (.invokestatic 318, 3) := by decide +kernel
theorem dX11_pilgrim_124 : decode cX11_pilgrim 124 = .ok (.iload_n 3, 1) := by decide +kernel
theorem dX11_pilgrim_125 : decode cX11_pilgrim 125 = .ok (.iadd, 1) := by decide +kernel
theorem dX11_pilgrim_126 : decode cX11_pilgrim 126 = .ok (.iload_n 2, 1) := by decide +kernel
theorem dX11_pilgrim_127 : decode cX11_pilgrim 127 = .ok (.isub, 1) := by decide +kernel
theorem dX11_pilgrim_128 : decode cX11_pilgrim 128 = .ok (.ireturn, 1) := by decide +kernel
theorem dX11_law_0 : decode cX11_law 0 = .ok (.iload_n 1, 1) := by decide +kernel
theorem dX11_law_1 : decode cX11_law 1 = .ok (.bipush (-99), 2) := by decide +kernel
theorem dX11_law_3 : decode cX11_law 3 = .ok (.if_icmp .lt 9, 3) := by decide +kernel
theorem dX11_law_6 : decode cX11_law 6 = .ok (.iload_n 1, 1) := by decide +kernel
theorem dX11_law_7 : decode cX11_law 7 = .ok (.bipush 99, 2) := by decide +kernel
theorem dX11_law_9 : decode cX11_law 9 = .ok (.if_icmp .le 5, 3) := by decide +kernel
theorem dX11_law_12 : decode cX11_law 12 = .ok (.iconst (-1), 1) := by decide +kernel
theorem dX11_law_13 : decode cX11_law 13 = .ok (.ireturn, 1) := by decide +kernel
theorem dX11_law_14 : decode cX11_law 14 = .ok (.aload_n 0, 1) := by decide +kernel
theorem dX11_law_15 : decode cX11_law 15 = .ok (.getfield 40, 3) := by decide +kernel
theorem dX11_law_18 : decode cX11_law 18 = .ok (.aload_n 0, 1) := by decide +kernel
theorem dX11_law_19 : decode cX11_law 19 = .ok (.getfield 30, 3) := by decide +kernel
theorem dX11_law_22 : decode cX11_law 22 = .ok (.iload_n 1, 1) := by decide +kernel
theorem dX11_law_23 : decode cX11_law 23 = .ok (.invokevirtual 194, 3) := by decide +kernel
theorem dX11_law_26 : decode cX11_law 26 = .ok (.invokestatic 185, 3) := by decide +kernel
theorem dX11_law_29 : decode cX11_law 29 = .ok (.ireturn, 1) := by decide +kernel
theorem dX11_schisms_0 : decode cX11_schisms 0 = .ok (.iconst 0, 1) := by decide +kernel
theorem dX11_schisms_1 : decode cX11_schisms 1 = .ok (.istore_n 1, 1) := by decide +kernel
theorem dX11_schisms_2 : decode cX11_schisms 2 = .ok (.iconst 0, 1) := by decide +kernel
theorem dX11_schisms_3 : decode cX11_schisms 3 = .ok (.istore_n 2, 1) := by decide +kernel
theorem dX11_schisms_4 : decode cX11_schisms 4 = .ok (.iload_n 2, 1) := by decide +kernel
theorem dX11_schisms_5 : decode cX11_schisms 5 = .ok (.aload_n 0, 1) := by decide +kernel
theorem dX11_schisms_6 : decode cX11_schisms 6 = .ok (.getfield 30, 3) := by decide +kernel
theorem dX11_schisms_9 : decode cX11_schisms 9 = .ok (.getfield 132, 3) := by decide +kernel
theorem dX11_schisms_12 : decode cX11_schisms 12 = .ok (.if_icmp .ge 54, 3) := by decide +kernel
theorem dX11_schisms_15 : decode cX11_schisms 15 = .ok (.iload_n 2, 1) := by decide +kernel
theorem dX11_schisms_16 : decode cX11_schisms 16 = .ok (.iconst 1, 1) := by decide +kernel
theorem dX11_schisms_17 : decode cX11_schisms 17 = .ok (.iadd, 1) := by decide +kernel
theorem dX11_schisms_18 : decode cX11_schisms 18 = .ok (.istore_n 3, 1) := by decide +kernel
theorem dX11_schisms_19 : decode cX11_schisms 19 = .ok (.iload_n 3, 1) := by decide +kernel
theorem dX11_schisms_20 : decode cX11_schisms 20 = .ok (.aload_n 0, 1) := by decide +kernel
theorem dX11_schisms_21 : decode cX11_schisms 21 = .ok (.getfield 30, 3) := by decide +kernel
theorem dX11_schisms_24 : decode cX11_schisms 24 = .ok (.getfield 132, 3) := by decide +kernel
theorem dX11_schisms_27 : decode cX11_schisms 27 = .ok (.if_icmp .ge 33, 3) := by decide +kernel
theorem dX11_schisms_30 : decode cX11_schisms 30 = .ok (.aload_n 0, 1) := by decide +kernel
theorem dX11_schisms_31 : decode cX11_schisms 31 = .ok (.getfield 30, 3) := by decide +kernel
theorem dX11_schisms_34 : decode cX11_schisms 34 = .ok (.getfield 166, 3) := by decide +kernel
theorem dX11_schisms_37 : decode cX11_schisms 37 = .ok (.iload_n 2, 1) := by decide +kernel
theorem dX11_schisms_38 : decode cX11_schisms 38 = .ok (.iaload, 1) := by decide +kernel
theorem dX11_schisms_39 : decode cX11_schisms 39 = .ok (.aload_n 0, 1) := by decide +kernel
theorem dX11_schisms_40 : decode cX11_schisms 40 = .ok (.getfield 30, 3) := by decide +kernel
theorem dX11_schisms_43 : decode cX11_schisms 43 = .ok (.getfield 166, 3) := by decide +kernel
theorem dX11_schisms_46 : decode cX11_schisms 46 = .ok (.iload_n 3, 1) := by decide +kernel
theorem dX11_schisms_47 : decode cX11_schisms 47 = .ok (.iaload, 1) := by decide +kernel
theorem dX11_schisms_48 : decode cX11_schisms 48 = .ok (.if_icmp .eq 6, 3) := by decide +kernel
theorem dX11_schisms_51 : decode cX11_schisms 51 = .ok (.iinc 1 1, 3) := by decide +kernel
theorem dX11_schisms_54 : decode cX11_schisms 54 = .ok (.iinc 3 1, 3) := by decide +kernel
theorem dX11_schisms_57 : decode cX11_schisms 57 = .ok (.goto (-38), 3) := by decide +kernel
theorem dX11_schisms_60 : decode cX11_schisms 60 = .ok (.iinc 2 1, 3) := by decide +kernel
theorem dX11_schisms_63 : decode cX11_schisms 63 = .ok (.goto (-59), 3) := by decide +kernel
theorem dX11_schisms_66 : decode cX11_schisms 66 = .ok (.iload_n 1, 1) := by decide +kernel
theorem dX11_schisms_67 : decode cX11_schisms 67 = .ok (.ireturn, 1) := by decide +kernel
theorem dX11_odds_0 : decode cX11_odds 0 = .ok (.iload_n 1, 1) := by decide +kernel
theorem dX11_odds_1 : decode cX11_odds 1 = .ok (.ifCond .lt 17, 3) := by decide +kernel
theorem dX11_odds_4 : decode cX11_odds 4 = .ok (.iload_n 1, 1) := by decide +kernel
theorem dX11_odds_5 : decode cX11_odds 5 = .ok (.iconst 4, 1) := by decide +kernel
theorem dX11_odds_6 : decode cX11_odds 6 = .ok (.if_icmp .gt 12, 3) := by decide +kernel
theorem dX11_odds_9 : decode cX11_odds 9 = .ok (.iload_n 2, 1) := by decide +kernel
theorem dX11_odds_10 : decode cX11_odds 10 = .ok (.ifCond .lt 8, 3) := by decide +kernel
theorem dX11_odds_13 : decode cX11_odds 13 = .ok (.iload_n 2, 1) := by decide +kernel
theorem dX11_odds_14 : decode cX11_odds 14 = .ok (.iconst 1, 1) := by decide +kernel
theorem dX11_odds_15 : decode cX11_odds 15 = .ok (.if_icmp .le 5, 3) := by decide +kernel
theorem dX11_odds_18 : decode cX11_odds 18 = .ok (.iconst (-1), 1) := by decide +kernel
theorem dX11_odds_19 : decode cX11_odds 19 = .ok (.ireturn, 1) := by decide +kernel
theorem dX11_odds_20 : decode cX11_odds 20 = .ok (.iconst 1, 1) := by decide +kernel
theorem dX11_odds_21 : decode cX11_odds 21 = .ok (.istore_n 3, 1) := by decide +kernel
theorem dX11_odds_22 : decode cX11_odds 22 = .ok (.iconst 1, 1) := by decide +kernel
theorem dX11_odds_23 : decode cX11_odds 23 = .ok (.istore 4, 2) := by decide +kernel
theorem dX11_odds_25 : decode cX11_odds 25 = .ok (.iconst 0, 1) := by decide +kernel
theorem dX11_odds_26 : decode cX11_odds 26 = .ok (.istore 5, 2) := by decide +kernel
theorem dX11_odds_28 : decode cX11_odds 28 = .ok (.iload 5, 2) := by decide +kernel
theorem dX11_odds_30 : decode cX11_odds 30 = .ok (.iload_n 1, 1) := by decide +kernel
theorem dX11_odds_31 : decode cX11_odds 31 = .ok (.if_icmp .ge 29, 3) := by decide +kernel
theorem dX11_odds_34 : decode cX11_odds 34 = .ok (.iload_n 3, 1) := by decide +kernel
theorem dX11_odds_35 : decode cX11_odds 35 = .ok (.bipush 100, 2) := by decide +kernel
theorem dX11_odds_37 : decode cX11_odds 37 = .ok (.aload_n 0, 1) := by decide +kernel
theorem dX11_odds_38 : decode cX11_odds 38 = .ok (.getfield 30, 3) := by decide +kernel
theorem dX11_odds_41 : decode cX11_odds 41 = .ok (.getfield 218, 3) := by decide +kernel
theorem dX11_odds_44 : decode cX11_odds 44 = .ok (.isub, 1) := by decide +kernel
theorem dX11_odds_45 : decode cX11_odds 45 = .ok (.imul, 1) := by decide +kernel
theorem dX11_odds_46 : decode cX11_odds 46 = .ok (.istore_n 3, 1) := by decide +kernel
theorem dX11_odds_47 : decode cX11_odds 47 = .ok (.iload 4, 2) := by decide +kernel
theorem dX11_odds_49 : decode cX11_odds 49 = .ok (.bipush 100, 2) := by decide +kernel
theorem dX11_odds_51 : decode cX11_odds 51 = .ok (.imul, 1) := by decide +kernel
theorem dX11_odds_52 : decode cX11_odds 52 = .ok (.istore 4, 2) := by decide +kernel
theorem dX11_odds_54 : decode cX11_odds 54 = .ok (.iinc 5 1, 3) := by decide +kernel
theorem dX11_odds_57 : decode cX11_odds 57 = .ok (.goto (-29), 3) := by decide +kernel
theorem dX11_odds_60 : decode cX11_odds 60 = .ok (.iload_n 3, 1) := by decide +kernel
theorem dX11_odds_61 : decode cX11_odds 61 = .ok (.iload 4, 2) := by decide +kernel
theorem dX11_odds_63 : decode cX11_odds 63 = .ok (.invokestatic 329, 3) := by decide +kernel
theorem dX11_odds_66 : decode cX11_odds 66 = .ok (.istore 5, 2) := by decide +kernel
theorem dX11_odds_68 : decode cX11_odds 68 = .ok (.iload 5, 2) := by decide +kernel
theorem dX11_odds_70 : decode cX11_odds 70 = .ok (.ifCond .ne 5, 3) := by decide +kernel
theorem dX11_odds_73 : decode cX11_odds 73 = .ok (.iconst (-1), 1) := by decide +kernel
theorem dX11_odds_74 : decode cX11_odds 74 = .ok (.ireturn, 1) := by decide +kernel
theorem dX11_odds_75 : decode cX11_odds 75 = .ok (.iload_n 2, 1) := by decide +kernel
theorem dX11_odds_76 : decode cX11_odds 76 = .ok (.ifCond .ne 7, 3) := by decide +kernel
theorem dX11_odds_79 : decode cX11_odds 79 = .ok (.iload_n 3, 1) := by decide +kernel
theorem dX11_odds_80 : decode cX11_odds 80 = .ok (.goto 5, 3) := by decide +kernel
theorem dX11_odds_83 : decode cX11_odds 83 = .ok (.iload 4, 2) := by decide +kernel
theorem dX11_odds_85 : decode cX11_odds 85 = .ok (.iload 5, 2) := by decide +kernel
theorem dX11_odds_87 : decode cX11_odds 87 = .ok (.idiv, 1) := by decide +kernel
theorem dX11_odds_88 : decode cX11_odds 88 = .ok (.ireturn, 1) := by decide +kernel
theorem dX11_lasts_0 : decode cX11_lasts 0 = .ok (.aload_n 0, 1) := by decide +kernel
theorem dX11_lasts_1 : decode cX11_lasts 1 = .ok (.getfield 30, 3) := by decide +kernel
theorem dX11_lasts_4 : decode cX11_lasts 4 = .ok (.iload_n 1, 1) := by decide +kernel
theorem dX11_lasts_5 : decode cX11_lasts 5 = .ok (.invokevirtual 157, 3) := by decide +kernel
theorem dX11_lasts_8 : decode cX11_lasts 8 = .ok (.ifCond .eq 14, 3) := by decide +kernel
theorem dX11_lasts_11 : decode cX11_lasts 11 = .ok (.aload_n 0, 1) := by decide +kernel
theorem dX11_lasts_12 : decode cX11_lasts 12 = .ok (.getfield 30, 3) := by decide +kernel
theorem dX11_lasts_15 : decode cX11_lasts 15 = .ok (.iload_n 2, 1) := by decide +kernel
theorem dX11_lasts_16 : decode cX11_lasts 16 = .ok (.invokevirtual 135, 3) := by decide +kernel
theorem dX11_lasts_19 : decode cX11_lasts 19 = .ok (.ifCond .ne 5, 3) := by decide +kernel
theorem dX11_lasts_22 : decode cX11_lasts 22 = .ok (.iconst (-1), 1) := by decide +kernel
theorem dX11_lasts_23 : decode cX11_lasts 23 = .ok (.ireturn, 1) := by decide +kernel
theorem dX11_lasts_24 : decode cX11_lasts 24 = .ok (.aload_n 0, 1) := by decide +kernel
theorem dX11_lasts_25 : decode cX11_lasts 25 = .ok (.getfield 44, 3) := by decide +kernel
theorem dX11_lasts_28 : decode cX11_lasts 28 = .ok (.aload_n 0, 1) := by decide +kernel
theorem dX11_lasts_29 : decode cX11_lasts 29 = .ok (.getfield 40, 3) := by decide +kernel
theorem dX11_lasts_32 : decode cX11_lasts 32 = .ok (.invokevirtual 332, 3) := by decide +kernel
theorem dX11_lasts_35 : decode cX11_lasts 35 = .ok (.iconst 0, 1) := by decide +kernel
theorem dX11_lasts_36 : decode cX11_lasts 36 = .ok (.istore_n 3, 1) := by decide +kernel
theorem dX11_lasts_37 : decode cX11_lasts 37 = .ok (.iload_n 3, 1) := by decide +kernel
theorem dX11_lasts_38 : decode cX11_lasts 38 = .ok (.bipush 60, 2) := by decide +kernel
theorem dX11_lasts_40 : decode cX11_lasts 40 = .ok (.if_icmp .gt 41, 3) := by decide +kernel
theorem dX11_lasts_43 : decode cX11_lasts 43 = .ok (.aload_n 0, 1) := by decide +kernel
theorem dX11_lasts_44 : decode cX11_lasts 44 = .ok (.getfield 44, 3) := by decide +kernel
theorem dX11_lasts_47 : decode cX11_lasts 47 = .ok (.aload_n 0, 1) := by decide +kernel
theorem dX11_lasts_48 : decode cX11_lasts 48 = .ok (.getfield 30, 3) := by decide +kernel
theorem dX11_lasts_51 : decode cX11_lasts 51 = .ok (.iload_n 1, 1) := by decide +kernel
theorem dX11_lasts_52 : decode cX11_lasts 52 = .ok (.iload_n 2, 1) := by decide +kernel
theorem dX11_lasts_53 : decode cX11_lasts 53 = .ok (.iconst 1, 1) := by decide +kernel
theorem dX11_lasts_54 : decode cX11_lasts 54 = .ok (.invokevirtual 335, 3) := by decide +kernel
theorem dX11_lasts_57 : decode cX11_lasts 57 = .ok (.ifCond .ne 5, 3) := by decide +kernel
theorem dX11_lasts_60 : decode cX11_lasts 60 = .ok (.iload_n 3, 1) := by decide +kernel
theorem dX11_lasts_61 : decode cX11_lasts 61 = .ok (.ireturn, 1) := by decide +kernel
theorem dX11_lasts_62 : decode cX11_lasts 62 = .ok (.aload_n 0, 1) := by decide +kernel
theorem dX11_lasts_63 : decode cX11_lasts 63 = .ok (.getfield 44, 3) := by decide +kernel
theorem dX11_lasts_66 : decode cX11_lasts 66 = .ok (.dup, 1) := by decide +kernel
theorem dX11_lasts_67 : decode cX11_lasts 67 = .ok (.getfield 221, 3) := by decide +kernel
theorem dX11_lasts_70 : decode cX11_lasts 70 = .ok (.iconst 1, 1) := by decide +kernel
theorem dX11_lasts_71 : decode cX11_lasts 71 = .ok (.iadd, 1) := by decide +kernel
theorem dX11_lasts_72 : decode cX11_lasts 72 = .ok (.putfield 221, 3) := by decide +kernel
theorem dX11_lasts_75 : decode cX11_lasts 75 = .ok (.iinc 3 1, 3) := by decide +kernel
theorem dX11_lasts_78 : decode cX11_lasts 78 = .ok (.goto (-41), 3) := by decide +kernel
theorem dX11_lasts_81 : decode cX11_lasts 81 = .ok (.iconst (-1), 1) := by decide +kernel
theorem dX11_lasts_82 : decode cX11_lasts 82 = .ok (.ireturn, 1) := by decide +kernel
theorem dX11_soon_0 : decode cX11_soon 0 = .ok (.aload_n 0, 1) := by decide +kernel
theorem dX11_soon_1 : decode cX11_soon 1 = .ok (.getfield 30, 3) := by decide +kernel
theorem dX11_soon_4 : decode cX11_soon 4 = .ok (.iload_n 1, 1) := by decide +kernel
theorem dX11_soon_5 : decode cX11_soon 5 = .ok (.invokevirtual 157, 3) := by decide +kernel
theorem dX11_soon_8 : decode cX11_soon 8 = .ok (.ifCond .eq 14, 3) := by decide +kernel
theorem dX11_soon_11 : decode cX11_soon 11 = .ok (.aload_n 0, 1) := by decide +kernel
theorem dX11_soon_12 : decode cX11_soon 12 = .ok (.getfield 30, 3) := by decide +kernel
theorem dX11_soon_15 : decode cX11_soon 15 = .ok (.iload_n 2, 1) := by decide +kernel
theorem dX11_soon_16 : decode cX11_soon 16 = .ok (.invokevirtual 135, 3) := by decide +kernel
theorem dX11_soon_19 : decode cX11_soon 19 = .ok (.ifCond .ne 5, 3) := by decide +kernel
theorem dX11_soon_22 : decode cX11_soon 22 = .ok (.iconst (-1), 1) := by decide +kernel
theorem dX11_soon_23 : decode cX11_soon 23 = .ok (.ireturn, 1) := by decide +kernel
theorem dX11_soon_24 : decode cX11_soon 24 = .ok (.aload_n 0, 1) := by decide +kernel
theorem dX11_soon_25 : decode cX11_soon 25 = .ok (.getfield 44, 3) := by decide +kernel
theorem dX11_soon_28 : decode cX11_soon 28 = .ok (.aload_n 0, 1) := by decide +kernel
theorem dX11_soon_29 : decode cX11_soon 29 = .ok (.getfield 40, 3) := by decide +kernel
theorem dX11_soon_32 : decode cX11_soon 32 = .ok (.invokevirtual 332, 3) := by decide +kernel
theorem dX11_soon_35 : decode cX11_soon 35 = .ok (.iconst 0, 1) := by decide +kernel
theorem dX11_soon_36 : decode cX11_soon 36 = .ok (.istore_n 3, 1) := by decide +kernel
theorem dX11_soon_37 : decode cX11_soon 37 = .ok (.iload_n 3, 1) := by decide +kernel
theorem dX11_soon_38 : decode cX11_soon 38 = .ok (.bipush 60, 2) := by decide +kernel
theorem dX11_soon_40 : decode cX11_soon 40 = .ok (.if_icmp .gt 54, 3) := by decide +kernel
theorem dX11_soon_43 : decode cX11_soon 43 = .ok (.aload_n 0, 1) := by decide +kernel
theorem dX11_soon_44 : decode cX11_soon 44 = .ok (.getfield 44, 3) := by decide +kernel
theorem dX11_soon_47 : decode cX11_soon 47 = .ok (.aload_n 0, 1) := by decide +kernel
theorem dX11_soon_48 : decode cX11_soon 48 = .ok (.getfield 30, 3) := by decide +kernel
theorem dX11_soon_51 : decode cX11_soon 51 = .ok (.iload_n 1, 1) := by decide +kernel
theorem dX11_soon_52 : decode cX11_soon 52 = .ok (.invokevirtual 178, 3) := by decide +kernel
theorem dX11_soon_55 : decode cX11_soon 55 = .ok (.ifCond .eq 5, 3) := by decide +kernel
theorem dX11_soon_58 : decode cX11_soon 58 = .ok (.iload_n 3, 1) := by decide +kernel
theorem dX11_soon_59 : decode cX11_soon 59 = .ok (.ireturn, 1) := by decide +kernel
theorem dX11_soon_60 : decode cX11_soon 60 = .ok (.aload_n 0, 1) := by decide +kernel
theorem dX11_soon_61 : decode cX11_soon 61 = .ok (.getfield 44, 3) := by decide +kernel
theorem dX11_soon_64 : decode cX11_soon 64 = .ok (.aload_n 0, 1) := by decide +kernel
theorem dX11_soon_65 : decode cX11_soon 65 = .ok (.getfield 30, 3) := by decide +kernel
theorem dX11_soon_68 : decode cX11_soon 68 = .ok (.iload_n 1, 1) := by decide +kernel
theorem dX11_soon_69 : decode cX11_soon 69 = .ok (.iload_n 2, 1) := by decide +kernel
theorem dX11_soon_70 : decode cX11_soon 70 = .ok (.iconst 1, 1) := by decide +kernel
theorem dX11_soon_71 : decode cX11_soon 71 = .ok (.invokevirtual 335, 3) := by decide +kernel
theorem dX11_soon_74 : decode cX11_soon 74 = .ok (.pop, 1) := by decide +kernel
theorem dX11_soon_75 : decode cX11_soon 75 = .ok (.aload_n 0, 1) := by decide +kernel
theorem dX11_soon_76 : decode cX11_soon 76 = .ok (.getfield 44, 3) := by decide +kernel
theorem dX11_soon_79 : decode cX11_soon 79 = .ok (.dup, 1) := by decide +kernel
theorem dX11_soon_80 : decode cX11_soon 80 = .ok (.getfield 221, 3) := by decide +kernel
theorem dX11_soon_83 : decode cX11_soon 83 = .ok (.iconst 1, 1) := by decide +kernel
theorem dX11_soon_84 : decode cX11_soon 84 = .ok (.iadd, 1) := by decide +kernel
theorem dX11_soon_85 : decode cX11_soon 85 = .ok (.putfield 221, 3) := by decide +kernel
theorem dX11_soon_88 : decode cX11_soon 88 = .ok (.iinc 3 1, 3) := by decide +kernel
theorem dX11_soon_91 : decode cX11_soon 91 = .ok (.goto (-54), 3) := by decide +kernel
theorem dX11_soon_94 : decode cX11_soon 94 = .ok (.iconst (-1), 1) := by decide +kernel
theorem dX11_soon_95 : decode cX11_soon 95 = .ok (.ireturn, 1) := by decide +kernel
theorem dX11_will_0 : decode cX11_will 0 = .ok (.aload_n 0, 1) := by decide +kernel
theorem dX11_will_1 : decode cX11_will 1 = .ok (.getfield 30, 3) := by decide +kernel
theorem dX11_will_4 : decode cX11_will 4 = .ok (.iload_n 1, 1) := by decide +kernel
theorem dX11_will_5 : decode cX11_will 5 = .ok (.invokevirtual 157, 3) := by decide +kernel
theorem dX11_will_8 : decode cX11_will 8 = .ok (.ifCond .eq 11, 3) := by decide +kernel
theorem dX11_will_11 : decode cX11_will 11 = .ok (.aload_n 0, 1) := by decide +kernel
theorem dX11_will_12 : decode cX11_will 12 = .ok (.iload_n 2, 1) := by decide +kernel
theorem dX11_will_13 : decode cX11_will 13 = .ok (.invokevirtual 339, 3) := by decide +kernel
theorem dX11_will_16 : decode cX11_will 16 = .ok (.ifCond .ne 5, 3) := by decide +kernel
theorem dX11_will_19 : decode cX11_will 19 = .ok (.iconst (-1), 1) := by decide +kernel
theorem dX11_will_20 : decode cX11_will 20 = .ok (.ireturn, 1) := by decide +kernel
theorem dX11_will_21 : decode cX11_will 21 = .ok (.aload_n 0, 1) := by decide +kernel
theorem dX11_will_22 : decode cX11_will 22 = .ok (.getfield 44, 3) := by decide +kernel
theorem dX11_will_25 : decode cX11_will 25 = .ok (.aload_n 0, 1) := by decide +kernel
theorem dX11_will_26 : decode cX11_will 26 = .ok (.getfield 40, 3) := by decide +kernel
theorem dX11_will_29 : decode cX11_will 29 = .ok (.invokevirtual 332, 3) := by decide +kernel
theorem dX11_will_32 : decode cX11_will 32 = .ok (.iconst 0, 1) := by decide +kernel
theorem dX11_will_33 : decode cX11_will 33 = .ok (.istore_n 3, 1) := by decide +kernel
theorem dX11_will_34 : decode cX11_will 34 = .ok (.iload_n 3, 1) := by decide +kernel
theorem dX11_will_35 : decode cX11_will 35 = .ok (.iload_n 2, 1) := by decide +kernel
theorem dX11_will_36 : decode cX11_will 36 = .ok (.if_icmp .ge 35, 3) := by decide +kernel
theorem dX11_will_39 : decode cX11_will 39 = .ok (.aload_n 0, 1) := by decide +kernel
theorem dX11_will_40 : decode cX11_will 40 = .ok (.getfield 44, 3) := by decide +kernel
theorem dX11_will_43 : decode cX11_will 43 = .ok (.aload_n 0, 1) := by decide +kernel
theorem dX11_will_44 : decode cX11_will 44 = .ok (.getfield 30, 3) := by decide +kernel
theorem dX11_will_47 : decode cX11_will 47 = .ok (.invokevirtual 255, 3) := by decide +kernel
theorem dX11_will_50 : decode cX11_will 50 = .ok (.istore 4, 2) := by decide +kernel
theorem dX11_will_52 : decode cX11_will 52 = .ok (.aload_n 0, 1) := by decide +kernel
theorem dX11_will_53 : decode cX11_will 53 = .ok (.getfield 44, 3) := by decide +kernel
theorem dX11_will_56 : decode cX11_will 56 = .ok (.aload_n 0, 1) := by decide +kernel
theorem dX11_will_57 : decode cX11_will 57 = .ok (.getfield 30, 3) := by decide +kernel
theorem dX11_will_60 : decode cX11_will 60 = .ok (.iload 4, 2) := by decide +kernel
theorem dX11_will_62 : decode cX11_will 62 = .ok (.invokevirtual 258, 3) := by decide +kernel
theorem dX11_will_65 : decode cX11_will 65 = .ok (.iinc 3 1, 3) := by decide +kernel
theorem dX11_will_68 : decode cX11_will 68 = .ok (.goto (-34), 3) := by decide +kernel
theorem dX11_will_71 : decode cX11_will 71 = .ok (.aload_n 0, 1) := by decide +kernel
theorem dX11_will_72 : decode cX11_will 72 = .ok (.getfield 44, 3) := by decide +kernel
theorem dX11_will_75 : decode cX11_will 75 = .ok (.getfield 172, 3) := by decide +kernel
theorem dX11_will_78 : decode cX11_will 78 = .ok (.iload_n 1, 1) := by decide +kernel
theorem dX11_will_79 : decode cX11_will 79 = .ok (.iaload, 1) := by decide +kernel
theorem dX11_will_80 : decode cX11_will 80 = .ok (.ireturn, 1) := by decide +kernel
theorem dX11_strength_0 : decode cX11_strength 0 = .ok (.aload_n 0, 1) := by decide +kernel
theorem dX11_strength_1 : decode cX11_strength 1 = .ok (.getfield 30, 3) := by decide +kernel
theorem dX11_strength_4 : decode cX11_strength 4 = .ok (.iload_n 1, 1) := by decide +kernel
theorem dX11_strength_5 : decode cX11_strength 5 = .ok (.invokevirtual 157, 3) := by decide +kernel
theorem dX11_strength_8 : decode cX11_strength 8 = .ok (.ifCond .eq 11, 3) := by decide +kernel
theorem dX11_strength_11 : decode cX11_strength 11 = .ok (.aload_n 0, 1) := by decide +kernel
theorem dX11_strength_12 : decode cX11_strength 12 = .ok (.iload_n 2, 1) := by decide +kernel
theorem dX11_strength_13 : decode cX11_strength 13 = .ok (.invokevirtual 339, 3) := by decide +kernel
theorem dX11_strength_16 : decode cX11_strength 16 = .ok (.ifCond .ne 5, 3) := by decide +kernel
theorem dX11_strength_19 : decode cX11_strength 19 = .ok (.iconst (-1), 1) := by decide +kernel
theorem dX11_strength_20 : decode cX11_strength 20 = .ok (.ireturn, 1) := by decide +kernel
theorem dX11_strength_21 : decode cX11_strength 21 = .ok (.aload_n 0, 1) := by decide +kernel
theorem dX11_strength_22 : decode cX11_strength 22 = .ok (.getfield 44, 3) := by decide +kernel
theorem dX11_strength_25 : decode cX11_strength 25 = .ok (.aload_n 0, 1) := by decide +kernel
theorem dX11_strength_26 : decode cX11_strength 26 = .ok (.getfield 40, 3) := by decide +kernel
theorem dX11_strength_29 : decode cX11_strength 29 = .ok (.invokevirtual 332, 3) := by decide +kernel
theorem dX11_strength_32 : decode cX11_strength 32 = .ok (.iconst 0, 1) := by decide +kernel
theorem dX11_strength_33 : decode cX11_strength 33 = .ok (.istore_n 3, 1) := by decide +kernel
theorem dX11_strength_34 : decode cX11_strength 34 = .ok (.iload_n 3, 1) := by decide +kernel
theorem dX11_strength_35 : decode cX11_strength 35 = .ok (.iload_n 2, 1) := by decide +kernel
theorem dX11_strength_36 : decode cX11_strength 36 = .ok (.if_icmp .ge 21, 3) := by decide +kernel
theorem dX11_strength_39 : decode cX11_strength 39 = .ok (.aload_n 0, 1) := by decide +kernel
theorem dX11_strength_40 : decode cX11_strength 40 = .ok (.getfield 44, 3) := by decide +kernel
theorem dX11_strength_43 : decode cX11_strength 43 = .ok (.aload_n 0, 1) := by decide +kernel
theorem dX11_strength_44 : decode cX11_strength 44 = .ok (.getfield 30, 3) := by decide +kernel
theorem dX11_strength_47 : decode cX11_strength 47 = .ok (.iconst 0, 1) := by decide +kernel
theorem dX11_strength_48 : decode cX11_strength 48 = .ok (.invokevirtual 258, 3) := by decide +kernel
theorem dX11_strength_51 : decode cX11_strength 51 = .ok (.iinc 3 1, 3) := by decide +kernel
theorem dX11_strength_54 : decode cX11_strength 54 = .ok (.goto (-20), 3) := by decide +kernel
theorem dX11_strength_57 : decode cX11_strength 57 = .ok (.aload_n 0, 1) := by decide +kernel
theorem dX11_strength_58 : decode cX11_strength 58 = .ok (.getfield 44, 3) := by decide +kernel
theorem dX11_strength_61 : decode cX11_strength 61 = .ok (.getfield 163, 3) := by decide +kernel
theorem dX11_strength_64 : decode cX11_strength 64 = .ok (.iload_n 1, 1) := by decide +kernel
theorem dX11_strength_65 : decode cX11_strength 65 = .ok (.iaload, 1) := by decide +kernel
theorem dX11_strength_66 : decode cX11_strength 66 = .ok (.ireturn, 1) := by decide +kernel
theorem dX11_grace_0 : decode cX11_grace 0 = .ok (.aload_n 0, 1) := by decide +kernel
theorem dX11_grace_1 : decode cX11_grace 1 = .ok (.getfield 44, 3) := by decide +kernel
theorem dX11_grace_4 : decode cX11_grace 4 = .ok (.aload_n 0, 1) := by decide +kernel
theorem dX11_grace_5 : decode cX11_grace 5 = .ok (.getfield 40, 3) := by decide +kernel
theorem dX11_grace_8 : decode cX11_grace 8 = .ok (.invokevirtual 332, 3) := by decide +kernel
theorem dX11_grace_11 : decode cX11_grace 11 = .ok (.iconst 0, 1) := by decide +kernel
theorem dX11_grace_12 : decode cX11_grace 12 = .ok (.istore_n 1, 1) := by decide +kernel
theorem dX11_grace_13 : decode cX11_grace 13 = .ok (.iload_n 1, 1) := by decide +kernel
theorem dX11_grace_14 : decode cX11_grace 14 = .ok (.bipush 60, 2) := by decide +kernel
theorem dX11_grace_16 : decode cX11_grace 16 = .ok (.if_icmp .gt 44, 3) := by decide +kernel
theorem dX11_grace_19 : decode cX11_grace 19 = .ok (.aload_n 0, 1) := by decide +kernel
theorem dX11_grace_20 : decode cX11_grace 20 = .ok (.getfield 44, 3) := by decide +kernel
theorem dX11_grace_23 : decode cX11_grace 23 = .ok (.aload_n 0, 1) := by decide +kernel
theorem dX11_grace_24 : decode cX11_grace 24 = .ok (.getfield 30, 3) := by decide +kernel
theorem dX11_grace_27 : decode cX11_grace 27 = .ok (.invokevirtual 209, 3) := by decide +kernel
theorem dX11_grace_30 : decode cX11_grace 30 = .ok (.aload_n 0, 1) := by decide +kernel
theorem dX11_grace_31 : decode cX11_grace 31 = .ok (.getfield 30, 3) := by decide +kernel
theorem dX11_grace_34 : decode cX11_grace 34 = .ok (.invokevirtual 311, 3) := by decide +kernel
theorem dX11_grace_37 : decode cX11_grace 37 = .ok (.if_icmp .ne 5, 3) := by decide +kernel
theorem dX11_grace_40 : decode cX11_grace 40 = .ok (.iload_n 1, 1) := by decide +kernel
theorem dX11_grace_41 : decode cX11_grace 41 = .ok (.ireturn, 1) := by decide +kernel
theorem dX11_grace_42 : decode cX11_grace 42 = .ok (.aload_n 0, 1) := by decide +kernel
theorem dX11_grace_43 : decode cX11_grace 43 = .ok (.getfield 44, 3) := by decide +kernel
theorem dX11_grace_46 : decode cX11_grace 46 = .ok (.aload_n 0, 1) := by decide +kernel
theorem dX11_grace_47 : decode cX11_grace 47 = .ok (.getfield 30, 3) := by decide +kernel
theorem dX11_grace_50 : decode cX11_grace 50 = .ok (.iconst 0, 1) := by decide +kernel
theorem dX11_grace_51 : decode cX11_grace 51 = .ok (.invokevirtual 258, 3) := by decide +kernel
theorem dX11_grace_54 : decode cX11_grace 54 = .ok (.iinc 1 1, 3) := by decide +kernel
theorem dX11_grace_57 : decode cX11_grace 57 = .ok (.goto (-44), 3) := by decide +kernel
theorem dX11_grace_60 : decode cX11_grace 60 = .ok (.iconst (-1), 1) := by decide +kernel
theorem dX11_grace_61 : decode cX11_grace 61 = .ok (.ireturn, 1) := by decide +kernel
theorem dX11_dented_0 : decode cX11_dented 0 = .ok (.aload_n 0, 1) := by decide +kernel
theorem dX11_dented_1 : decode cX11_dented 1 = .ok (.getfield 30, 3) := by decide +kernel
theorem dX11_dented_4 : decode cX11_dented 4 = .ok (.getfield 132, 3) := by decide +kernel
theorem dX11_dented_7 : decode cX11_dented 7 = .ok (.ifCond .ne 7, 3) := by decide +kernel
theorem dX11_dented_10 : decode cX11_dented 10 = .ok (.iconst (-1), 1) := by decide +kernel
theorem dX11_dented_11 : decode cX11_dented 11 = .ok (.goto 14, 3) := by decide +kernel
theorem dX11_dented_14 : decode cX11_dented 14 = .ok (.aload_n 0, 1) := by decide +kernel
theorem dX11_dented_15 : decode cX11_dented 15 = .ok (.getfield 79, 3) := by decide +kernel
theorem dX11_dented_18 : decode cX11_dented 18 = .ok (.iload_n 1, 1) := by decide +kernel
theorem dX11_dented_19 : decode cX11_dented 19 = .ok (.iconst 1, 1) := by decide +kernel
theorem dX11_dented_20 : decode cX11_dented 20 = .ok (.iload_n 2, 1) := by decide +kernel
theorem dX11_dented_21 : decode cX11_dented 21 = .ok (.iload_n 3, 1) := by decide +kernel
theorem dX11_dented_22 : decode cX11_dented 22 = .ok (.invokevirtual 342, 3) := by decide +kernel
theorem dX11_dented_25 : decode cX11_dented 25 = .ok (.ireturn, 1) := by decide +kernel
theorem dX11_held_0 : decode cX11_held 0 = .ok (.aload_n 0, 1) := by decide +kernel
theorem dX11_held_1 : decode cX11_held 1 = .ok (.getfield 30, 3) := by decide +kernel
theorem dX11_held_4 : decode cX11_held 4 = .ok (.getfield 132, 3) := by decide +kernel
theorem dX11_held_7 : decode cX11_held 7 = .ok (.ifCond .ne 7, 3) := by decide +kernel
theorem dX11_held_10 : decode cX11_held 10 = .ok (.iconst (-1), 1) := by decide +kernel
theorem dX11_held_11 : decode cX11_held 11 = .ok (.goto 14, 3) := by decide +kernel
theorem dX11_held_14 : decode cX11_held 14 = .ok (.aload_n 0, 1) := by decide +kernel
theorem dX11_held_15 : decode cX11_held 15 = .ok (.getfield 79, 3) := by decide +kernel
theorem dX11_held_18 : decode cX11_held 18 = .ok (.iload_n 1, 1) := by decide +kernel
theorem dX11_held_19 : decode cX11_held 19 = .ok (.iconst 0, 1) := by decide +kernel
theorem dX11_held_20 : decode cX11_held 20 = .ok (.iload_n 2, 1) := by decide +kernel
theorem dX11_held_21 : decode cX11_held 21 = .ok (.iload_n 3, 1) := by decide +kernel
theorem dX11_held_22 : decode cX11_held 22 = .ok (.invokevirtual 342, 3) := by decide +kernel
theorem dX11_held_25 : decode cX11_held 25 = .ok (.ireturn, 1) := by decide +kernel
theorem dX11_untell_0 : decode cX11_untell 0 = .ok (.aload_n 0, 1) := by decide +kernel
theorem dX11_untell_1 : decode cX11_untell 1 = .ok (.getfield 79, 3) := by decide +kernel
theorem dX11_untell_4 : decode cX11_untell 4 = .ok (.iload_n 1, 1) := by decide +kernel
theorem dX11_untell_5 : decode cX11_untell 5 = .ok (.invokevirtual 346, 3) := by decide +kernel
theorem dX11_untell_8 : decode cX11_untell 8 = .ok (.ireturn, 1) := by decide +kernel
theorem dX11_later_0 : decode cX11_later 0 = .ok (.aload_n 0, 1) := by decide +kernel
theorem dX11_later_1 : decode cX11_later 1 = .ok (.getfield 79, 3) := by decide +kernel
theorem dX11_later_4 : decode cX11_later 4 = .ok (.iload_n 1, 1) := by decide +kernel
theorem dX11_later_5 : decode cX11_later 5 = .ok (.invokevirtual 349, 3) := by decide +kernel
theorem dX11_later_8 : decode cX11_later 8 = .ok (.ireturn, 1) := by decide +kernel
theorem dX11_rows_0 : decode cX11_rows 0 = .ok (.aload_n 0, 1) := by decide +kernel
theorem dX11_rows_1 : decode cX11_rows 1 = .ok (.getfield 79, 3) := by decide +kernel
theorem dX11_rows_4 : decode cX11_rows 4 = .ok (.aload_n 0, 1) := by decide +kernel
theorem dX11_rows_5 : decode cX11_rows 5 = .ok (.getfield 30, 3) := by decide +kernel
theorem dX11_rows_8 : decode cX11_rows 8 = .ok (.iload_n 1, 1) := by decide +kernel
theorem dX11_rows_9 : decode cX11_rows 9 = .ok (.invokevirtual 352, 3) := by decide +kernel
theorem dX11_rows_12 : decode cX11_rows 12 = .ok (.ireturn, 1) := by decide +kernel
theorem dX11_sure_0 : decode cX11_sure 0 = .ok (.iload_n 1, 1) := by decide +kernel
theorem dX11_sure_1 : decode cX11_sure 1 = .ok (.iconst 1, 1) := by decide +kernel
theorem dX11_sure_2 : decode cX11_sure 2 = .ok (.if_icmp .lt 8, 3) := by decide +kernel
theorem dX11_sure_5 : decode cX11_sure 5 = .ok (.iload_n 1, 1) := by decide +kernel
theorem dX11_sure_6 : decode cX11_sure 6 = .ok (.iconst 3, 1) := by decide +kernel
theorem dX11_sure_7 : decode cX11_sure 7 = .ok (.if_icmp .le 6, 3) := by decide +kernel
theorem dX11_sure_10 : decode cX11_sure 10 = .ok (.bipush (-3), 2) := by decide +kernel
theorem dX11_sure_12 : decode cX11_sure 12 = .ok (.ireturn, 1) := by decide +kernel
theorem dX11_sure_13 : decode cX11_sure 13 = .ok (.aload_n 0, 1) := by decide +kernel
theorem dX11_sure_14 : decode cX11_sure 14 = .ok (.getfield 79, 3) := by decide +kernel
theorem dX11_sure_17 : decode cX11_sure 17 = .ok (.aload_n 0, 1) := by decide +kernel
theorem dX11_sure_18 : decode cX11_sure 18 = .ok (.getfield 30, 3) := by decide +kernel
theorem dX11_sure_21 : decode cX11_sure 21 = .ok (.iload_n 2, 1) := by decide +kernel
theorem dX11_sure_22 : decode cX11_sure 22 = .ok (.invokevirtual 352, 3) := by decide +kernel
theorem dX11_sure_25 : decode cX11_sure 25 = .ok (.istore_n 3, 1) := by decide +kernel
theorem dX11_sure_26 : decode cX11_sure 26 = .ok (.iload_n 3, 1) := by decide +kernel
theorem dX11_sure_27 : decode cX11_sure 27 = .ok (.ifCond .ne 6, 3) := by decide +kernel
theorem dX11_sure_30 : decode cX11_sure 30 = .ok (.bipush (-3), 2) := by decide +kernel
theorem dX11_sure_32 : decode cX11_sure 32 = .ok (.ireturn, 1) := by decide +kernel
theorem dX11_sure_33 : decode cX11_sure 33 = .ok (.iconst 0, 1) := by decide +kernel
theorem dX11_sure_34 : decode cX11_sure 34 = .ok (.istore 4, 2) := by decide +kernel
theorem dX11_sure_36 : decode cX11_sure 36 = .ok (.iload 4, 2) := by decide +kernel
theorem dX11_sure_38 : decode cX11_sure 38 = .ok (.aload_n 0, 1) := by decide +kernel
theorem dX11_sure_39 : decode cX11_sure 39 = .ok (.getfield 30, 3) := by decide +kernel
theorem dX11_sure_42 : decode cX11_sure 42 = .ok (.getfield 212, 3) := by decide +kernel
theorem dX11_sure_45 : decode cX11_sure 45 = .ok (.if_icmp .gt 46, 3) := by decide +kernel
theorem dX11_sure_48 : decode cX11_sure 48 = .ok (.aload_n 0, 1) := by decide +kernel
theorem dX11_sure_49 : decode cX11_sure 49 = .ok (.getfield 79, 3) := by decide +kernel
theorem dX11_sure_52 : decode cX11_sure 52 = .ok (.getfield 355, 3) := by decide +kernel
theorem dX11_sure_55 : decode cX11_sure 55 = .ok (.iload_n 1, 1) := by decide +kernel
theorem dX11_sure_56 : decode cX11_sure 56 = .ok (.iconst 1, 1) := by decide +kernel
theorem dX11_sure_57 : decode cX11_sure 57 = .ok (.isub, 1) := by decide +kernel
theorem dX11_sure_58 : decode cX11_sure 58 = .ok (.aaload, 1) := by decide +kernel
theorem dX11_sure_59 : decode cX11_sure 59 = .ok (.iload 4, 2) := by decide +kernel
theorem dX11_sure_61 : decode cX11_sure 61 = .ok (.iaload, 1) := by decide +kernel
theorem dX11_sure_62 : decode cX11_sure 62 = .ok (.iload_n 3, 1) := by decide +kernel
theorem dX11_sure_63 : decode cX11_sure 63 = .ok (.if_icmp .ne 22, 3) := by decide +kernel
theorem dX11_sure_66 : decode cX11_sure 66 = .ok (.iload 4, 2) := by decide +kernel
theorem dX11_sure_68 : decode cX11_sure 68 = .ok (.aload_n 0, 1) := by decide +kernel
theorem dX11_sure_69 : decode cX11_sure 69 = .ok (.getfield 30, 3) := by decide +kernel
theorem dX11_sure_72 : decode cX11_sure 72 = .ok (.getfield 212, 3) := by decide +kernel
theorem dX11_sure_75 : decode cX11_sure 75 = .ok (.if_icmp .ne 7, 3) := by decide +kernel
theorem dX11_sure_78 : decode cX11_sure 78 = .ok (.iconst (-1), 1) := by decide +kernel
theorem dX11_sure_79 : decode cX11_sure 79 = .ok (.goto 5, 3) := by decide +kernel
theorem dX11_sure_82 : decode cX11_sure 82 = .ok (.iload 4, 2) := by decide +kernel
theorem dX11_sure_84 : decode cX11_sure 84 = .ok (.ireturn, 1) := by decide +kernel
theorem dX11_sure_85 : decode cX11_sure 85 = .ok (.iinc 4 1, 3) := by decide +kernel
theorem dX11_sure_88 : decode cX11_sure 88 = .ok (.goto (-52), 3) := by decide +kernel
theorem dX11_sure_91 : decode cX11_sure 91 = .ok (.bipush (-2), 2) := by decide +kernel
theorem dX11_sure_93 : decode cX11_sure 93 = .ok (.ireturn, 1) := by decide +kernel
theorem dX11_ask_0 : decode cX11_ask 0 = .ok (.iload_n 1, 1) := by decide +kernel
theorem dX11_ask_1 : decode cX11_ask 1 = .ok (.ifCond .lt 23, 3) := by decide +kernel
theorem dX11_ask_4 : decode cX11_ask 4 = .ok (.iload_n 1, 1) := by decide +kernel
theorem dX11_ask_5 : decode cX11_ask 5 = .ok (.iconst 1, 1) := by decide +kernel
theorem dX11_ask_6 : decode cX11_ask 6 = .ok (.if_icmp .gt 18, 3) := by decide +kernel
theorem dX11_ask_9 : decode cX11_ask 9 = .ok (.aload_n 0, 1) := by decide +kernel
theorem dX11_ask_10 : decode cX11_ask 10 = .ok (.getfield 79, 3) := by decide +kernel
theorem dX11_ask_13 : decode cX11_ask 13 = .ok (.aload_n 0, 1) := by decide +kernel
theorem dX11_ask_14 : decode cX11_ask 14 = .ok (.getfield 30, 3) := by decide +kernel
theorem dX11_ask_17 : decode cX11_ask 17 = .ok (.iload_n 2, 1) := by decide +kernel
theorem dX11_ask_18 : decode cX11_ask 18 = .ok (.invokevirtual 352, 3) := by decide +kernel
theorem dX11_ask_21 : decode cX11_ask 21 = .ok (.ifCond .ne 5, 3) := by decide +kernel
theorem dX11_ask_24 : decode cX11_ask 24 = .ok (.iconst (-1), 1) := by decide +kernel
theorem dX11_ask_25 : decode cX11_ask 25 = .ok (.ireturn, 1) := by decide +kernel
theorem dX11_ask_26 : decode cX11_ask 26 = .ok (.iconst 1, 1) := by decide +kernel
theorem dX11_ask_27 : decode cX11_ask 27 = .ok (.istore_n 3, 1) := by decide +kernel
theorem dX11_ask_28 : decode cX11_ask 28 = .ok (.iconst 2, 1) := by decide +kernel
theorem dX11_ask_29 : decode cX11_ask 29 = .ok (.istore 4, 2) := by decide +kernel
theorem dX11_ask_31 : decode cX11_ask 31 = .ok (.iload 4, 2) := by decide +kernel
theorem dX11_ask_33 : decode cX11_ask 33 = .ok (.iconst 3, 1) := by decide +kernel
theorem dX11_ask_34 : decode cX11_ask 34 = .ok (.if_icmp .gt 32, 3) := by decide +kernel
theorem dX11_ask_37 : decode cX11_ask 37 = .ok (.aload_n 0, 1) := by decide +kernel
theorem dX11_ask_38 : decode cX11_ask 38 = .ok (.getfield 79, 3) := by decide +kernel
theorem dX11_ask_41 : decode cX11_ask 41 = .ok (.iload 4, 2) := by decide +kernel
theorem dX11_ask_43 : decode cX11_ask 43 = .ok (.invokevirtual 359, 3) := by decide +kernel
theorem dX11_ask_46 : decode cX11_ask 46 = .ok (.aload_n 0, 1) := by decide +kernel
theorem dX11_ask_47 : decode cX11_ask 47 = .ok (.getfield 79, 3) := by decide +kernel
theorem dX11_ask_50 : decode cX11_ask 50 = .ok (.iload_n 3, 1) := by decide +kernel
theorem dX11_ask_51 : decode cX11_ask 51 = .ok (.invokevirtual 359, 3) := by decide +kernel
theorem dX11_ask_54 : decode cX11_ask 54 = .ok (.if_icmp .ge 6, 3) := by decide +kernel
theorem dX11_ask_57 : decode cX11_ask 57 = .ok (.iload 4, 2) := by decide +kernel
theorem dX11_ask_59 : decode cX11_ask 59 = .ok (.istore_n 3, 1) := by decide +kernel
theorem dX11_ask_60 : decode cX11_ask 60 = .ok (.iinc 4 1, 3) := by decide +kernel
theorem dX11_ask_63 : decode cX11_ask 63 = .ok (.goto (-32), 3) := by decide +kernel
theorem dX11_ask_66 : decode cX11_ask 66 = .ok (.iload_n 1, 1) := by decide +kernel
theorem dX11_ask_67 : decode cX11_ask 67 = .ok (.ifCond .ne 7, 3) := by decide +kernel
theorem dX11_ask_70 : decode cX11_ask 70 = .ok (.iload_n 3, 1) := by decide +kernel
theorem dX11_ask_71 : decode cX11_ask 71 = .ok (.goto 11, 3) := by decide +kernel
theorem dX11_ask_74 : decode cX11_ask 74 = .ok (.aload_n 0, 1) := by decide +kernel
theorem dX11_ask_75 : decode cX11_ask 75 = .ok (.getfield 79, 3) := by decide +kernel
theorem dX11_ask_78 : decode cX11_ask 78 = .ok (.iload_n 3, 1) := by decide +kernel
theorem dX11_ask_79 : decode cX11_ask 79 = .ok (.invokevirtual 359, 3) := by decide +kernel
theorem dX11_ask_82 : decode cX11_ask 82 = .ok (.ireturn, 1) := by decide +kernel
theorem dX11_isSent_0 : decode cX11_isSent 0 = .ok (.aload_n 0, 1) := by decide +kernel
theorem dX11_isSent_1 : decode cX11_isSent 1 = .ok (.getfield 30, 3) := by decide +kernel
theorem dX11_isSent_4 : decode cX11_isSent 4 = .ok (.iload_n 1, 1) := by decide +kernel
theorem dX11_isSent_5 : decode cX11_isSent 5 = .ok (.invokevirtual 157, 3) := by decide +kernel
theorem dX11_isSent_8 : decode cX11_isSent 8 = .ok (.ifCond .eq 26, 3) := by decide +kernel
theorem dX11_isSent_11 : decode cX11_isSent 11 = .ok (.aload_n 0, 1) := by decide +kernel
theorem dX11_isSent_12 : decode cX11_isSent 12 = .ok (.getfield 30, 3) := by decide +kernel
theorem dX11_isSent_15 : decode cX11_isSent 15 = .ok (.aload_n 0, 1) := by decide +kernel
theorem dX11_isSent_16 : decode cX11_isSent 16 = .ok (.getfield 40, 3) := by decide +kernel
theorem dX11_isSent_19 : decode cX11_isSent 19 = .ok (.getfield 175, 3) := by decide +kernel
theorem dX11_isSent_22 : decode cX11_isSent 22 = .ok (.iload_n 1, 1) := by decide +kernel
theorem dX11_isSent_23 : decode cX11_isSent 23 = .ok (.iaload, 1) := by decide +kernel
theorem dX11_isSent_24 : decode cX11_isSent 24 = .ok (.invokevirtual 135, 3) := by decide +kernel
theorem dX11_isSent_27 : decode cX11_isSent 27 = .ok (.ifCond .eq 7, 3) := by decide +kernel
theorem dX11_isSent_30 : decode cX11_isSent 30 = .ok (.iconst 1, 1) := by decide +kernel
theorem dX11_isSent_31 : decode cX11_isSent 31 = .ok (.goto 4, 3) := by decide +kernel
theorem dX11_isSent_34 : decode cX11_isSent 34 = .ok (.iconst 0, 1) := by decide +kernel
theorem dX11_isSent_35 : decode cX11_isSent 35 = .ok (.ireturn, 1) := by decide +kernel
theorem dX11_hasRoomNow_0 : decode cX11_hasRoomNow 0 = .ok (.aload_n 0, 1) := by decide +kernel
theorem dX11_hasRoomNow_1 : decode cX11_hasRoomNow 1 = .ok (.getfield 40, 3) := by decide +kernel
theorem dX11_hasRoomNow_4 : decode cX11_hasRoomNow 4 = .ok (.iload_n 1, 1) := by decide +kernel
theorem dX11_hasRoomNow_5 : decode cX11_hasRoomNow 5 = .ok (.invokevirtual 150, 3) := by decide +kernel
theorem dX11_hasRoomNow_8 : decode cX11_hasRoomNow 8 = .ok (.invokestatic 185, 3) := by decide +kernel
theorem dX11_hasRoomNow_11 : decode cX11_hasRoomNow 11 = .ok (.aload_n 0, 1) := by decide +kernel
theorem dX11_hasRoomNow_12 : decode cX11_hasRoomNow 12 = .ok (.getfield 30, 3) := by decide +kernel
theorem dX11_hasRoomNow_15 : decode cX11_hasRoomNow 15 = .ok (.getfield 144, 3) := by decide +kernel
theorem dX11_hasRoomNow_18 : decode cX11_hasRoomNow 18 = .ok (.iload_n 1, 1) := by decide +kernel
theorem dX11_hasRoomNow_19 : decode cX11_hasRoomNow 19 = .ok (.iaload, 1) := by decide +kernel
theorem dX11_hasRoomNow_20 : decode cX11_hasRoomNow 20 = .ok (.if_icmp .ge 7, 3) := by decide +kernel
theorem dX11_hasRoomNow_23 : decode cX11_hasRoomNow 23 = .ok (.iconst 1, 1) := by decide +kernel
theorem dX11_hasRoomNow_24 : decode cX11_hasRoomNow 24 = .ok (.goto 4, 3) := by decide +kernel
theorem dX11_hasRoomNow_27 : decode cX11_hasRoomNow 27 = .ok (.iconst 0, 1) := by decide +kernel
theorem dX11_hasRoomNow_28 : decode cX11_hasRoomNow 28 = .ok (.ireturn, 1) := by decide +kernel
theorem dX11_isAhead_0 : decode cX11_isAhead 0 = .ok (.iload_n 1, 1) := by decide +kernel
theorem dX11_isAhead_1 : decode cX11_isAhead 1 = .ok (.ifCond .lt 13, 3) := by decide +kernel
theorem dX11_isAhead_4 : decode cX11_isAhead 4 = .ok (.iload_n 1, 1) := by decide +kernel
theorem dX11_isAhead_5 : decode cX11_isAhead 5 = .ok (.bipush 60, 2) := by decide +kernel
theorem dX11_isAhead_7 : decode cX11_isAhead 7 = .ok (.if_icmp .gt 7, 3) := by decide +kernel
theorem dX11_isAhead_10 : decode cX11_isAhead 10 = .ok (.iconst 1, 1) := by decide +kernel
theorem dX11_isAhead_11 : decode cX11_isAhead 11 = .ok (.goto 4, 3) := by decide +kernel
theorem dX11_isAhead_14 : decode cX11_isAhead 14 = .ok (.iconst 0, 1) := by decide +kernel
theorem dX11_isAhead_15 : decode cX11_isAhead 15 = .ok (.ireturn, 1) := by decide +kernel
theorem dX11_layDownSending_0 : decode cX11_layDownSending 0 = .ok (.aload_n 0, 1) := by decide +kernel
theorem dX11_layDownSending_1 : decode cX11_layDownSending 1 = .ok (.aload_n 0, 1) := by decide +kernel
theorem dX11_layDownSending_2 : decode cX11_layDownSending 2 = .ok (.getfield 30, 3) := by decide +kernel
theorem dX11_layDownSending_5 : decode cX11_layDownSending 5 = .ok (.getfield 132, 3) := by decide +kernel
theorem dX11_layDownSending_8 : decode cX11_layDownSending 8 = .ok (.putfield 89, 3) := by decide +kernel
theorem dX11_layDownSending_11 : decode cX11_layDownSending 11 = .ok (.aload_n 0, 1) := by decide +kernel
theorem dX11_layDownSending_12 : decode cX11_layDownSending 12 = .ok (.getfield 65, 3) := by decide +kernel
theorem dX11_layDownSending_15 : decode cX11_layDownSending 15 = .ok (.getfield 362, 3) := by decide +kernel
theorem dX11_layDownSending_18 : decode cX11_layDownSending 18 = .ok (.iconst 0, 1) := by decide +kernel
theorem dX11_layDownSending_19 : decode cX11_layDownSending 19 = .ok (.aload_n 0, 1) := by decide +kernel
theorem dX11_layDownSending_20 : decode cX11_layDownSending 20 = .ok (.getfield 86, 3) := by decide +kernel
theorem dX11_layDownSending_23 : decode cX11_layDownSending 23 = .ok (.iconst 0, 1) := by decide +kernel
theorem dX11_layDownSending_24 : decode cX11_layDownSending 24 = .ok (.aload_n 0, 1) := by decide +kernel
theorem dX11_layDownSending_25 : decode cX11_layDownSending 25 = .ok (.getfield 89, 3) := by decide +kernel
theorem dX11_layDownSending_28 : decode cX11_layDownSending 28 = .ok (.invokestatic 365, 3) := by decide +kernel
theorem dX11_layDownSending_31 : decode cX11_layDownSending 31 = .ok (.return_, 1) := by decide +kernel
theorem dX11_wouldAllCount_0 : decode cX11_wouldAllCount 0 = .ok (.iload_n 2, 1) := by decide +kernel
theorem dX11_wouldAllCount_1 : decode cX11_wouldAllCount 1 = .ok (.invokestatic 185, 3) := by decide +kernel
theorem dX11_wouldAllCount_4 : decode cX11_wouldAllCount 4 = .ok (.istore_n 3, 1) := by decide +kernel
theorem dX11_wouldAllCount_5 : decode cX11_wouldAllCount 5 = .ok (.iload_n 3, 1) := by decide +kernel
theorem dX11_wouldAllCount_6 : decode cX11_wouldAllCount 6 = .ok (.aload_n 0, 1) := by decide +kernel
theorem dX11_wouldAllCount_7 : decode cX11_wouldAllCount 7 = .ok (.getfield 30, 3) := by decide +kernel
theorem dX11_wouldAllCount_10 : decode cX11_wouldAllCount 10 = .ok (.getfield 144, 3) := by decide +kernel
theorem dX11_wouldAllCount_13 : decode cX11_wouldAllCount 13 = .ok (.iload_n 1, 1) := by decide +kernel
theorem dX11_wouldAllCount_14 : decode cX11_wouldAllCount 14 = .ok (.iaload, 1) := by decide +kernel
theorem dX11_wouldAllCount_15 : decode cX11_wouldAllCount 15 = .ok (.if_icmp .gt 37, 3) := by decide +kernel
theorem dX11_wouldAllCount_18 : decode cX11_wouldAllCount 18 = .ok (.aload_n 0, 1) := by decide +kernel
theorem dX11_wouldAllCount_19 : decode cX11_wouldAllCount 19 = .ok (.getfield 30, 3) := by decide +kernel
theorem dX11_wouldAllCount_22 : decode cX11_wouldAllCount 22 = .ok (.iload_n 2, 1) := by decide +kernel
theorem dX11_wouldAllCount_23 : decode cX11_wouldAllCount 23 = .ok (.invokevirtual 154, 3) := by decide +kernel
theorem dX11_wouldAllCount_26 : decode cX11_wouldAllCount 26 = .ok (.ifCond .ne 26, 3) := by decide +kernel
theorem dX11_wouldAllCount_29 : decode cX11_wouldAllCount 29 = .ok (.aload_n 0, 1) := by decide +kernel
theorem dX11_wouldAllCount_30 : decode cX11_wouldAllCount 30 = .ok (.getfield 30, 3) := by decide +kernel
theorem dX11_wouldAllCount_33 : decode cX11_wouldAllCount 33 = .ok (.aload_n 0, 1) := by decide +kernel
theorem dX11_wouldAllCount_34 : decode cX11_wouldAllCount 34 = .ok (.getfield 40, 3) := by decide +kernel
theorem dX11_wouldAllCount_37 : decode cX11_wouldAllCount 37 = .ok (.iload_n 1, 1) := by decide +kernel
theorem dX11_wouldAllCount_38 : decode cX11_wouldAllCount 38 = .ok (.iload_n 2, 1) := by decide +kernel
theorem dX11_wouldAllCount_39 : decode cX11_wouldAllCount 39 = .ok (.iload_n 3, 1) := by decide +kernel
theorem dX11_wouldAllCount_40 : decode cX11_wouldAllCount 40 = .ok (.iconst 0, 1) := by decide +kernel
theorem dX11_wouldAllCount_41 : decode cX11_wouldAllCount 41 = .ok (.invokevirtual 315, 3) := by decide +kernel
theorem dX11_wouldAllCount_44 : decode cX11_wouldAllCount 44 = .ok (.iload_n 2, 1) := by decide +kernel
theorem dX11_wouldAllCount_45 : decode cX11_wouldAllCount 45 = .ok (.if_icmp .ne 7, 3) := by decide +kernel
theorem dX11_wouldAllCount_48 : decode cX11_wouldAllCount 48 = .ok (.iconst 1, 1) := by decide +kernel
theorem dX11_wouldAllCount_49 : decode cX11_wouldAllCount 49 = .ok (.goto 4, 3) := by decide +kernel
theorem dX11_wouldAllCount_52 : decode cX11_wouldAllCount 52 = .ok (.iconst 0, 1) := by decide +kernel
theorem dX11_wouldAllCount_53 : decode cX11_wouldAllCount 53 = .ok (.ireturn, 1) := by decide +kernel
theorem dX11_countingExchanged_0 : decode cX11_countingExchanged 0 = .ok (.aload_n 0, 1) := by decide +kernel
theorem dX11_countingExchanged_1 : decode cX11_countingExchanged 1 = .ok (.getfield 44, 3) := by decide +kernel
theorem dX11_countingExchanged_4 : decode cX11_countingExchanged 4 = .ok (.aload_n 0, 1) := by decide +kernel
theorem dX11_countingExchanged_5 : decode cX11_countingExchanged 5 = .ok (.getfield 40, 3) := by decide +kernel
theorem dX11_countingExchanged_8 : decode cX11_countingExchanged 8 = .ok (.invokevirtual 332, 3) := by decide +kernel
theorem dX11_countingExchanged_11 : decode cX11_countingExchanged 11 = .ok (.aload_n 0, 1) := by decide +kernel
theorem dX11_countingExchanged_12 : decode cX11_countingExchanged 12 = .ok (.getfield 44, 3) := by decide +kernel
theorem dX11_countingExchanged_15 : decode cX11_countingExchanged 15 = .ok (.getfield 175, 3) := by decide +kernel
theorem dX11_countingExchanged_18 : decode cX11_countingExchanged 18 = .ok (.iload_n 1, 1) := by decide +kernel
theorem dX11_countingExchanged_19 : decode cX11_countingExchanged 19 = .ok (.aload_n 0, 1) := by decide +kernel
theorem dX11_countingExchanged_20 : decode cX11_countingExchanged 20 = .ok (.getfield 40, 3) := by decide +kernel
theorem dX11_countingExchanged_23 : decode cX11_countingExchanged 23 = .ok (.getfield 175, 3) := by decide +kernel
theorem dX11_countingExchanged_26 : decode cX11_countingExchanged 26 = .ok (.iload_n 2, 1) := by decide +kernel
theorem dX11_countingExchanged_27 : decode cX11_countingExchanged 27 = .ok (.iaload, 1) := by decide +kernel
theorem dX11_countingExchanged_28 : decode cX11_countingExchanged 28 = .ok (.iastore, 1) := by decide +kernel
theorem dX11_countingExchanged_29 : decode cX11_countingExchanged 29 = .ok (.aload_n 0, 1) := by decide +kernel
theorem dX11_countingExchanged_30 : decode cX11_countingExchanged 30 = .ok (.getfield 44, 3) := by decide +kernel
theorem dX11_countingExchanged_33 : decode cX11_countingExchanged 33 = .ok (.getfield 175, 3) := by decide +kernel
theorem dX11_countingExchanged_36 : decode cX11_countingExchanged 36 = .ok (.iload_n 2, 1) := by decide +kernel
theorem dX11_countingExchanged_37 : decode cX11_countingExchanged 37 = .ok (.aload_n 0, 1) := by decide +kernel
theorem dX11_countingExchanged_38 : decode cX11_countingExchanged 38 = .ok (.getfield 40, 3) := by decide +kernel
theorem dX11_countingExchanged_41 : decode cX11_countingExchanged 41 = .ok (.getfield 175, 3) := by decide +kernel
theorem dX11_countingExchanged_44 : decode cX11_countingExchanged 44 = .ok (.iload_n 1, 1) := by decide +kernel
theorem dX11_countingExchanged_45 : decode cX11_countingExchanged 45 = .ok (.iaload, 1) := by decide +kernel
theorem dX11_countingExchanged_46 : decode cX11_countingExchanged 46 = .ok (.iastore, 1) := by decide +kernel
theorem dX11_countingExchanged_47 : decode cX11_countingExchanged 47 = .ok (.aload_n 0, 1) := by decide +kernel
theorem dX11_countingExchanged_48 : decode cX11_countingExchanged 48 = .ok (.getfield 44, 3) := by decide +kernel
theorem dX11_countingExchanged_51 : decode cX11_countingExchanged 51 = .ok (.aload_n 0, 1) := by decide +kernel
theorem dX11_countingExchanged_52 : decode cX11_countingExchanged 52 = .ok (.getfield 30, 3) := by decide +kernel
theorem dX11_countingExchanged_55 : decode cX11_countingExchanged 55 = .ok (.iconst 0, 1) := by decide +kernel
theorem dX11_countingExchanged_56 : decode cX11_countingExchanged 56 = .ok (.invokevirtual 194, 3) := by decide +kernel
theorem dX11_countingExchanged_59 : decode cX11_countingExchanged 59 = .ok (.invokestatic 185, 3) := by decide +kernel
theorem dX11_countingExchanged_62 : decode cX11_countingExchanged 62 = .ok (.ireturn, 1) := by decide +kernel
theorem dX11_findWhereEachCould_0 : decode cX11_findWhereEachCould 0 = .ok (.iconst 0, 1) := by decide +kernel
theorem dX11_findWhereEachCould_1 : decode cX11_findWhereEachCould 1 = .ok (.istore_n 1, 1) := by decide +kernel
theorem dX11_findWhereEachCould_2 : decode cX11_findWhereEachCould 2 = .ok (.iload_n 1, 1) := by decide +kernel
theorem dX11_findWhereEachCould_3 : decode cX11_findWhereEachCould 3 = .ok (.aload_n 0, 1) := by decide +kernel
theorem dX11_findWhereEachCould_4 : decode cX11_findWhereEachCould 4 = .ok (.getfield 30, 3) := by decide +kernel
theorem dX11_findWhereEachCould_7 : decode cX11_findWhereEachCould 7 = .ok (.getfield 132, 3) := by decide +kernel
theorem dX11_findWhereEachCould_10 : decode cX11_findWhereEachCould 10 = .ok (.if_icmp .ge 67, 3) := by decide +kernel
theorem dX11_findWhereEachCould_13 : decode cX11_findWhereEachCould 13 = .ok (.aload_n 0, 1) := by decide +kernel
theorem dX11_findWhereEachCould_14 : decode cX11_findWhereEachCould 14 = .ok (.getfield 83, 3) := by decide +kernel
theorem dX11_findWhereEachCould_17 : decode cX11_findWhereEachCould 17 = .ok (.iload_n 1, 1) := by decide +kernel
theorem dX11_findWhereEachCould_18 : decode cX11_findWhereEachCould 18 = .ok (.iconst 0, 1) := by decide +kernel
theorem dX11_findWhereEachCould_19 : decode cX11_findWhereEachCould 19 = .ok (.iastore, 1) := by decide +kernel
theorem dX11_findWhereEachCould_20 : decode cX11_findWhereEachCould 20 = .ok (.iconst 0, 1) := by decide +kernel
theorem dX11_findWhereEachCould_21 : decode cX11_findWhereEachCould 21 = .ok (.istore_n 2, 1) := by decide +kernel
theorem dX11_findWhereEachCould_22 : decode cX11_findWhereEachCould 22 = .ok (.iload_n 2, 1) := by decide +kernel
theorem dX11_findWhereEachCould_23 : decode cX11_findWhereEachCould 23 = .ok (.aload_n 0, 1) := by decide +kernel
theorem dX11_findWhereEachCould_24 : decode cX11_findWhereEachCould 24 = .ok (.getfield 30, 3) := by decide +kernel
theorem dX11_findWhereEachCould_27 : decode cX11_findWhereEachCould 27 = .ok (.getfield 212, 3) := by decide +kernel
theorem dX11_findWhereEachCould_30 : decode cX11_findWhereEachCould 30 = .ok (.if_icmp .ge 41, 3) := by decide +kernel
theorem dX11_findWhereEachCould_33 : decode cX11_findWhereEachCould 33 = .ok (.aload_n 0, 1) := by decide +kernel
theorem dX11_findWhereEachCould_34 : decode cX11_findWhereEachCould 34 = .ok (.getfield 30, 3) := by decide +kernel
theorem dX11_findWhereEachCould_37 : decode cX11_findWhereEachCould 37 = .ok (.aload_n 0, 1) := by decide +kernel
theorem dX11_findWhereEachCould_38 : decode cX11_findWhereEachCould 38 = .ok (.getfield 40, 3) := by decide +kernel
theorem dX11_findWhereEachCould_41 : decode cX11_findWhereEachCould 41 = .ok (.iload_n 2, 1) := by decide +kernel
theorem dX11_findWhereEachCould_42 : decode cX11_findWhereEachCould 42 = .ok (.iconst 1, 1) := by decide +kernel
theorem dX11_findWhereEachCould_43 : decode cX11_findWhereEachCould 43 = .ok (.iload_n 1, 1) := by decide +kernel
theorem dX11_findWhereEachCould_44 : decode cX11_findWhereEachCould 44 = .ok (.ishl, 1) := by decide +kernel
theorem dX11_findWhereEachCould_45 : decode cX11_findWhereEachCould 45 = .ok (.iconst 1, 1) := by decide +kernel
theorem dX11_findWhereEachCould_46 : decode cX11_findWhereEachCould 46 = .ok (.iconst 0, 1) := by decide +kernel
theorem dX11_findWhereEachCould_47 : decode cX11_findWhereEachCould 47 = .ok (.invokevirtual 315, 3) := by decide +kernel
theorem dX11_findWhereEachCould_50 : decode cX11_findWhereEachCould 50 = .ok (.ifCond .eq 15, 3) := by decide +kernel
theorem dX11_findWhereEachCould_53 : decode cX11_findWhereEachCould 53 = .ok (.aload_n 0, 1) := by decide +kernel
theorem dX11_findWhereEachCould_54 : decode cX11_findWhereEachCould 54 = .ok (.getfield 83, 3) := by decide +kernel
theorem dX11_findWhereEachCould_57 : decode cX11_findWhereEachCould 57 = .ok (.iload_n 1, 1) := by decide +kernel
theorem dX11_findWhereEachCould_58 : decode cX11_findWhereEachCould 58 = .ok (.dup2, 1) := by decide +kernel
theorem dX11_findWhereEachCould_59 : decode cX11_findWhereEachCould 59 = .ok (.iaload, 1) := by decide +kernel
theorem dX11_findWhereEachCould_60 : decode cX11_findWhereEachCould 60 = .ok (.iconst 1, 1) := by decide +kernel
theorem dX11_findWhereEachCould_61 : decode cX11_findWhereEachCould 61 = .ok (.iload_n 2, 1) := by decide +kernel
theorem dX11_findWhereEachCould_62 : decode cX11_findWhereEachCould 62 = .ok (.ishl, 1) := by decide +kernel
theorem dX11_findWhereEachCould_63 : decode cX11_findWhereEachCould 63 = .ok (.ior, 1) := by decide +kernel
theorem dX11_findWhereEachCould_64 : decode cX11_findWhereEachCould 64 = .ok (.iastore, 1) := by decide +kernel
theorem dX11_findWhereEachCould_65 : decode cX11_findWhereEachCould 65 = .ok (.iinc 2 1, 3) := by decide +kernel
theorem dX11_findWhereEachCould_68 : decode cX11_findWhereEachCould 68 = .ok (.goto (-46), 3) := by decide +kernel
theorem dX11_findWhereEachCould_71 : decode cX11_findWhereEachCould 71 = .ok (.iinc 1 1, 3) := by decide +kernel
theorem dX11_findWhereEachCould_74 : decode cX11_findWhereEachCould 74 = .ok (.goto (-72), 3) := by decide +kernel
theorem dX11_findWhereEachCould_77 : decode cX11_findWhereEachCould 77 = .ok (.return_, 1) := by decide +kernel
theorem dX11_coversAll_0 : decode cX11_coversAll 0 = .ok (.iconst 0, 1) := by decide +kernel
theorem dX11_coversAll_1 : decode cX11_coversAll 1 = .ok (.istore_n 2, 1) := by decide +kernel
theorem dX11_coversAll_2 : decode cX11_coversAll 2 = .ok (.iload_n 2, 1) := by decide +kernel
theorem dX11_coversAll_3 : decode cX11_coversAll 3 = .ok (.aload_n 0, 1) := by decide +kernel
theorem dX11_coversAll_4 : decode cX11_coversAll 4 = .ok (.getfield 30, 3) := by decide +kernel
theorem dX11_coversAll_7 : decode cX11_coversAll 7 = .ok (.getfield 132, 3) := by decide +kernel
theorem dX11_coversAll_10 : decode cX11_coversAll 10 = .ok (.if_icmp .ge 31, 3) := by decide +kernel
theorem dX11_coversAll_13 : decode cX11_coversAll 13 = .ok (.aload_n 0, 1) := by decide +kernel
theorem dX11_coversAll_14 : decode cX11_coversAll 14 = .ok (.getfield 83, 3) := by decide +kernel
theorem dX11_coversAll_17 : decode cX11_coversAll 17 = .ok (.iload_n 2, 1) := by decide +kernel
theorem dX11_coversAll_18 : decode cX11_coversAll 18 = .ok (.iaload, 1) := by decide +kernel
theorem dX11_coversAll_19 : decode cX11_coversAll 19 = .ok (.ifCond .eq 16, 3) := by decide +kernel
theorem dX11_coversAll_22 : decode cX11_coversAll 22 = .ok (.aload_n 0, 1) := by decide +kernel
theorem dX11_coversAll_23 : decode cX11_coversAll 23 = .ok (.getfield 83, 3) := by decide +kernel
theorem dX11_coversAll_26 : decode cX11_coversAll 26 = .ok (.iload_n 2, 1) := by decide +kernel
theorem dX11_coversAll_27 : decode cX11_coversAll 27 = .ok (.iaload, 1) := by decide +kernel
theorem dX11_coversAll_28 : decode cX11_coversAll 28 = .ok (.iload_n 1, 1) := by decide +kernel
theorem dX11_coversAll_29 : decode cX11_coversAll 29 = .ok (.iand, 1) := by decide +kernel
theorem dX11_coversAll_30 : decode cX11_coversAll 30 = .ok (.ifCond .ne 5, 3) := by decide +kernel
theorem dX11_coversAll_33 : decode cX11_coversAll 33 = .ok (.iconst 0, 1) := by decide +kernel
theorem dX11_coversAll_34 : decode cX11_coversAll 34 = .ok (.ireturn, 1) := by decide +kernel
theorem dX11_coversAll_35 : decode cX11_coversAll 35 = .ok (.iinc 2 1, 3) := by decide +kernel
theorem dX11_coversAll_38 : decode cX11_coversAll 38 = .ok (.goto (-36), 3) := by decide +kernel
theorem dX11_coversAll_41 : decode cX11_coversAll 41 = .ok (.iconst 1, 1) := by decide +kernel
theorem dX11_coversAll_42 : decode cX11_coversAll 42 = .ok (.ireturn, 1) := by decide +kernel
theorem dX11_commonDivisor_0 : decode cX11_commonDivisor 0 = .ok (.iload_n 0, 1) := by decide +kernel
theorem dX11_commonDivisor_1 : decode cX11_commonDivisor 1 = .ok (.istore_n 2, 1) := by decide +kernel
theorem dX11_commonDivisor_2 : decode cX11_commonDivisor 2 = .ok (.iload_n 1, 1) := by decide +kernel
theorem dX11_commonDivisor_3 : decode cX11_commonDivisor 3 = .ok (.istore_n 3, 1) := by decide +kernel
theorem dX11_commonDivisor_4 : decode cX11_commonDivisor 4 = .ok (.iconst 0, 1) := by decide +kernel
theorem dX11_commonDivisor_5 : decode cX11_commonDivisor 5 = .ok (.istore 4, 2) := by decide +kernel
theorem dX11_commonDivisor_7 : decode cX11_commonDivisor 7 = .ok (.iload 4, 2) := by decide +kernel
theorem dX11_commonDivisor_9 : decode cX11_commonDivisor 9 = .ok (.bipush 64, 2) := by decide +kernel
theorem dX11_commonDivisor_11 : decode cX11_commonDivisor 11 = .ok (.if_icmp .ge 23, 3) := by decide +kernel
theorem dX11_commonDivisor_14 : decode cX11_commonDivisor 14 = .ok (.iload_n 3, 1) := by decide +kernel
theorem dX11_commonDivisor_15 : decode cX11_commonDivisor 15 = .ok (.ifCond .eq 19, 3) := by decide +kernel
theorem dX11_commonDivisor_18 : decode cX11_commonDivisor 18 = .ok (.iload_n 2, 1) := by decide +kernel
theorem dX11_commonDivisor_19 : decode cX11_commonDivisor 19 = .ok (.iload_n 3, 1) := by decide +kernel
theorem dX11_commonDivisor_20 : decode cX11_commonDivisor 20 = .ok (.irem, 1) := by decide +kernel
theorem dX11_commonDivisor_21 : decode cX11_commonDivisor 21 = .ok (.istore 5, 2) := by decide +kernel
theorem dX11_commonDivisor_23 : decode cX11_commonDivisor 23 = .ok (.iload_n 3, 1) := by decide +kernel
theorem dX11_commonDivisor_24 : decode cX11_commonDivisor 24 = .ok (.istore_n 2, 1) := by decide +kernel
theorem dX11_commonDivisor_25 : decode cX11_commonDivisor 25 = .ok (.iload 5, 2) := by decide +kernel
theorem dX11_commonDivisor_27 : decode cX11_commonDivisor 27 = .ok (.istore_n 3, 1) := by decide +kernel
theorem dX11_commonDivisor_28 : decode cX11_commonDivisor 28 = .ok (.iinc 4 1, 3) := by decide +kernel
theorem dX11_commonDivisor_31 : decode cX11_commonDivisor 31 = .ok (.goto (-24), 3) := by decide +kernel
theorem dX11_commonDivisor_34 : decode cX11_commonDivisor 34 = .ok (.iload_n 2, 1) := by decide +kernel
theorem dX11_commonDivisor_35 : decode cX11_commonDivisor 35 = .ok (.ireturn, 1) := by decide +kernel
