theorem d_M_isFarther_105 : decode b_M_isFarther 105 = .ok (.ireturn, 1) := by decide +kernel
theorem d_M_isFarther_106 : decode b_M_isFarther 106 = .ok (.iload_n 2, 1) := by decide +kernel
theorem d_M_isFarther_107 : decode b_M_isFarther 107 = .ok (.ireturn, 1) := by decide +kernel
theorem d_M_isFarther_108 : decode b_M_isFarther 108 = .ok (.iconst 0, 1) := by decide +kernel
theorem d_M_isFarther_109 : decode b_M_isFarther 109 = .ok (.istore 8, 2) := by decide +kernel
theorem d_M_isFarther_111 : decode b_M_isFarther 111 = .ok (.iload_n 3, 1) := by decide +kernel
theorem d_M_isFarther_112 : decode b_M_isFarther 112 = .ok (.iconst 1, 1) := by decide +kernel
theorem d_M_isFarther_113 : decode b_M_isFarther 113 = .ok (.isub, 1) := by decide +kernel
theorem d_M_isFarther_114 : decode b_M_isFarther 114 = .ok (.istore 9, 2) := by decide +kernel
theorem d_M_isFarther_116 : decode b_M_isFarther 116 = .ok (.iload 9, 2) := by decide +kernel
theorem d_M_isFarther_118 : decode b_M_isFarther 118 = .ok (.iload_n 3, 1) := by decide +kernel
theorem d_M_isFarther_119 : decode b_M_isFarther 119 = .ok (.bipush 17, 2) := by decide +kernel
theorem d_M_isFarther_121 : decode b_M_isFarther 121 = .ok (.isub, 1) := by decide +kernel
theorem d_M_isFarther_122 : decode b_M_isFarther 122 = .ok (.if_icmp .le 22, 3) := by decide +kernel
theorem d_M_isFarther_125 : decode b_M_isFarther 125 = .ok (.iconst 2, 1) := by decide +kernel
theorem d_M_isFarther_126 : decode b_M_isFarther 126 = .ok (.iload 8, 2) := by decide +kernel
theorem d_M_isFarther_128 : decode b_M_isFarther 128 = .ok (.imul, 1) := by decide +kernel
theorem d_M_isFarther_129 : decode b_M_isFarther 129 = .ok (.aload_n 0, 1) := by decide +kernel
theorem d_M_isFarther_130 : decode b_M_isFarther 130 = .ok (.iload 9, 2) := by decide +kernel
theorem d_M_isFarther_132 : decode b_M_isFarther 132 = .ok (.invokevirtual 144, 3) := by decide +kernel
theorem d_M_isFarther_135 : decode b_M_isFarther 135 = .ok (.iadd, 1) := by decide +kernel
theorem d_M_isFarther_136 : decode b_M_isFarther 136 = .ok (.istore 8, 2) := by decide +kernel
theorem d_M_isFarther_138 : decode b_M_isFarther 138 = .ok (.iinc 9 (-1), 3) := by decide +kernel
theorem d_M_isFarther_141 : decode b_M_isFarther 141 = .ok (.goto (-25), 3) := by decide +kernel
theorem d_M_isFarther_144 : decode b_M_isFarther 144 = .ok (.aload_n 0, 1) := by decide +kernel
theorem d_M_isFarther_145 : decode b_M_isFarther 145 = .ok (.invokevirtual 172, 3) := by decide +kernel
theorem d_M_isFarther_148 : decode b_M_isFarther 148 = .ok (.iload 8, 2) := by decide +kernel
theorem d_M_isFarther_150 : decode b_M_isFarther 150 = .ok (.if_icmp .ge 7, 3) := by decide +kernel
theorem d_M_isFarther_153 : decode b_M_isFarther 153 = .ok (.iconst 1, 1) := by decide +kernel
theorem d_M_isFarther_154 : decode b_M_isFarther 154 = .ok (.goto 4, 3) := by decide +kernel
theorem d_M_isFarther_157 : decode b_M_isFarther 157 = .ok (.iconst 0, 1) := by decide +kernel
theorem d_M_isFarther_158 : decode b_M_isFarther 158 = .ok (.ireturn, 1) := by decide +kernel
theorem d_M_turn_0 : decode b_M_turn 0 = .ok (.iload_n 1, 1) := by decide +kernel
theorem d_M_turn_1 : decode b_M_turn 1 = .ok (.invokestatic 55, 3) := by decide +kernel
theorem d_M_turn_4 : decode b_M_turn 4 = .ok (.ifCond .eq 27, 3) := by decide +kernel
theorem d_M_turn_7 : decode b_M_turn 7 = .ok (.iload_n 3, 1) := by decide +kernel
theorem d_M_turn_8 : decode b_M_turn 8 = .ok (.invokestatic 55, 3) := by decide +kernel
theorem d_M_turn_11 : decode b_M_turn 11 = .ok (.ifCond .eq 20, 3) := by decide +kernel
theorem d_M_turn_14 : decode b_M_turn 14 = .ok (.iload 4, 2) := by decide +kernel
theorem d_M_turn_16 : decode b_M_turn 16 = .ok (.invokestatic 176, 3) := by decide +kernel
theorem d_M_turn_19 : decode b_M_turn 19 = .ok (.ifCond .eq 12, 3) := by decide +kernel
theorem d_M_turn_22 : decode b_M_turn 22 = .ok (.aload_n 0, 1) := by decide +kernel
theorem d_M_turn_23 : decode b_M_turn 23 = .ok (.iload_n 1, 1) := by decide +kernel
theorem d_M_turn_24 : decode b_M_turn 24 = .ok (.iload_n 2, 1) := by decide +kernel
theorem d_M_turn_25 : decode b_M_turn 25 = .ok (.invokevirtual 93, 3) := by decide +kernel
theorem d_M_turn_28 : decode b_M_turn 28 = .ok (.ifCond .ne 7, 3) := by decide +kernel
theorem d_M_turn_31 : decode b_M_turn 31 = .ok (.ldc2_w 179, 3) := by decide +kernel
theorem d_M_turn_34 : decode b_M_turn 34 = .ok (.lreturn, 1) := by decide +kernel
theorem d_M_turn_35 : decode b_M_turn 35 = .ok (.aload_n 0, 1) := by decide +kernel
theorem d_M_turn_36 : decode b_M_turn 36 = .ok (.iload_n 1, 1) := by decide +kernel
theorem d_M_turn_37 : decode b_M_turn 37 = .ok (.aload_n 0, 1) := by decide +kernel
theorem d_M_turn_38 : decode b_M_turn 38 = .ok (.iload_n 1, 1) := by decide +kernel
theorem d_M_turn_39 : decode b_M_turn 39 = .ok (.iload_n 2, 1) := by decide +kernel
theorem d_M_turn_40 : decode b_M_turn 40 = .ok (.invokevirtual 81, 3) := by decide +kernel
theorem d_M_turn_43 : decode b_M_turn 43 = .ok (.iload_n 3, 1) := by decide +kernel
theorem d_M_turn_44 : decode b_M_turn 44 = .ok (.iload 4, 2) := by decide +kernel
theorem d_M_turn_46 : decode b_M_turn 46 = .ok (.invokevirtual 181, 3) := by decide +kernel
theorem d_M_turn_49 : decode b_M_turn 49 = .ok (.lreturn, 1) := by decide +kernel
theorem d_M_turned_0 : decode b_M_turned 0 = .ok (.aload_n 0, 1) := by decide +kernel
theorem d_M_turned_1 : decode b_M_turned 1 = .ok (.invokevirtual 185, 3) := by decide +kernel
theorem d_M_turned_4 : decode b_M_turned 4 = .ok (.aload_n 0, 1) := by decide +kernel
theorem d_M_turned_5 : decode b_M_turned 5 = .ok (.iload_n 1, 1) := by decide +kernel
theorem d_M_turned_6 : decode b_M_turned 6 = .ok (.lload_n 2, 1) := by decide +kernel
theorem d_M_turned_7 : decode b_M_turned 7 = .ok (.iconst 0, 1) := by decide +kernel
theorem d_M_turned_8 : decode b_M_turned 8 = .ok (.iconst 0, 1) := by decide +kernel
theorem d_M_turned_9 : decode b_M_turned 9 = .ok (.invokevirtual 188, 3) := by decide +kernel
theorem d_M_turned_12 : decode b_M_turned 12 = .ok (.aload_n 0, 1) := by decide +kernel
theorem d_M_turned_13 : decode b_M_turned 13 = .ok (.iload 4, 2) := by decide +kernel
theorem d_M_turned_15 : decode b_M_turned 15 = .ok (.iload 5, 2) := by decide +kernel
theorem d_M_turned_17 : decode b_M_turned 17 = .ok (.invokevirtual 192, 3) := by decide +kernel
theorem d_M_turned_20 : decode b_M_turned 20 = .ok (.lreturn, 1) := by decide +kernel
theorem d_M_reckon_0 : decode b_M_reckon 0 = .ok (.iload_n 1, 1) := by decide +kernel
theorem d_M_reckon_1 : decode b_M_reckon 1 = .ok (.i2l, 1) := by decide +kernel
theorem d_M_reckon_2 : decode b_M_reckon 2 = .ok (.lconst 0, 1) := by decide +kernel
theorem d_M_reckon_3 : decode b_M_reckon 3 = .ok (.ldc2_w 59, 3) := by decide +kernel
theorem d_M_reckon_6 : decode b_M_reckon 6 = .ok (.invokestatic 49, 3) := by decide +kernel
theorem d_M_reckon_9 : decode b_M_reckon 9 = .ok (.ifCond .eq 54, 3) := by decide +kernel
theorem d_M_reckon_12 : decode b_M_reckon 12 = .ok (.iload_n 2, 1) := by decide +kernel
theorem d_M_reckon_13 : decode b_M_reckon 13 = .ok (.invokestatic 55, 3) := by decide +kernel
theorem d_M_reckon_16 : decode b_M_reckon 16 = .ok (.ifCond .eq 47, 3) := by decide +kernel
theorem d_M_reckon_19 : decode b_M_reckon 19 = .ok (.iload 4, 2) := by decide +kernel
theorem d_M_reckon_21 : decode b_M_reckon 21 = .ok (.invokestatic 55, 3) := by decide +kernel
theorem d_M_reckon_24 : decode b_M_reckon 24 = .ok (.ifCond .eq 39, 3) := by decide +kernel
theorem d_M_reckon_27 : decode b_M_reckon 27 = .ok (.iload 6, 2) := by decide +kernel
theorem d_M_reckon_29 : decode b_M_reckon 29 = .ok (.invokestatic 55, 3) := by decide +kernel
theorem d_M_reckon_32 : decode b_M_reckon 32 = .ok (.ifCond .eq 31, 3) := by decide +kernel
theorem d_M_reckon_35 : decode b_M_reckon 35 = .ok (.iload 7, 2) := by decide +kernel
theorem d_M_reckon_37 : decode b_M_reckon 37 = .ok (.invokestatic 176, 3) := by decide +kernel
theorem d_M_reckon_40 : decode b_M_reckon 40 = .ok (.ifCond .eq 23, 3) := by decide +kernel
theorem d_M_reckon_43 : decode b_M_reckon 43 = .ok (.aload_n 0, 1) := by decide +kernel
theorem d_M_reckon_44 : decode b_M_reckon 44 = .ok (.iload_n 2, 1) := by decide +kernel
theorem d_M_reckon_45 : decode b_M_reckon 45 = .ok (.iload_n 3, 1) := by decide +kernel
theorem d_M_reckon_46 : decode b_M_reckon 46 = .ok (.invokevirtual 93, 3) := by decide +kernel
theorem d_M_reckon_49 : decode b_M_reckon 49 = .ok (.ifCond .eq 14, 3) := by decide +kernel
theorem d_M_reckon_52 : decode b_M_reckon 52 = .ok (.aload_n 0, 1) := by decide +kernel
theorem d_M_reckon_53 : decode b_M_reckon 53 = .ok (.iload 4, 2) := by decide +kernel
theorem d_M_reckon_55 : decode b_M_reckon 55 = .ok (.iload 5, 2) := by decide +kernel
theorem d_M_reckon_57 : decode b_M_reckon 57 = .ok (.invokevirtual 93, 3) := by decide +kernel
theorem d_M_reckon_60 : decode b_M_reckon 60 = .ok (.ifCond .ne 7, 3) := by decide +kernel
theorem d_M_reckon_63 : decode b_M_reckon 63 = .ok (.ldc2_w 179, 3) := by decide +kernel
theorem d_M_reckon_66 : decode b_M_reckon 66 = .ok (.lreturn, 1) := by decide +kernel
theorem d_M_reckon_67 : decode b_M_reckon 67 = .ok (.aload_n 0, 1) := by decide +kernel
theorem d_M_reckon_68 : decode b_M_reckon 68 = .ok (.invokevirtual 185, 3) := by decide +kernel
theorem d_M_reckon_71 : decode b_M_reckon 71 = .ok (.iload_n 1, 1) := by decide +kernel
theorem d_M_reckon_72 : decode b_M_reckon 72 = .ok (.iconst 2, 1) := by decide +kernel
theorem d_M_reckon_73 : decode b_M_reckon 73 = .ok (.if_icmp .ne 28, 3) := by decide +kernel
theorem d_M_reckon_76 : decode b_M_reckon 76 = .ok (.aload_n 0, 1) := by decide +kernel
theorem d_M_reckon_77 : decode b_M_reckon 77 = .ok (.iload_n 2, 1) := by decide +kernel
theorem d_M_reckon_78 : decode b_M_reckon 78 = .ok (.aload_n 0, 1) := by decide +kernel
theorem d_M_reckon_79 : decode b_M_reckon 79 = .ok (.iload_n 2, 1) := by decide +kernel
theorem d_M_reckon_80 : decode b_M_reckon 80 = .ok (.iload_n 3, 1) := by decide +kernel
theorem d_M_reckon_81 : decode b_M_reckon 81 = .ok (.invokevirtual 81, 3) := by decide +kernel
theorem d_M_reckon_84 : decode b_M_reckon 84 = .ok (.iload 4, 2) := by decide +kernel
theorem d_M_reckon_86 : decode b_M_reckon 86 = .ok (.aload_n 0, 1) := by decide +kernel
theorem d_M_reckon_87 : decode b_M_reckon 87 = .ok (.iload 4, 2) := by decide +kernel
theorem d_M_reckon_89 : decode b_M_reckon 89 = .ok (.iload 5, 2) := by decide +kernel
theorem d_M_reckon_91 : decode b_M_reckon 91 = .ok (.invokevirtual 81, 3) := by decide +kernel
theorem d_M_reckon_94 : decode b_M_reckon 94 = .ok (.iconst 0, 1) := by decide +kernel
theorem d_M_reckon_95 : decode b_M_reckon 95 = .ok (.invokevirtual 195, 3) := by decide +kernel
theorem d_M_reckon_98 : decode b_M_reckon 98 = .ok (.goto 41, 3) := by decide +kernel
theorem d_M_reckon_101 : decode b_M_reckon 101 = .ok (.aload_n 0, 1) := by decide +kernel
theorem d_M_reckon_102 : decode b_M_reckon 102 = .ok (.iload_n 2, 1) := by decide +kernel
theorem d_M_reckon_103 : decode b_M_reckon 103 = .ok (.aload_n 0, 1) := by decide +kernel
theorem d_M_reckon_104 : decode b_M_reckon 104 = .ok (.iload_n 2, 1) := by decide +kernel
theorem d_M_reckon_105 : decode b_M_reckon 105 = .ok (.iload_n 3, 1) := by decide +kernel
theorem d_M_reckon_106 : decode b_M_reckon 106 = .ok (.invokevirtual 81, 3) := by decide +kernel
theorem d_M_reckon_109 : decode b_M_reckon 109 = .ok (.iconst 0, 1) := by decide +kernel
theorem d_M_reckon_110 : decode b_M_reckon 110 = .ok (.iconst 0, 1) := by decide +kernel
theorem d_M_reckon_111 : decode b_M_reckon 111 = .ok (.invokevirtual 188, 3) := by decide +kernel
theorem d_M_reckon_114 : decode b_M_reckon 114 = .ok (.aload_n 0, 1) := by decide +kernel
theorem d_M_reckon_115 : decode b_M_reckon 115 = .ok (.iload 4, 2) := by decide +kernel
theorem d_M_reckon_117 : decode b_M_reckon 117 = .ok (.aload_n 0, 1) := by decide +kernel
theorem d_M_reckon_118 : decode b_M_reckon 118 = .ok (.iload 4, 2) := by decide +kernel
theorem d_M_reckon_120 : decode b_M_reckon 120 = .ok (.iload 5, 2) := by decide +kernel
theorem d_M_reckon_122 : decode b_M_reckon 122 = .ok (.invokevirtual 81, 3) := by decide +kernel
theorem d_M_reckon_125 : decode b_M_reckon 125 = .ok (.iload_n 1, 1) := by decide +kernel
theorem d_M_reckon_126 : decode b_M_reckon 126 = .ok (.iconst 1, 1) := by decide +kernel
theorem d_M_reckon_127 : decode b_M_reckon 127 = .ok (.if_icmp .ne 7, 3) := by decide +kernel
theorem d_M_reckon_130 : decode b_M_reckon 130 = .ok (.iconst 1, 1) := by decide +kernel
theorem d_M_reckon_131 : decode b_M_reckon 131 = .ok (.goto 4, 3) := by decide +kernel
theorem d_M_reckon_134 : decode b_M_reckon 134 = .ok (.iconst 0, 1) := by decide +kernel
theorem d_M_reckon_135 : decode b_M_reckon 135 = .ok (.iconst 0, 1) := by decide +kernel
theorem d_M_reckon_136 : decode b_M_reckon 136 = .ok (.invokevirtual 188, 3) := by decide +kernel
theorem d_M_reckon_139 : decode b_M_reckon 139 = .ok (.aload_n 0, 1) := by decide +kernel
theorem d_M_reckon_140 : decode b_M_reckon 140 = .ok (.iload 6, 2) := by decide +kernel
theorem d_M_reckon_142 : decode b_M_reckon 142 = .ok (.iload 7, 2) := by decide +kernel
theorem d_M_reckon_144 : decode b_M_reckon 144 = .ok (.invokevirtual 192, 3) := by decide +kernel
theorem d_M_reckon_147 : decode b_M_reckon 147 = .ok (.lreturn, 1) := by decide +kernel
theorem d_M_fused_0 : decode b_M_fused 0 = .ok (.iload_n 1, 1) := by decide +kernel
theorem d_M_fused_1 : decode b_M_fused 1 = .ok (.invokestatic 55, 3) := by decide +kernel
theorem d_M_fused_4 : decode b_M_fused 4 = .ok (.ifCond .eq 48, 3) := by decide +kernel
theorem d_M_fused_7 : decode b_M_fused 7 = .ok (.iload 4, 2) := by decide +kernel
theorem d_M_fused_9 : decode b_M_fused 9 = .ok (.invokestatic 55, 3) := by decide +kernel
theorem d_M_fused_12 : decode b_M_fused 12 = .ok (.ifCond .eq 40, 3) := by decide +kernel
theorem d_M_fused_15 : decode b_M_fused 15 = .ok (.iload 6, 2) := by decide +kernel
theorem d_M_fused_17 : decode b_M_fused 17 = .ok (.invokestatic 176, 3) := by decide +kernel
theorem d_M_fused_20 : decode b_M_fused 20 = .ok (.ifCond .eq 32, 3) := by decide +kernel
theorem d_M_fused_23 : decode b_M_fused 23 = .ok (.aload_n 0, 1) := by decide +kernel
theorem d_M_fused_24 : decode b_M_fused 24 = .ok (.iload_n 1, 1) := by decide +kernel
theorem d_M_fused_25 : decode b_M_fused 25 = .ok (.iload_n 2, 1) := by decide +kernel
theorem d_M_fused_26 : decode b_M_fused 26 = .ok (.invokevirtual 93, 3) := by decide +kernel
theorem d_M_fused_29 : decode b_M_fused 29 = .ok (.ifCond .eq 23, 3) := by decide +kernel
theorem d_M_fused_32 : decode b_M_fused 32 = .ok (.aload_n 0, 1) := by decide +kernel
theorem d_M_fused_33 : decode b_M_fused 33 = .ok (.iload_n 1, 1) := by decide +kernel
theorem d_M_fused_34 : decode b_M_fused 34 = .ok (.iload_n 3, 1) := by decide +kernel
theorem d_M_fused_35 : decode b_M_fused 35 = .ok (.invokevirtual 93, 3) := by decide +kernel
theorem d_M_fused_38 : decode b_M_fused 38 = .ok (.ifCond .eq 14, 3) := by decide +kernel
theorem d_M_fused_41 : decode b_M_fused 41 = .ok (.aload_n 0, 1) := by decide +kernel
theorem d_M_fused_42 : decode b_M_fused 42 = .ok (.iload 4, 2) := by decide +kernel
theorem d_M_fused_44 : decode b_M_fused 44 = .ok (.iload 5, 2) := by decide +kernel
theorem d_M_fused_46 : decode b_M_fused 46 = .ok (.invokevirtual 93, 3) := by decide +kernel
theorem d_M_fused_49 : decode b_M_fused 49 = .ok (.ifCond .ne 7, 3) := by decide +kernel
theorem d_M_fused_52 : decode b_M_fused 52 = .ok (.ldc2_w 179, 3) := by decide +kernel
theorem d_M_fused_55 : decode b_M_fused 55 = .ok (.lreturn, 1) := by decide +kernel
theorem d_M_fused_56 : decode b_M_fused 56 = .ok (.aload_n 0, 1) := by decide +kernel
theorem d_M_fused_57 : decode b_M_fused 57 = .ok (.invokevirtual 185, 3) := by decide +kernel
theorem d_M_fused_60 : decode b_M_fused 60 = .ok (.aload_n 0, 1) := by decide +kernel
theorem d_M_fused_61 : decode b_M_fused 61 = .ok (.iload_n 1, 1) := by decide +kernel
theorem d_M_fused_62 : decode b_M_fused 62 = .ok (.aload_n 0, 1) := by decide +kernel
theorem d_M_fused_63 : decode b_M_fused 63 = .ok (.iload_n 1, 1) := by decide +kernel
theorem d_M_fused_64 : decode b_M_fused 64 = .ok (.iload_n 2, 1) := by decide +kernel
theorem d_M_fused_65 : decode b_M_fused 65 = .ok (.invokevirtual 81, 3) := by decide +kernel
theorem d_M_fused_68 : decode b_M_fused 68 = .ok (.iload_n 1, 1) := by decide +kernel
theorem d_M_fused_69 : decode b_M_fused 69 = .ok (.aload_n 0, 1) := by decide +kernel
theorem d_M_fused_70 : decode b_M_fused 70 = .ok (.iload_n 1, 1) := by decide +kernel
theorem d_M_fused_71 : decode b_M_fused 71 = .ok (.iload_n 3, 1) := by decide +kernel
theorem d_M_fused_72 : decode b_M_fused 72 = .ok (.invokevirtual 81, 3) := by decide +kernel
theorem d_M_fused_75 : decode b_M_fused 75 = .ok (.iconst 0, 1) := by decide +kernel
theorem d_M_fused_76 : decode b_M_fused 76 = .ok (.invokevirtual 195, 3) := by decide +kernel
theorem d_M_fused_79 : decode b_M_fused 79 = .ok (.aload_n 0, 1) := by decide +kernel
theorem d_M_fused_80 : decode b_M_fused 80 = .ok (.iload 4, 2) := by decide +kernel
theorem d_M_fused_82 : decode b_M_fused 82 = .ok (.aload_n 0, 1) := by decide +kernel
theorem d_M_fused_83 : decode b_M_fused 83 = .ok (.iload 4, 2) := by decide +kernel
theorem d_M_fused_85 : decode b_M_fused 85 = .ok (.iload 5, 2) := by decide +kernel
theorem d_M_fused_87 : decode b_M_fused 87 = .ok (.invokevirtual 81, 3) := by decide +kernel
theorem d_M_fused_90 : decode b_M_fused 90 = .ok (.iconst 0, 1) := by decide +kernel
theorem d_M_fused_91 : decode b_M_fused 91 = .ok (.iconst 0, 1) := by decide +kernel
theorem d_M_fused_92 : decode b_M_fused 92 = .ok (.invokevirtual 188, 3) := by decide +kernel
theorem d_M_fused_95 : decode b_M_fused 95 = .ok (.aload_n 0, 1) := by decide +kernel
theorem d_M_fused_96 : decode b_M_fused 96 = .ok (.iload 4, 2) := by decide +kernel
theorem d_M_fused_98 : decode b_M_fused 98 = .ok (.iload 6, 2) := by decide +kernel
theorem d_M_fused_100 : decode b_M_fused 100 = .ok (.invokevirtual 192, 3) := by decide +kernel
theorem d_M_fused_103 : decode b_M_fused 103 = .ok (.lreturn, 1) := by decide +kernel
theorem d_M_compare_0 : decode b_M_compare 0 = .ok (.iload_n 1, 1) := by decide +kernel
theorem d_M_compare_1 : decode b_M_compare 1 = .ok (.invokestatic 55, 3) := by decide +kernel
theorem d_M_compare_4 : decode b_M_compare 4 = .ok (.ifCond .eq 29, 3) := by decide +kernel
theorem d_M_compare_7 : decode b_M_compare 7 = .ok (.iload_n 3, 1) := by decide +kernel
theorem d_M_compare_8 : decode b_M_compare 8 = .ok (.invokestatic 55, 3) := by decide +kernel
theorem d_M_compare_11 : decode b_M_compare 11 = .ok (.ifCond .eq 22, 3) := by decide +kernel
theorem d_M_compare_14 : decode b_M_compare 14 = .ok (.aload_n 0, 1) := by decide +kernel
theorem d_M_compare_15 : decode b_M_compare 15 = .ok (.iload_n 1, 1) := by decide +kernel
theorem d_M_compare_16 : decode b_M_compare 16 = .ok (.iload_n 2, 1) := by decide +kernel
theorem d_M_compare_17 : decode b_M_compare 17 = .ok (.invokevirtual 93, 3) := by decide +kernel
theorem d_M_compare_20 : decode b_M_compare 20 = .ok (.ifCond .eq 13, 3) := by decide +kernel
theorem d_M_compare_23 : decode b_M_compare 23 = .ok (.aload_n 0, 1) := by decide +kernel
theorem d_M_compare_24 : decode b_M_compare 24 = .ok (.iload_n 3, 1) := by decide +kernel
theorem d_M_compare_25 : decode b_M_compare 25 = .ok (.iload 4, 2) := by decide +kernel
theorem d_M_compare_27 : decode b_M_compare 27 = .ok (.invokevirtual 93, 3) := by decide +kernel
theorem d_M_compare_30 : decode b_M_compare 30 = .ok (.ifCond .ne 6, 3) := by decide +kernel
theorem d_M_compare_33 : decode b_M_compare 33 = .ok (.bipush (-2), 2) := by decide +kernel
theorem d_M_compare_35 : decode b_M_compare 35 = .ok (.ireturn, 1) := by decide +kernel
theorem d_M_compare_36 : decode b_M_compare 36 = .ok (.aload_n 0, 1) := by decide +kernel
theorem d_M_compare_37 : decode b_M_compare 37 = .ok (.iload_n 1, 1) := by decide +kernel
theorem d_M_compare_38 : decode b_M_compare 38 = .ok (.iload_n 2, 1) := by decide +kernel
theorem d_M_compare_39 : decode b_M_compare 39 = .ok (.invokevirtual 81, 3) := by decide +kernel
theorem d_M_compare_42 : decode b_M_compare 42 = .ok (.lstore 5, 2) := by decide +kernel
theorem d_M_compare_44 : decode b_M_compare 44 = .ok (.aload_n 0, 1) := by decide +kernel
theorem d_M_compare_45 : decode b_M_compare 45 = .ok (.iload_n 3, 1) := by decide +kernel
theorem d_M_compare_46 : decode b_M_compare 46 = .ok (.iload 4, 2) := by decide +kernel
theorem d_M_compare_48 : decode b_M_compare 48 = .ok (.invokevirtual 81, 3) := by decide +kernel
theorem d_M_compare_51 : decode b_M_compare 51 = .ok (.lstore 7, 2) := by decide +kernel
theorem d_M_compare_53 : decode b_M_compare 53 = .ok (.aload_n 0, 1) := by decide +kernel
theorem d_M_compare_54 : decode b_M_compare 54 = .ok (.iload_n 1, 1) := by decide +kernel
theorem d_M_compare_55 : decode b_M_compare 55 = .ok (.lload 5, 2) := by decide +kernel
theorem d_M_compare_57 : decode b_M_compare 57 = .ok (.invokevirtual 85, 3) := by decide +kernel
theorem d_M_compare_60 : decode b_M_compare 60 = .ok (.iconst 4, 1) := by decide +kernel
theorem d_M_compare_61 : decode b_M_compare 61 = .ok (.if_icmp .eq 14, 3) := by decide +kernel
theorem d_M_compare_64 : decode b_M_compare 64 = .ok (.aload_n 0, 1) := by decide +kernel
theorem d_M_compare_65 : decode b_M_compare 65 = .ok (.iload_n 3, 1) := by decide +kernel
theorem d_M_compare_66 : decode b_M_compare 66 = .ok (.lload 7, 2) := by decide +kernel
theorem d_M_compare_68 : decode b_M_compare 68 = .ok (.invokevirtual 85, 3) := by decide +kernel
theorem d_M_compare_71 : decode b_M_compare 71 = .ok (.iconst 4, 1) := by decide +kernel
theorem d_M_compare_72 : decode b_M_compare 72 = .ok (.if_icmp .ne 5, 3) := by decide +kernel
theorem d_M_compare_75 : decode b_M_compare 75 = .ok (.iconst 2, 1) := by decide +kernel
theorem d_M_compare_76 : decode b_M_compare 76 = .ok (.ireturn, 1) := by decide +kernel
theorem d_M_compare_77 : decode b_M_compare 77 = .ok (.aload_n 0, 1) := by decide +kernel
theorem d_M_compare_78 : decode b_M_compare 78 = .ok (.iload_n 1, 1) := by decide +kernel
theorem d_M_compare_79 : decode b_M_compare 79 = .ok (.lload 5, 2) := by decide +kernel
theorem d_M_compare_81 : decode b_M_compare 81 = .ok (.invokevirtual 85, 3) := by decide +kernel
theorem d_M_compare_84 : decode b_M_compare 84 = .ok (.iconst 3, 1) := by decide +kernel
theorem d_M_compare_85 : decode b_M_compare 85 = .ok (.if_icmp .ne 21, 3) := by decide +kernel
theorem d_M_compare_88 : decode b_M_compare 88 = .ok (.aload_n 0, 1) := by decide +kernel
theorem d_M_compare_89 : decode b_M_compare 89 = .ok (.iload_n 1, 1) := by decide +kernel
theorem d_M_compare_90 : decode b_M_compare 90 = .ok (.lload 5, 2) := by decide +kernel
theorem d_M_compare_92 : decode b_M_compare 92 = .ok (.invokevirtual 98, 3) := by decide +kernel
theorem d_M_compare_95 : decode b_M_compare 95 = .ok (.ifCond .eq 7, 3) := by decide +kernel
theorem d_M_compare_98 : decode b_M_compare 98 = .ok (.iconst (-1), 1) := by decide +kernel
theorem d_M_compare_99 : decode b_M_compare 99 = .ok (.goto 8, 3) := by decide +kernel
theorem d_M_compare_102 : decode b_M_compare 102 = .ok (.iconst 1, 1) := by decide +kernel
theorem d_M_compare_103 : decode b_M_compare 103 = .ok (.goto 4, 3) := by decide +kernel
theorem d_M_compare_106 : decode b_M_compare 106 = .ok (.iconst 0, 1) := by decide +kernel
theorem d_M_compare_107 : decode b_M_compare 107 = .ok (.istore 9, 2) := by decide +kernel
theorem d_M_compare_109 : decode b_M_compare 109 = .ok (.aload_n 0, 1) := by decide +kernel
theorem d_M_compare_110 : decode b_M_compare 110 = .ok (.iload_n 3, 1) := by decide +kernel
theorem d_M_compare_111 : decode b_M_compare 111 = .ok (.lload 7, 2) := by decide +kernel
theorem d_M_compare_113 : decode b_M_compare 113 = .ok (.invokevirtual 85, 3) := by decide +kernel
theorem d_M_compare_116 : decode b_M_compare 116 = .ok (.iconst 3, 1) := by decide +kernel
theorem d_M_compare_117 : decode b_M_compare 117 = .ok (.if_icmp .ne 21, 3) := by decide +kernel
theorem d_M_compare_120 : decode b_M_compare 120 = .ok (.aload_n 0, 1) := by decide +kernel
theorem d_M_compare_121 : decode b_M_compare 121 = .ok (.iload_n 3, 1) := by decide +kernel
theorem d_M_compare_122 : decode b_M_compare 122 = .ok (.lload 7, 2) := by decide +kernel
theorem d_M_compare_124 : decode b_M_compare 124 = .ok (.invokevirtual 98, 3) := by decide +kernel
theorem d_M_compare_127 : decode b_M_compare 127 = .ok (.ifCond .eq 7, 3) := by decide +kernel
theorem d_M_compare_130 : decode b_M_compare 130 = .ok (.iconst (-1), 1) := by decide +kernel
theorem d_M_compare_131 : decode b_M_compare 131 = .ok (.goto 8, 3) := by decide +kernel
theorem d_M_compare_134 : decode b_M_compare 134 = .ok (.iconst 1, 1) := by decide +kernel
theorem d_M_compare_135 : decode b_M_compare 135 = .ok (.goto 4, 3) := by decide +kernel
theorem d_M_compare_138 : decode b_M_compare 138 = .ok (.iconst 0, 1) := by decide +kernel
theorem d_M_compare_139 : decode b_M_compare 139 = .ok (.istore 10, 2) := by decide +kernel
theorem d_M_compare_141 : decode b_M_compare 141 = .ok (.iload 9, 2) := by decide +kernel
theorem d_M_compare_143 : decode b_M_compare 143 = .ok (.iload 10, 2) := by decide +kernel
theorem d_M_compare_145 : decode b_M_compare 145 = .ok (.if_icmp .eq 16, 3) := by decide +kernel
theorem d_M_compare_148 : decode b_M_compare 148 = .ok (.iload 9, 2) := by decide +kernel
theorem d_M_compare_150 : decode b_M_compare 150 = .ok (.iload 10, 2) := by decide +kernel
theorem d_M_compare_152 : decode b_M_compare 152 = .ok (.if_icmp .ge 7, 3) := by decide +kernel
theorem d_M_compare_155 : decode b_M_compare 155 = .ok (.iconst (-1), 1) := by decide +kernel
theorem d_M_compare_156 : decode b_M_compare 156 = .ok (.goto 4, 3) := by decide +kernel
theorem d_M_compare_159 : decode b_M_compare 159 = .ok (.iconst 1, 1) := by decide +kernel
theorem d_M_compare_160 : decode b_M_compare 160 = .ok (.ireturn, 1) := by decide +kernel
theorem d_M_compare_161 : decode b_M_compare 161 = .ok (.aload_n 0, 1) := by decide +kernel
theorem d_M_compare_162 : decode b_M_compare 162 = .ok (.invokevirtual 185, 3) := by decide +kernel
theorem d_M_compare_165 : decode b_M_compare 165 = .ok (.aload_n 0, 1) := by decide +kernel
theorem d_M_compare_166 : decode b_M_compare 166 = .ok (.iload_n 1, 1) := by decide +kernel
theorem d_M_compare_167 : decode b_M_compare 167 = .ok (.lload 5, 2) := by decide +kernel
theorem d_M_compare_169 : decode b_M_compare 169 = .ok (.iconst 0, 1) := by decide +kernel
theorem d_M_compare_170 : decode b_M_compare 170 = .ok (.iconst 0, 1) := by decide +kernel
theorem d_M_compare_171 : decode b_M_compare 171 = .ok (.invokevirtual 188, 3) := by decide +kernel
theorem d_M_compare_174 : decode b_M_compare 174 = .ok (.aload_n 0, 1) := by decide +kernel
theorem d_M_compare_175 : decode b_M_compare 175 = .ok (.iload_n 3, 1) := by decide +kernel
theorem d_M_compare_176 : decode b_M_compare 176 = .ok (.lload 7, 2) := by decide +kernel
theorem d_M_compare_178 : decode b_M_compare 178 = .ok (.iconst 1, 1) := by decide +kernel
theorem d_M_compare_179 : decode b_M_compare 179 = .ok (.iconst 0, 1) := by decide +kernel
theorem d_M_compare_180 : decode b_M_compare 180 = .ok (.invokevirtual 188, 3) := by decide +kernel
theorem d_M_compare_183 : decode b_M_compare 183 = .ok (.iload 9, 2) := by decide +kernel
theorem d_M_compare_185 : decode b_M_compare 185 = .ok (.ifCond .eq 7, 3) := by decide +kernel
theorem d_M_compare_188 : decode b_M_compare 188 = .ok (.iconst 0, 1) := by decide +kernel
theorem d_M_compare_189 : decode b_M_compare 189 = .ok (.goto 33, 3) := by decide +kernel
theorem d_M_compare_192 : decode b_M_compare 192 = .ok (.aload_n 0, 1) := by decide +kernel
theorem d_M_compare_193 : decode b_M_compare 193 = .ok (.sipush 767, 3) := by decide +kernel
theorem d_M_compare_196 : decode b_M_compare 196 = .ok (.invokevirtual 144, 3) := by decide +kernel
theorem d_M_compare_199 : decode b_M_compare 199 = .ok (.iconst 1, 1) := by decide +kernel
theorem d_M_compare_200 : decode b_M_compare 200 = .ok (.if_icmp .ne 7, 3) := by decide +kernel
theorem d_M_compare_203 : decode b_M_compare 203 = .ok (.iconst (-1), 1) := by decide +kernel
theorem d_M_compare_204 : decode b_M_compare 204 = .ok (.goto 18, 3) := by decide +kernel
theorem d_M_compare_207 : decode b_M_compare 207 = .ok (.aload_n 0, 1) := by decide +kernel
theorem d_M_compare_208 : decode b_M_compare 208 = .ok (.sipush 768, 3) := by decide +kernel
theorem d_M_compare_211 : decode b_M_compare 211 = .ok (.invokevirtual 165, 3) := by decide +kernel
theorem d_M_compare_214 : decode b_M_compare 214 = .ok (.ifCond .eq 7, 3) := by decide +kernel
theorem d_M_compare_217 : decode b_M_compare 217 = .ok (.iconst 1, 1) := by decide +kernel
theorem d_M_compare_218 : decode b_M_compare 218 = .ok (.goto 4, 3) := by decide +kernel
theorem d_M_compare_221 : decode b_M_compare 221 = .ok (.iconst 0, 1) := by decide +kernel
theorem d_M_compare_222 : decode b_M_compare 222 = .ok (.ireturn, 1) := by decide +kernel
theorem d_M_flags_0 : decode b_M_flags 0 = .ok (.aload_n 0, 1) := by decide +kernel
theorem d_M_flags_1 : decode b_M_flags 1 = .ok (.getfield 155, 3) := by decide +kernel
theorem d_M_flags_4 : decode b_M_flags 4 = .ok (.istore_n 1, 1) := by decide +kernel
theorem d_M_flags_5 : decode b_M_flags 5 = .ok (.aload_n 0, 1) := by decide +kernel
theorem d_M_flags_6 : decode b_M_flags 6 = .ok (.iconst 0, 1) := by decide +kernel
theorem d_M_flags_7 : decode b_M_flags 7 = .ok (.putfield 155, 3) := by decide +kernel
theorem d_M_flags_10 : decode b_M_flags 10 = .ok (.iload_n 1, 1) := by decide +kernel
theorem d_M_flags_11 : decode b_M_flags 11 = .ok (.ireturn, 1) := by decide +kernel
theorem d_M_seed_0 : decode b_M_seed 0 = .ok (.iload_n 1, 1) := by decide +kernel
theorem d_M_seed_1 : decode b_M_seed 1 = .ok (.i2l, 1) := by decide +kernel
theorem d_M_seed_2 : decode b_M_seed 2 = .ok (.lconst 1, 1) := by decide +kernel
theorem d_M_seed_3 : decode b_M_seed 3 = .ok (.ldc2_w 199, 3) := by decide +kernel
theorem d_M_seed_6 : decode b_M_seed 6 = .ok (.invokestatic 49, 3) := by decide +kernel
theorem d_M_seed_9 : decode b_M_seed 9 = .ok (.ifCond .ne 6, 3) := by decide +kernel
theorem d_M_seed_12 : decode b_M_seed 12 = .ok (.bipush (-2), 2) := by decide +kernel
theorem d_M_seed_14 : decode b_M_seed 14 = .ok (.ireturn, 1) := by decide +kernel
theorem d_M_seed_15 : decode b_M_seed 15 = .ok (.aload_n 0, 1) := by decide +kernel
theorem d_M_seed_16 : decode b_M_seed 16 = .ok (.getfield 39, 3) := by decide +kernel
theorem d_M_seed_19 : decode b_M_seed 19 = .ok (.l2i, 1) := by decide +kernel
theorem d_M_seed_20 : decode b_M_seed 20 = .ok (.istore_n 2, 1) := by decide +kernel
theorem d_M_seed_21 : decode b_M_seed 21 = .ok (.aload_n 0, 1) := by decide +kernel
theorem d_M_seed_22 : decode b_M_seed 22 = .ok (.iload_n 1, 1) := by decide +kernel
theorem d_M_seed_23 : decode b_M_seed 23 = .ok (.i2l, 1) := by decide +kernel
theorem d_M_seed_24 : decode b_M_seed 24 = .ok (.putfield 39, 3) := by decide +kernel
theorem d_M_seed_27 : decode b_M_seed 27 = .ok (.iload_n 2, 1) := by decide +kernel
theorem d_M_seed_28 : decode b_M_seed 28 = .ok (.ireturn, 1) := by decide +kernel
theorem d_M_clear_0 : decode b_M_clear 0 = .ok (.iload_n 1, 1) := by decide +kernel
theorem d_M_clear_1 : decode b_M_clear 1 = .ok (.i2l, 1) := by decide +kernel
theorem d_M_clear_2 : decode b_M_clear 2 = .ok (.lconst 0, 1) := by decide +kernel
theorem d_M_clear_3 : decode b_M_clear 3 = .ok (.lconst 1, 1) := by decide +kernel
theorem d_M_clear_4 : decode b_M_clear 4 = .ok (.invokestatic 49, 3) := by decide +kernel
theorem d_M_clear_7 : decode b_M_clear 7 = .ok (.ifCond .eq 10, 3) := by decide +kernel
theorem d_M_clear_10 : decode b_M_clear 10 = .ok (.iload_n 2, 1) := by decide +kernel
theorem d_M_clear_11 : decode b_M_clear 11 = .ok (.invokestatic 55, 3) := by decide +kernel
theorem d_M_clear_14 : decode b_M_clear 14 = .ok (.ifCond .ne 6, 3) := by decide +kernel
theorem d_M_clear_17 : decode b_M_clear 17 = .ok (.bipush (-2), 2) := by decide +kernel
theorem d_M_clear_19 : decode b_M_clear 19 = .ok (.ireturn, 1) := by decide +kernel
theorem d_M_clear_20 : decode b_M_clear 20 = .ok (.aload_n 0, 1) := by decide +kernel
theorem d_M_clear_21 : decode b_M_clear 21 = .ok (.getfield 22, 3) := by decide +kernel
theorem d_M_clear_24 : decode b_M_clear 24 = .ok (.iload_n 1, 1) := by decide +kernel
theorem d_M_clear_25 : decode b_M_clear 25 = .ok (.iaload, 1) := by decide +kernel
theorem d_M_clear_26 : decode b_M_clear 26 = .ok (.istore_n 3, 1) := by decide +kernel
theorem d_M_clear_27 : decode b_M_clear 27 = .ok (.aload_n 0, 1) := by decide +kernel
theorem d_M_clear_28 : decode b_M_clear 28 = .ok (.getfield 22, 3) := by decide +kernel
theorem d_M_clear_31 : decode b_M_clear 31 = .ok (.iload_n 1, 1) := by decide +kernel
theorem d_M_clear_32 : decode b_M_clear 32 = .ok (.iconst 0, 1) := by decide +kernel
theorem d_M_clear_33 : decode b_M_clear 33 = .ok (.iastore, 1) := by decide +kernel
theorem d_M_clear_34 : decode b_M_clear 34 = .ok (.aload_n 0, 1) := by decide +kernel
theorem d_M_clear_35 : decode b_M_clear 35 = .ok (.getfield 19, 3) := by decide +kernel
theorem d_M_clear_38 : decode b_M_clear 38 = .ok (.iload_n 1, 1) := by decide +kernel
theorem d_M_clear_39 : decode b_M_clear 39 = .ok (.iload_n 2, 1) := by decide +kernel
theorem d_M_clear_40 : decode b_M_clear 40 = .ok (.iastore, 1) := by decide +kernel
theorem d_M_clear_41 : decode b_M_clear 41 = .ok (.iload_n 3, 1) := by decide +kernel
theorem d_M_clear_42 : decode b_M_clear 42 = .ok (.ireturn, 1) := by decide +kernel
theorem d_M_push_0 : decode b_M_push 0 = .ok (.iload_n 1, 1) := by decide +kernel
theorem d_M_push_1 : decode b_M_push 1 = .ok (.i2l, 1) := by decide +kernel
theorem d_M_push_2 : decode b_M_push 2 = .ok (.lconst 0, 1) := by decide +kernel
theorem d_M_push_3 : decode b_M_push 3 = .ok (.lconst 1, 1) := by decide +kernel
theorem d_M_push_4 : decode b_M_push 4 = .ok (.invokestatic 49, 3) := by decide +kernel
theorem d_M_push_7 : decode b_M_push 7 = .ok (.ifCond .eq 17, 3) := by decide +kernel
theorem d_M_push_10 : decode b_M_push 10 = .ok (.aload_n 0, 1) := by decide +kernel
theorem d_M_push_11 : decode b_M_push 11 = .ok (.aload_n 0, 1) := by decide +kernel
theorem d_M_push_12 : decode b_M_push 12 = .ok (.getfield 19, 3) := by decide +kernel
theorem d_M_push_15 : decode b_M_push 15 = .ok (.iload_n 1, 1) := by decide +kernel
theorem d_M_push_16 : decode b_M_push 16 = .ok (.iaload, 1) := by decide +kernel
theorem d_M_push_17 : decode b_M_push 17 = .ok (.iload_n 2, 1) := by decide +kernel
theorem d_M_push_18 : decode b_M_push 18 = .ok (.invokevirtual 93, 3) := by decide +kernel
theorem d_M_push_21 : decode b_M_push 21 = .ok (.ifCond .ne 6, 3) := by decide +kernel
theorem d_M_push_24 : decode b_M_push 24 = .ok (.bipush (-2), 2) := by decide +kernel
theorem d_M_push_26 : decode b_M_push 26 = .ok (.ireturn, 1) := by decide +kernel
theorem d_M_push_27 : decode b_M_push 27 = .ok (.aload_n 0, 1) := by decide +kernel
theorem d_M_push_28 : decode b_M_push 28 = .ok (.getfield 22, 3) := by decide +kernel
theorem d_M_push_31 : decode b_M_push 31 = .ok (.iload_n 1, 1) := by decide +kernel
theorem d_M_push_32 : decode b_M_push 32 = .ok (.iaload, 1) := by decide +kernel
theorem d_M_push_33 : decode b_M_push 33 = .ok (.bipush 32, 2) := by decide +kernel
theorem d_M_push_35 : decode b_M_push 35 = .ok (.if_icmp .ne 6, 3) := by decide +kernel
theorem d_M_push_38 : decode b_M_push 38 = .ok (.bipush (-3), 2) := by decide +kernel
theorem d_M_push_40 : decode b_M_push 40 = .ok (.ireturn, 1) := by decide +kernel
theorem d_M_push_41 : decode b_M_push 41 = .ok (.aload_n 0, 1) := by decide +kernel
theorem d_M_push_42 : decode b_M_push 42 = .ok (.getfield 25, 3) := by decide +kernel
theorem d_M_push_45 : decode b_M_push 45 = .ok (.bipush 32, 2) := by decide +kernel
theorem d_M_push_47 : decode b_M_push 47 = .ok (.iload_n 1, 1) := by decide +kernel
theorem d_M_push_48 : decode b_M_push 48 = .ok (.imul, 1) := by decide +kernel
theorem d_M_push_49 : decode b_M_push 49 = .ok (.aload_n 0, 1) := by decide +kernel
theorem d_M_push_50 : decode b_M_push 50 = .ok (.getfield 22, 3) := by decide +kernel
theorem d_M_push_53 : decode b_M_push 53 = .ok (.iload_n 1, 1) := by decide +kernel
theorem d_M_push_54 : decode b_M_push 54 = .ok (.iaload, 1) := by decide +kernel
theorem d_M_push_55 : decode b_M_push 55 = .ok (.iadd, 1) := by decide +kernel
theorem d_M_push_56 : decode b_M_push 56 = .ok (.aload_n 0, 1) := by decide +kernel
theorem d_M_push_57 : decode b_M_push 57 = .ok (.aload_n 0, 1) := by decide +kernel
theorem d_M_push_58 : decode b_M_push 58 = .ok (.getfield 19, 3) := by decide +kernel
theorem d_M_push_61 : decode b_M_push 61 = .ok (.iload_n 1, 1) := by decide +kernel
theorem d_M_push_62 : decode b_M_push 62 = .ok (.iaload, 1) := by decide +kernel
theorem d_M_push_63 : decode b_M_push 63 = .ok (.iload_n 2, 1) := by decide +kernel
theorem d_M_push_64 : decode b_M_push 64 = .ok (.invokevirtual 81, 3) := by decide +kernel
theorem d_M_push_67 : decode b_M_push 67 = .ok (.lastore, 1) := by decide +kernel
theorem d_M_push_68 : decode b_M_push 68 = .ok (.aload_n 0, 1) := by decide +kernel
theorem d_M_push_69 : decode b_M_push 69 = .ok (.getfield 22, 3) := by decide +kernel
theorem d_M_push_72 : decode b_M_push 72 = .ok (.iload_n 1, 1) := by decide +kernel
theorem d_M_push_73 : decode b_M_push 73 = .ok (.dup2, 1) := by decide +kernel
theorem d_M_push_74 : decode b_M_push 74 = .ok (.iaload, 1) := by decide +kernel
theorem d_M_push_75 : decode b_M_push 75 = .ok (.iconst 1, 1) := by decide +kernel
theorem d_M_push_76 : decode b_M_push 76 = .ok (.iadd, 1) := by decide +kernel
theorem d_M_push_77 : decode b_M_push 77 = .ok (.iastore, 1) := by decide +kernel
theorem d_M_push_78 : decode b_M_push 78 = .ok (.aload_n 0, 1) := by decide +kernel
theorem d_M_push_79 : decode b_M_push 79 = .ok (.getfield 22, 3) := by decide +kernel
theorem d_M_push_82 : decode b_M_push 82 = .ok (.iload_n 1, 1) := by decide +kernel
theorem d_M_push_83 : decode b_M_push 83 = .ok (.iaload, 1) := by decide +kernel
theorem d_M_push_84 : decode b_M_push 84 = .ok (.ireturn, 1) := by decide +kernel
theorem d_M_at_0 : decode b_M_at 0 = .ok (.iload_n 1, 1) := by decide +kernel
theorem d_M_at_1 : decode b_M_at 1 = .ok (.i2l, 1) := by decide +kernel
theorem d_M_at_2 : decode b_M_at 2 = .ok (.lconst 0, 1) := by decide +kernel
theorem d_M_at_3 : decode b_M_at 3 = .ok (.lconst 1, 1) := by decide +kernel
theorem d_M_at_4 : decode b_M_at 4 = .ok (.invokestatic 49, 3) := by decide +kernel
theorem d_M_at_7 : decode b_M_at 7 = .ok (.ifCond .eq 35, 3) := by decide +kernel
theorem d_M_at_10 : decode b_M_at 10 = .ok (.iload_n 2, 1) := by decide +kernel
theorem d_M_at_11 : decode b_M_at 11 = .ok (.i2l, 1) := by decide +kernel
theorem d_M_at_12 : decode b_M_at 12 = .ok (.lconst 0, 1) := by decide +kernel
theorem d_M_at_13 : decode b_M_at 13 = .ok (.aload_n 0, 1) := by decide +kernel
theorem d_M_at_14 : decode b_M_at 14 = .ok (.getfield 22, 3) := by decide +kernel
theorem d_M_at_17 : decode b_M_at 17 = .ok (.iload_n 1, 1) := by decide +kernel
theorem d_M_at_18 : decode b_M_at 18 = .ok (.iaload, 1) := by decide +kernel
theorem d_M_at_19 : decode b_M_at 19 = .ok (.iconst 1, 1) := by decide +kernel
theorem d_M_at_20 : decode b_M_at 20 = .ok (.isub, 1) := by decide +kernel
theorem d_M_at_21 : decode b_M_at 21 = .ok (.i2l, 1) := by decide +kernel
theorem d_M_at_22 : decode b_M_at 22 = .ok (.invokestatic 49, 3) := by decide +kernel
theorem d_M_at_25 : decode b_M_at 25 = .ok (.ifCond .eq 17, 3) := by decide +kernel
theorem d_M_at_28 : decode b_M_at 28 = .ok (.aload_n 0, 1) := by decide +kernel
theorem d_M_at_29 : decode b_M_at 29 = .ok (.getfield 25, 3) := by decide +kernel
theorem d_M_at_32 : decode b_M_at 32 = .ok (.bipush 32, 2) := by decide +kernel
theorem d_M_at_34 : decode b_M_at 34 = .ok (.iload_n 1, 1) := by decide +kernel
theorem d_M_at_35 : decode b_M_at 35 = .ok (.imul, 1) := by decide +kernel
theorem d_M_at_36 : decode b_M_at 36 = .ok (.iload_n 2, 1) := by decide +kernel
theorem d_M_at_37 : decode b_M_at 37 = .ok (.iadd, 1) := by decide +kernel
theorem d_M_at_38 : decode b_M_at 38 = .ok (.laload, 1) := by decide +kernel
theorem d_M_at_39 : decode b_M_at 39 = .ok (.goto 6, 3) := by decide +kernel
theorem d_M_at_42 : decode b_M_at 42 = .ok (.ldc2_w 179, 3) := by decide +kernel
theorem d_M_at_45 : decode b_M_at 45 = .ok (.lreturn, 1) := by decide +kernel
theorem d_M_count_0 : decode b_M_count 0 = .ok (.iload_n 1, 1) := by decide +kernel
theorem d_M_count_1 : decode b_M_count 1 = .ok (.tableswitch 74 0 6 #[43, 43, 50, 50, 59, 64, 69], 43) := by decide +kernel
theorem d_M_count_44 : decode b_M_count 44 = .ok (.aload_n 0, 1) := by decide +kernel
theorem d_M_count_45 : decode b_M_count 45 = .ok (.getfield 22, 3) := by decide +kernel
theorem d_M_count_48 : decode b_M_count 48 = .ok (.iload_n 1, 1) := by decide +kernel
theorem d_M_count_49 : decode b_M_count 49 = .ok (.iaload, 1) := by decide +kernel
theorem d_M_count_50 : decode b_M_count 50 = .ok (.ireturn, 1) := by decide +kernel
theorem d_M_count_51 : decode b_M_count 51 = .ok (.aload_n 0, 1) := by decide +kernel
theorem d_M_count_52 : decode b_M_count 52 = .ok (.getfield 19, 3) := by decide +kernel
theorem d_M_count_55 : decode b_M_count 55 = .ok (.iload_n 1, 1) := by decide +kernel
theorem d_M_count_56 : decode b_M_count 56 = .ok (.iconst 2, 1) := by decide +kernel
theorem d_M_count_57 : decode b_M_count 57 = .ok (.isub, 1) := by decide +kernel
theorem d_M_count_58 : decode b_M_count 58 = .ok (.iaload, 1) := by decide +kernel
theorem d_M_count_59 : decode b_M_count 59 = .ok (.ireturn, 1) := by decide +kernel
theorem d_M_count_60 : decode b_M_count 60 = .ok (.aload_n 0, 1) := by decide +kernel
theorem d_M_count_61 : decode b_M_count 61 = .ok (.getfield 201, 3) := by decide +kernel
theorem d_M_count_64 : decode b_M_count 64 = .ok (.ireturn, 1) := by decide +kernel
theorem d_M_count_65 : decode b_M_count 65 = .ok (.aload_n 0, 1) := by decide +kernel
theorem d_M_count_66 : decode b_M_count 66 = .ok (.getfield 204, 3) := by decide +kernel
theorem d_M_count_69 : decode b_M_count 69 = .ok (.ireturn, 1) := by decide +kernel
theorem d_M_count_70 : decode b_M_count 70 = .ok (.aload_n 0, 1) := by decide +kernel
theorem d_M_count_71 : decode b_M_count 71 = .ok (.getfield 43, 3) := by decide +kernel
theorem d_M_count_74 : decode b_M_count 74 = .ok (.ireturn, 1) := by decide +kernel
theorem d_M_count_75 : decode b_M_count 75 = .ok (.ldc 97, 2) := by decide +kernel
theorem d_M_count_77 : decode b_M_count 77 = .ok (.ireturn, 1) := by decide +kernel
theorem d_M_sum_0 : decode b_M_sum 0 = .ok (.iload_n 1, 1) := by decide +kernel
theorem d_M_sum_1 : decode b_M_sum 1 = .ok (.i2l, 1) := by decide +kernel
theorem d_M_sum_2 : decode b_M_sum 2 = .ok (.lconst 0, 1) := by decide +kernel
theorem d_M_sum_3 : decode b_M_sum 3 = .ok (.lconst 1, 1) := by decide +kernel
theorem d_M_sum_4 : decode b_M_sum 4 = .ok (.invokestatic 49, 3) := by decide +kernel
theorem d_M_sum_7 : decode b_M_sum 7 = .ok (.ifCond .eq 30, 3) := by decide +kernel
theorem d_M_sum_10 : decode b_M_sum 10 = .ok (.iload_n 2, 1) := by decide +kernel
theorem d_M_sum_11 : decode b_M_sum 11 = .ok (.i2l, 1) := by decide +kernel
theorem d_M_sum_12 : decode b_M_sum 12 = .ok (.lconst 0, 1) := by decide +kernel
theorem d_M_sum_13 : decode b_M_sum 13 = .ok (.ldc2_w 59, 3) := by decide +kernel
theorem d_M_sum_16 : decode b_M_sum 16 = .ok (.invokestatic 49, 3) := by decide +kernel
theorem d_M_sum_19 : decode b_M_sum 19 = .ok (.ifCond .eq 18, 3) := by decide +kernel
theorem d_M_sum_22 : decode b_M_sum 22 = .ok (.iload_n 3, 1) := by decide +kernel
theorem d_M_sum_23 : decode b_M_sum 23 = .ok (.invokestatic 55, 3) := by decide +kernel
theorem d_M_sum_26 : decode b_M_sum 26 = .ok (.ifCond .eq 11, 3) := by decide +kernel
theorem d_M_sum_29 : decode b_M_sum 29 = .ok (.iload 4, 2) := by decide +kernel
theorem d_M_sum_31 : decode b_M_sum 31 = .ok (.invokestatic 176, 3) := by decide +kernel
theorem d_M_sum_34 : decode b_M_sum 34 = .ok (.ifCond .ne 7, 3) := by decide +kernel
theorem d_M_sum_37 : decode b_M_sum 37 = .ok (.ldc2_w 179, 3) := by decide +kernel
theorem d_M_sum_40 : decode b_M_sum 40 = .ok (.lreturn, 1) := by decide +kernel
theorem d_M_sum_41 : decode b_M_sum 41 = .ok (.aload_n 0, 1) := by decide +kernel
theorem d_M_sum_42 : decode b_M_sum 42 = .ok (.getfield 19, 3) := by decide +kernel
theorem d_M_sum_45 : decode b_M_sum 45 = .ok (.iload_n 1, 1) := by decide +kernel
theorem d_M_sum_46 : decode b_M_sum 46 = .ok (.iaload, 1) := by decide +kernel
theorem d_M_sum_47 : decode b_M_sum 47 = .ok (.istore 5, 2) := by decide +kernel
theorem d_M_sum_49 : decode b_M_sum 49 = .ok (.aload_n 0, 1) := by decide +kernel
theorem d_M_sum_50 : decode b_M_sum 50 = .ok (.getfield 22, 3) := by decide +kernel
theorem d_M_sum_53 : decode b_M_sum 53 = .ok (.iload_n 1, 1) := by decide +kernel
theorem d_M_sum_54 : decode b_M_sum 54 = .ok (.iaload, 1) := by decide +kernel
theorem d_M_sum_55 : decode b_M_sum 55 = .ok (.istore 6, 2) := by decide +kernel
theorem d_M_sum_57 : decode b_M_sum 57 = .ok (.iload_n 2, 1) := by decide +kernel
theorem d_M_sum_58 : decode b_M_sum 58 = .ok (.iconst 2, 1) := by decide +kernel
theorem d_M_sum_59 : decode b_M_sum 59 = .ok (.if_icmp .ne 51, 3) := by decide +kernel
theorem d_M_sum_62 : decode b_M_sum 62 = .ok (.aload_n 0, 1) := by decide +kernel
theorem d_M_sum_63 : decode b_M_sum 63 = .ok (.invokevirtual 185, 3) := by decide +kernel
theorem d_M_sum_66 : decode b_M_sum 66 = .ok (.iconst 0, 1) := by decide +kernel
theorem d_M_sum_67 : decode b_M_sum 67 = .ok (.istore 7, 2) := by decide +kernel
theorem d_M_sum_69 : decode b_M_sum 69 = .ok (.iload 7, 2) := by decide +kernel
theorem d_M_sum_71 : decode b_M_sum 71 = .ok (.iload 6, 2) := by decide +kernel
theorem d_M_sum_73 : decode b_M_sum 73 = .ok (.if_icmp .ge 29, 3) := by decide +kernel
theorem d_M_sum_76 : decode b_M_sum 76 = .ok (.aload_n 0, 1) := by decide +kernel
theorem d_M_sum_77 : decode b_M_sum 77 = .ok (.iload 5, 2) := by decide +kernel
theorem d_M_sum_79 : decode b_M_sum 79 = .ok (.aload_n 0, 1) := by decide +kernel
theorem d_M_sum_80 : decode b_M_sum 80 = .ok (.getfield 25, 3) := by decide +kernel
theorem d_M_sum_83 : decode b_M_sum 83 = .ok (.bipush 32, 2) := by decide +kernel
theorem d_M_sum_85 : decode b_M_sum 85 = .ok (.iload_n 1, 1) := by decide +kernel
theorem d_M_sum_86 : decode b_M_sum 86 = .ok (.imul, 1) := by decide +kernel
theorem d_M_sum_87 : decode b_M_sum 87 = .ok (.iload 7, 2) := by decide +kernel
theorem d_M_sum_89 : decode b_M_sum 89 = .ok (.iadd, 1) := by decide +kernel
theorem d_M_sum_90 : decode b_M_sum 90 = .ok (.laload, 1) := by decide +kernel
theorem d_M_sum_91 : decode b_M_sum 91 = .ok (.iconst 0, 1) := by decide +kernel
theorem d_M_sum_92 : decode b_M_sum 92 = .ok (.iconst 0, 1) := by decide +kernel
theorem d_M_sum_93 : decode b_M_sum 93 = .ok (.invokevirtual 188, 3) := by decide +kernel
theorem d_M_sum_96 : decode b_M_sum 96 = .ok (.iinc 7 1, 3) := by decide +kernel
theorem d_M_sum_99 : decode b_M_sum 99 = .ok (.goto (-30), 3) := by decide +kernel
theorem d_M_sum_102 : decode b_M_sum 102 = .ok (.aload_n 0, 1) := by decide +kernel
theorem d_M_sum_103 : decode b_M_sum 103 = .ok (.iload_n 3, 1) := by decide +kernel
theorem d_M_sum_104 : decode b_M_sum 104 = .ok (.iload 4, 2) := by decide +kernel
theorem d_M_sum_106 : decode b_M_sum 106 = .ok (.invokevirtual 192, 3) := by decide +kernel
theorem d_M_sum_109 : decode b_M_sum 109 = .ok (.lreturn, 1) := by decide +kernel
theorem d_M_sum_110 : decode b_M_sum 110 = .ok (.iload 6, 2) := by decide +kernel
theorem d_M_sum_112 : decode b_M_sum 112 = .ok (.ifCond .ne 5, 3) := by decide +kernel
theorem d_M_sum_115 : decode b_M_sum 115 = .ok (.lconst 0, 1) := by decide +kernel
theorem d_M_sum_116 : decode b_M_sum 116 = .ok (.lreturn, 1) := by decide +kernel
theorem d_M_sum_117 : decode b_M_sum 117 = .ok (.iload_n 2, 1) := by decide +kernel
theorem d_M_sum_118 : decode b_M_sum 118 = .ok (.ifCond .ne 84, 3) := by decide +kernel
theorem d_M_sum_121 : decode b_M_sum 121 = .ok (.aload_n 0, 1) := by decide +kernel
theorem d_M_sum_122 : decode b_M_sum 122 = .ok (.iload 5, 2) := by decide +kernel
theorem d_M_sum_124 : decode b_M_sum 124 = .ok (.aload_n 0, 1) := by decide +kernel
theorem d_M_sum_125 : decode b_M_sum 125 = .ok (.getfield 25, 3) := by decide +kernel
theorem d_M_sum_128 : decode b_M_sum 128 = .ok (.bipush 32, 2) := by decide +kernel
theorem d_M_sum_130 : decode b_M_sum 130 = .ok (.iload_n 1, 1) := by decide +kernel
theorem d_M_sum_131 : decode b_M_sum 131 = .ok (.imul, 1) := by decide +kernel
theorem d_M_sum_132 : decode b_M_sum 132 = .ok (.laload, 1) := by decide +kernel
theorem d_M_sum_133 : decode b_M_sum 133 = .ok (.iload_n 3, 1) := by decide +kernel
theorem d_M_sum_134 : decode b_M_sum 134 = .ok (.iload 4, 2) := by decide +kernel
theorem d_M_sum_136 : decode b_M_sum 136 = .ok (.invokevirtual 181, 3) := by decide +kernel
theorem d_M_sum_139 : decode b_M_sum 139 = .ok (.lstore 7, 2) := by decide +kernel
theorem d_M_sum_141 : decode b_M_sum 141 = .ok (.iconst 1, 1) := by decide +kernel
theorem d_M_sum_142 : decode b_M_sum 142 = .ok (.istore 9, 2) := by decide +kernel
theorem d_M_sum_144 : decode b_M_sum 144 = .ok (.iload 9, 2) := by decide +kernel
theorem d_M_sum_146 : decode b_M_sum 146 = .ok (.iload 6, 2) := by decide +kernel
theorem d_M_sum_148 : decode b_M_sum 148 = .ok (.if_icmp .ge 51, 3) := by decide +kernel
theorem d_M_sum_151 : decode b_M_sum 151 = .ok (.aload_n 0, 1) := by decide +kernel
theorem d_M_sum_152 : decode b_M_sum 152 = .ok (.invokevirtual 185, 3) := by decide +kernel
theorem d_M_sum_155 : decode b_M_sum 155 = .ok (.aload_n 0, 1) := by decide +kernel
theorem d_M_sum_156 : decode b_M_sum 156 = .ok (.iload_n 3, 1) := by decide +kernel
theorem d_M_sum_157 : decode b_M_sum 157 = .ok (.lload 7, 2) := by decide +kernel
theorem d_M_sum_159 : decode b_M_sum 159 = .ok (.iconst 0, 1) := by decide +kernel
theorem d_M_sum_160 : decode b_M_sum 160 = .ok (.iconst 0, 1) := by decide +kernel
theorem d_M_sum_161 : decode b_M_sum 161 = .ok (.invokevirtual 188, 3) := by decide +kernel
theorem d_M_sum_164 : decode b_M_sum 164 = .ok (.aload_n 0, 1) := by decide +kernel
theorem d_M_sum_165 : decode b_M_sum 165 = .ok (.iload 5, 2) := by decide +kernel
theorem d_M_sum_167 : decode b_M_sum 167 = .ok (.aload_n 0, 1) := by decide +kernel
theorem d_M_sum_168 : decode b_M_sum 168 = .ok (.getfield 25, 3) := by decide +kernel
theorem d_M_sum_171 : decode b_M_sum 171 = .ok (.bipush 32, 2) := by decide +kernel
theorem d_M_sum_173 : decode b_M_sum 173 = .ok (.iload_n 1, 1) := by decide +kernel
theorem d_M_sum_174 : decode b_M_sum 174 = .ok (.imul, 1) := by decide +kernel
theorem d_M_sum_175 : decode b_M_sum 175 = .ok (.iload 9, 2) := by decide +kernel
theorem d_M_sum_177 : decode b_M_sum 177 = .ok (.iadd, 1) := by decide +kernel
theorem d_M_sum_178 : decode b_M_sum 178 = .ok (.laload, 1) := by decide +kernel
theorem d_M_sum_179 : decode b_M_sum 179 = .ok (.iconst 0, 1) := by decide +kernel
theorem d_M_sum_180 : decode b_M_sum 180 = .ok (.iconst 0, 1) := by decide +kernel
theorem d_M_sum_181 : decode b_M_sum 181 = .ok (.invokevirtual 188, 3) := by decide +kernel
theorem d_M_sum_184 : decode b_M_sum 184 = .ok (.aload_n 0, 1) := by decide +kernel
theorem d_M_sum_185 : decode b_M_sum 185 = .ok (.iload_n 3, 1) := by decide +kernel
theorem d_M_sum_186 : decode b_M_sum 186 = .ok (.iload 4, 2) := by decide +kernel
theorem d_M_sum_188 : decode b_M_sum 188 = .ok (.invokevirtual 192, 3) := by decide +kernel
theorem d_M_sum_191 : decode b_M_sum 191 = .ok (.lstore 7, 2) := by decide +kernel
theorem d_M_sum_193 : decode b_M_sum 193 = .ok (.iinc 9 1, 3) := by decide +kernel
theorem d_M_sum_196 : decode b_M_sum 196 = .ok (.goto (-52), 3) := by decide +kernel
theorem d_M_sum_199 : decode b_M_sum 199 = .ok (.lload 7, 2) := by decide +kernel
theorem d_M_sum_201 : decode b_M_sum 201 = .ok (.lreturn, 1) := by decide +kernel
theorem d_M_sum_202 : decode b_M_sum 202 = .ok (.iconst 0, 1) := by decide +kernel
theorem d_M_sum_203 : decode b_M_sum 203 = .ok (.istore 7, 2) := by decide +kernel
theorem d_M_sum_205 : decode b_M_sum 205 = .ok (.iload 7, 2) := by decide +kernel
theorem d_M_sum_207 : decode b_M_sum 207 = .ok (.iload 6, 2) := by decide +kernel
theorem d_M_sum_209 : decode b_M_sum 209 = .ok (.if_icmp .ge 37, 3) := by decide +kernel
theorem d_M_sum_212 : decode b_M_sum 212 = .ok (.aload_n 0, 1) := by decide +kernel
theorem d_M_sum_213 : decode b_M_sum 213 = .ok (.getfield 32, 3) := by decide +kernel
theorem d_M_sum_216 : decode b_M_sum 216 = .ok (.iload 7, 2) := by decide +kernel
theorem d_M_sum_218 : decode b_M_sum 218 = .ok (.aload_n 0, 1) := by decide +kernel
theorem d_M_sum_219 : decode b_M_sum 219 = .ok (.iload 5, 2) := by decide +kernel
theorem d_M_sum_221 : decode b_M_sum 221 = .ok (.aload_n 0, 1) := by decide +kernel
theorem d_M_sum_222 : decode b_M_sum 222 = .ok (.getfield 25, 3) := by decide +kernel
theorem d_M_sum_225 : decode b_M_sum 225 = .ok (.bipush 32, 2) := by decide +kernel
theorem d_M_sum_227 : decode b_M_sum 227 = .ok (.iload_n 1, 1) := by decide +kernel
theorem d_M_sum_228 : decode b_M_sum 228 = .ok (.imul, 1) := by decide +kernel
theorem d_M_sum_229 : decode b_M_sum 229 = .ok (.iload 7, 2) := by decide +kernel
theorem d_M_sum_231 : decode b_M_sum 231 = .ok (.iadd, 1) := by decide +kernel
theorem d_M_sum_232 : decode b_M_sum 232 = .ok (.laload, 1) := by decide +kernel
theorem d_M_sum_233 : decode b_M_sum 233 = .ok (.iload_n 3, 1) := by decide +kernel
theorem d_M_sum_234 : decode b_M_sum 234 = .ok (.iload 4, 2) := by decide +kernel
theorem d_M_sum_236 : decode b_M_sum 236 = .ok (.invokevirtual 181, 3) := by decide +kernel
theorem d_M_sum_239 : decode b_M_sum 239 = .ok (.lastore, 1) := by decide +kernel
theorem d_M_sum_240 : decode b_M_sum 240 = .ok (.iinc 7 1, 3) := by decide +kernel
theorem d_M_sum_243 : decode b_M_sum 243 = .ok (.goto (-38), 3) := by decide +kernel
theorem d_M_sum_246 : decode b_M_sum 246 = .ok (.iload 6, 2) := by decide +kernel
theorem d_M_sum_248 : decode b_M_sum 248 = .ok (.iconst 1, 1) := by decide +kernel
theorem d_M_sum_249 : decode b_M_sum 249 = .ok (.if_icmp .le 106, 3) := by decide +kernel
theorem d_M_sum_252 : decode b_M_sum 252 = .ok (.iconst 0, 1) := by decide +kernel
theorem d_M_sum_253 : decode b_M_sum 253 = .ok (.istore 7, 2) := by decide +kernel
theorem d_M_sum_255 : decode b_M_sum 255 = .ok (.iconst 0, 1) := by decide +kernel
theorem d_M_sum_256 : decode b_M_sum 256 = .ok (.istore 8, 2) := by decide +kernel
theorem d_M_sum_258 : decode b_M_sum 258 = .ok (.iload 8, 2) := by decide +kernel
theorem d_M_sum_260 : decode b_M_sum 260 = .ok (.iload 6, 2) := by decide +kernel
theorem d_M_sum_262 : decode b_M_sum 262 = .ok (.if_icmp .ge 86, 3) := by decide +kernel
theorem d_M_sum_265 : decode b_M_sum 265 = .ok (.iload 8, 2) := by decide +kernel
theorem d_M_sum_267 : decode b_M_sum 267 = .ok (.iconst 1, 1) := by decide +kernel
theorem d_M_sum_268 : decode b_M_sum 268 = .ok (.iadd, 1) := by decide +kernel
theorem d_M_sum_269 : decode b_M_sum 269 = .ok (.iload 6, 2) := by decide +kernel
theorem d_M_sum_271 : decode b_M_sum 271 = .ok (.if_icmp .ge 54, 3) := by decide +kernel
theorem d_M_sum_274 : decode b_M_sum 274 = .ok (.aload_n 0, 1) := by decide +kernel
theorem d_M_sum_275 : decode b_M_sum 275 = .ok (.invokevirtual 185, 3) := by decide +kernel
theorem d_M_sum_278 : decode b_M_sum 278 = .ok (.aload_n 0, 1) := by decide +kernel
theorem d_M_sum_279 : decode b_M_sum 279 = .ok (.iload_n 3, 1) := by decide +kernel
theorem d_M_sum_280 : decode b_M_sum 280 = .ok (.aload_n 0, 1) := by decide +kernel
theorem d_M_sum_281 : decode b_M_sum 281 = .ok (.getfield 32, 3) := by decide +kernel
theorem d_M_sum_284 : decode b_M_sum 284 = .ok (.iload 8, 2) := by decide +kernel
theorem d_M_sum_286 : decode b_M_sum 286 = .ok (.laload, 1) := by decide +kernel
theorem d_M_sum_287 : decode b_M_sum 287 = .ok (.iconst 0, 1) := by decide +kernel
theorem d_M_sum_288 : decode b_M_sum 288 = .ok (.iconst 0, 1) := by decide +kernel
theorem d_M_sum_289 : decode b_M_sum 289 = .ok (.invokevirtual 188, 3) := by decide +kernel
theorem d_M_sum_292 : decode b_M_sum 292 = .ok (.aload_n 0, 1) := by decide +kernel
theorem d_M_sum_293 : decode b_M_sum 293 = .ok (.iload_n 3, 1) := by decide +kernel
theorem d_M_sum_294 : decode b_M_sum 294 = .ok (.aload_n 0, 1) := by decide +kernel
theorem d_M_sum_295 : decode b_M_sum 295 = .ok (.getfield 32, 3) := by decide +kernel
theorem d_M_sum_298 : decode b_M_sum 298 = .ok (.iload 8, 2) := by decide +kernel
theorem d_M_sum_300 : decode b_M_sum 300 = .ok (.iconst 1, 1) := by decide +kernel
theorem d_M_sum_301 : decode b_M_sum 301 = .ok (.iadd, 1) := by decide +kernel
theorem d_M_sum_302 : decode b_M_sum 302 = .ok (.laload, 1) := by decide +kernel
theorem d_M_sum_303 : decode b_M_sum 303 = .ok (.iconst 0, 1) := by decide +kernel
theorem d_M_sum_304 : decode b_M_sum 304 = .ok (.iconst 0, 1) := by decide +kernel
theorem d_M_sum_305 : decode b_M_sum 305 = .ok (.invokevirtual 188, 3) := by decide +kernel
theorem d_M_sum_308 : decode b_M_sum 308 = .ok (.aload_n 0, 1) := by decide +kernel
theorem d_M_sum_309 : decode b_M_sum 309 = .ok (.getfield 32, 3) := by decide +kernel
theorem d_M_sum_312 : decode b_M_sum 312 = .ok (.iload 7, 2) := by decide +kernel
theorem d_M_sum_314 : decode b_M_sum 314 = .ok (.aload_n 0, 1) := by decide +kernel
theorem d_M_sum_315 : decode b_M_sum 315 = .ok (.iload_n 3, 1) := by decide +kernel
theorem d_M_sum_316 : decode b_M_sum 316 = .ok (.iload 4, 2) := by decide +kernel
theorem d_M_sum_318 : decode b_M_sum 318 = .ok (.invokevirtual 192, 3) := by decide +kernel
theorem d_M_sum_321 : decode b_M_sum 321 = .ok (.lastore, 1) := by decide +kernel
theorem d_M_sum_322 : decode b_M_sum 322 = .ok (.goto 17, 3) := by decide +kernel
theorem d_M_sum_325 : decode b_M_sum 325 = .ok (.aload_n 0, 1) := by decide +kernel
theorem d_M_sum_326 : decode b_M_sum 326 = .ok (.getfield 32, 3) := by decide +kernel
theorem d_M_sum_329 : decode b_M_sum 329 = .ok (.iload 7, 2) := by decide +kernel
theorem d_M_sum_331 : decode b_M_sum 331 = .ok (.aload_n 0, 1) := by decide +kernel
theorem d_M_sum_332 : decode b_M_sum 332 = .ok (.getfield 32, 3) := by decide +kernel
theorem d_M_sum_335 : decode b_M_sum 335 = .ok (.iload 8, 2) := by decide +kernel
theorem d_M_sum_337 : decode b_M_sum 337 = .ok (.laload, 1) := by decide +kernel
theorem d_M_sum_338 : decode b_M_sum 338 = .ok (.lastore, 1) := by decide +kernel
theorem d_M_sum_339 : decode b_M_sum 339 = .ok (.iinc 7 1, 3) := by decide +kernel
theorem d_M_sum_342 : decode b_M_sum 342 = .ok (.iinc 8 2, 3) := by decide +kernel
theorem d_M_sum_345 : decode b_M_sum 345 = .ok (.goto (-87), 3) := by decide +kernel
theorem d_M_sum_348 : decode b_M_sum 348 = .ok (.iload 7, 2) := by decide +kernel
theorem d_M_sum_350 : decode b_M_sum 350 = .ok (.istore 6, 2) := by decide +kernel
theorem d_M_sum_352 : decode b_M_sum 352 = .ok (.goto (-106), 3) := by decide +kernel
theorem d_M_sum_355 : decode b_M_sum 355 = .ok (.aload_n 0, 1) := by decide +kernel
theorem d_M_sum_356 : decode b_M_sum 356 = .ok (.getfield 32, 3) := by decide +kernel
theorem d_M_sum_359 : decode b_M_sum 359 = .ok (.iconst 0, 1) := by decide +kernel
theorem d_M_sum_360 : decode b_M_sum 360 = .ok (.laload, 1) := by decide +kernel
theorem d_M_sum_361 : decode b_M_sum 361 = .ok (.lreturn, 1) := by decide +kernel
theorem d_M_shorter_0 : decode b_M_shorter 0 = .ok (.aload_n 0, 1) := by decide +kernel
theorem d_M_shorter_1 : decode b_M_shorter 1 = .ok (.getfield 22, 3) := by decide +kernel
theorem d_M_shorter_4 : decode b_M_shorter 4 = .ok (.iconst 0, 1) := by decide +kernel
theorem d_M_shorter_5 : decode b_M_shorter 5 = .ok (.iaload, 1) := by decide +kernel
theorem d_M_shorter_6 : decode b_M_shorter 6 = .ok (.aload_n 0, 1) := by decide +kernel
theorem d_M_shorter_7 : decode b_M_shorter 7 = .ok (.getfield 22, 3) := by decide +kernel
theorem d_M_shorter_10 : decode b_M_shorter 10 = .ok (.iconst 1, 1) := by decide +kernel
theorem d_M_shorter_11 : decode b_M_shorter 11 = .ok (.iaload, 1) := by decide +kernel
theorem d_M_shorter_12 : decode b_M_shorter 12 = .ok (.if_icmp .ge 12, 3) := by decide +kernel
theorem d_M_shorter_15 : decode b_M_shorter 15 = .ok (.aload_n 0, 1) := by decide +kernel
theorem d_M_shorter_16 : decode b_M_shorter 16 = .ok (.getfield 22, 3) := by decide +kernel
theorem d_M_shorter_19 : decode b_M_shorter 19 = .ok (.iconst 0, 1) := by decide +kernel
theorem d_M_shorter_20 : decode b_M_shorter 20 = .ok (.iaload, 1) := by decide +kernel
theorem d_M_shorter_21 : decode b_M_shorter 21 = .ok (.goto 9, 3) := by decide +kernel
theorem d_M_shorter_24 : decode b_M_shorter 24 = .ok (.aload_n 0, 1) := by decide +kernel
theorem d_M_shorter_25 : decode b_M_shorter 25 = .ok (.getfield 22, 3) := by decide +kernel
theorem d_M_shorter_28 : decode b_M_shorter 28 = .ok (.iconst 1, 1) := by decide +kernel
theorem d_M_shorter_29 : decode b_M_shorter 29 = .ok (.iaload, 1) := by decide +kernel
theorem d_M_shorter_30 : decode b_M_shorter 30 = .ok (.ireturn, 1) := by decide +kernel
theorem d_M_dot_0 : decode b_M_dot 0 = .ok (.iload_n 1, 1) := by decide +kernel
theorem d_M_dot_1 : decode b_M_dot 1 = .ok (.i2l, 1) := by decide +kernel
theorem d_M_dot_2 : decode b_M_dot 2 = .ok (.lconst 0, 1) := by decide +kernel
theorem d_M_dot_3 : decode b_M_dot 3 = .ok (.ldc2_w 207, 3) := by decide +kernel
theorem d_M_dot_6 : decode b_M_dot 6 = .ok (.invokestatic 49, 3) := by decide +kernel
theorem d_M_dot_9 : decode b_M_dot 9 = .ok (.ifCond .eq 25, 3) := by decide +kernel
theorem d_M_dot_12 : decode b_M_dot 12 = .ok (.iload_n 2, 1) := by decide +kernel
theorem d_M_dot_13 : decode b_M_dot 13 = .ok (.invokestatic 55, 3) := by decide +kernel
theorem d_M_dot_16 : decode b_M_dot 16 = .ok (.ifCond .eq 18, 3) := by decide +kernel
theorem d_M_dot_19 : decode b_M_dot 19 = .ok (.iload_n 3, 1) := by decide +kernel
theorem d_M_dot_20 : decode b_M_dot 20 = .ok (.invokestatic 55, 3) := by decide +kernel
theorem d_M_dot_23 : decode b_M_dot 23 = .ok (.ifCond .eq 11, 3) := by decide +kernel
theorem d_M_dot_26 : decode b_M_dot 26 = .ok (.iload 4, 2) := by decide +kernel
theorem d_M_dot_28 : decode b_M_dot 28 = .ok (.invokestatic 176, 3) := by decide +kernel
theorem d_M_dot_31 : decode b_M_dot 31 = .ok (.ifCond .ne 7, 3) := by decide +kernel
theorem d_M_dot_34 : decode b_M_dot 34 = .ok (.ldc2_w 179, 3) := by decide +kernel
theorem d_M_dot_37 : decode b_M_dot 37 = .ok (.lreturn, 1) := by decide +kernel
theorem d_M_dot_38 : decode b_M_dot 38 = .ok (.aload_n 0, 1) := by decide +kernel
theorem d_M_dot_39 : decode b_M_dot 39 = .ok (.invokevirtual 209, 3) := by decide +kernel
theorem d_M_dot_42 : decode b_M_dot 42 = .ok (.istore 5, 2) := by decide +kernel
theorem d_M_dot_44 : decode b_M_dot 44 = .ok (.iload_n 1, 1) := by decide +kernel
theorem d_M_dot_45 : decode b_M_dot 45 = .ok (.ifCond .ne 65, 3) := by decide +kernel
theorem d_M_dot_48 : decode b_M_dot 48 = .ok (.aload_n 0, 1) := by decide +kernel
theorem d_M_dot_49 : decode b_M_dot 49 = .ok (.invokevirtual 185, 3) := by decide +kernel
theorem d_M_dot_52 : decode b_M_dot 52 = .ok (.iconst 0, 1) := by decide +kernel
theorem d_M_dot_53 : decode b_M_dot 53 = .ok (.istore 6, 2) := by decide +kernel
theorem d_M_dot_55 : decode b_M_dot 55 = .ok (.iload 6, 2) := by decide +kernel
theorem d_M_dot_57 : decode b_M_dot 57 = .ok (.iload 5, 2) := by decide +kernel
theorem d_M_dot_59 : decode b_M_dot 59 = .ok (.if_icmp .ge 43, 3) := by decide +kernel
theorem d_M_dot_62 : decode b_M_dot 62 = .ok (.aload_n 0, 1) := by decide +kernel
theorem d_M_dot_63 : decode b_M_dot 63 = .ok (.aload_n 0, 1) := by decide +kernel
theorem d_M_dot_64 : decode b_M_dot 64 = .ok (.getfield 19, 3) := by decide +kernel
theorem d_M_dot_67 : decode b_M_dot 67 = .ok (.iconst 0, 1) := by decide +kernel
theorem d_M_dot_68 : decode b_M_dot 68 = .ok (.iaload, 1) := by decide +kernel
theorem d_M_dot_69 : decode b_M_dot 69 = .ok (.aload_n 0, 1) := by decide +kernel
theorem d_M_dot_70 : decode b_M_dot 70 = .ok (.getfield 25, 3) := by decide +kernel
theorem d_M_dot_73 : decode b_M_dot 73 = .ok (.iload 6, 2) := by decide +kernel
theorem d_M_dot_75 : decode b_M_dot 75 = .ok (.laload, 1) := by decide +kernel
theorem d_M_dot_76 : decode b_M_dot 76 = .ok (.aload_n 0, 1) := by decide +kernel
theorem d_M_dot_77 : decode b_M_dot 77 = .ok (.getfield 19, 3) := by decide +kernel
theorem d_M_dot_80 : decode b_M_dot 80 = .ok (.iconst 1, 1) := by decide +kernel
theorem d_M_dot_81 : decode b_M_dot 81 = .ok (.iaload, 1) := by decide +kernel
theorem d_M_dot_82 : decode b_M_dot 82 = .ok (.aload_n 0, 1) := by decide +kernel
theorem d_M_dot_83 : decode b_M_dot 83 = .ok (.getfield 25, 3) := by decide +kernel
theorem d_M_dot_86 : decode b_M_dot 86 = .ok (.bipush 32, 2) := by decide +kernel
theorem d_M_dot_88 : decode b_M_dot 88 = .ok (.iload 6, 2) := by decide +kernel
theorem d_M_dot_90 : decode b_M_dot 90 = .ok (.iadd, 1) := by decide +kernel
theorem d_M_dot_91 : decode b_M_dot 91 = .ok (.laload, 1) := by decide +kernel
theorem d_M_dot_92 : decode b_M_dot 92 = .ok (.iconst 0, 1) := by decide +kernel
theorem d_M_dot_93 : decode b_M_dot 93 = .ok (.invokevirtual 195, 3) := by decide +kernel
theorem d_M_dot_96 : decode b_M_dot 96 = .ok (.iinc 6 1, 3) := by decide +kernel
theorem d_M_dot_99 : decode b_M_dot 99 = .ok (.goto (-44), 3) := by decide +kernel
theorem d_M_dot_102 : decode b_M_dot 102 = .ok (.aload_n 0, 1) := by decide +kernel
theorem d_M_dot_103 : decode b_M_dot 103 = .ok (.iload_n 3, 1) := by decide +kernel
theorem d_M_dot_104 : decode b_M_dot 104 = .ok (.iload 4, 2) := by decide +kernel
theorem d_M_dot_106 : decode b_M_dot 106 = .ok (.invokevirtual 192, 3) := by decide +kernel
theorem d_M_dot_109 : decode b_M_dot 109 = .ok (.lreturn, 1) := by decide +kernel
theorem d_M_dot_110 : decode b_M_dot 110 = .ok (.lconst 0, 1) := by decide +kernel
theorem d_M_dot_111 : decode b_M_dot 111 = .ok (.lstore 6, 2) := by decide +kernel
theorem d_M_dot_113 : decode b_M_dot 113 = .ok (.iconst 0, 1) := by decide +kernel
theorem d_M_dot_114 : decode b_M_dot 114 = .ok (.istore 8, 2) := by decide +kernel
theorem d_M_dot_116 : decode b_M_dot 116 = .ok (.iload 8, 2) := by decide +kernel
theorem d_M_dot_118 : decode b_M_dot 118 = .ok (.iload 5, 2) := by decide +kernel
theorem d_M_dot_120 : decode b_M_dot 120 = .ok (.if_icmp .ge 128, 3) := by decide +kernel
theorem d_M_dot_123 : decode b_M_dot 123 = .ok (.lconst 0, 1) := by decide +kernel
theorem d_M_dot_124 : decode b_M_dot 124 = .ok (.lstore 9, 2) := by decide +kernel
theorem d_M_dot_126 : decode b_M_dot 126 = .ok (.iload 8, 2) := by decide +kernel
theorem d_M_dot_128 : decode b_M_dot 128 = .ok (.istore 11, 2) := by decide +kernel
theorem d_M_dot_130 : decode b_M_dot 130 = .ok (.iload 11, 2) := by decide +kernel
theorem d_M_dot_132 : decode b_M_dot 132 = .ok (.iload 5, 2) := by decide +kernel
theorem d_M_dot_134 : decode b_M_dot 134 = .ok (.if_icmp .ge 74, 3) := by decide +kernel
theorem d_M_dot_137 : decode b_M_dot 137 = .ok (.iload 11, 2) := by decide +kernel
theorem d_M_dot_139 : decode b_M_dot 139 = .ok (.iload 8, 2) := by decide +kernel
theorem d_M_dot_141 : decode b_M_dot 141 = .ok (.iload_n 1, 1) := by decide +kernel
theorem d_M_dot_142 : decode b_M_dot 142 = .ok (.iadd, 1) := by decide +kernel
theorem d_M_dot_143 : decode b_M_dot 143 = .ok (.if_icmp .ge 65, 3) := by decide +kernel
theorem d_M_dot_146 : decode b_M_dot 146 = .ok (.aload_n 0, 1) := by decide +kernel
theorem d_M_dot_147 : decode b_M_dot 147 = .ok (.invokevirtual 185, 3) := by decide +kernel
theorem d_M_dot_150 : decode b_M_dot 150 = .ok (.aload_n 0, 1) := by decide +kernel
theorem d_M_dot_151 : decode b_M_dot 151 = .ok (.iload_n 2, 1) := by decide +kernel
theorem d_M_dot_152 : decode b_M_dot 152 = .ok (.lload 9, 2) := by decide +kernel
theorem d_M_dot_154 : decode b_M_dot 154 = .ok (.iconst 0, 1) := by decide +kernel
theorem d_M_dot_155 : decode b_M_dot 155 = .ok (.iconst 0, 1) := by decide +kernel
theorem d_M_dot_156 : decode b_M_dot 156 = .ok (.invokevirtual 188, 3) := by decide +kernel
theorem d_M_dot_159 : decode b_M_dot 159 = .ok (.aload_n 0, 1) := by decide +kernel
theorem d_M_dot_160 : decode b_M_dot 160 = .ok (.aload_n 0, 1) := by decide +kernel
theorem d_M_dot_161 : decode b_M_dot 161 = .ok (.getfield 19, 3) := by decide +kernel
theorem d_M_dot_164 : decode b_M_dot 164 = .ok (.iconst 0, 1) := by decide +kernel
theorem d_M_dot_165 : decode b_M_dot 165 = .ok (.iaload, 1) := by decide +kernel
theorem d_M_dot_166 : decode b_M_dot 166 = .ok (.aload_n 0, 1) := by decide +kernel
theorem d_M_dot_167 : decode b_M_dot 167 = .ok (.getfield 25, 3) := by decide +kernel
theorem d_M_dot_170 : decode b_M_dot 170 = .ok (.iload 11, 2) := by decide +kernel
theorem d_M_dot_172 : decode b_M_dot 172 = .ok (.laload, 1) := by decide +kernel
theorem d_M_dot_173 : decode b_M_dot 173 = .ok (.aload_n 0, 1) := by decide +kernel
theorem d_M_dot_174 : decode b_M_dot 174 = .ok (.getfield 19, 3) := by decide +kernel
theorem d_M_dot_177 : decode b_M_dot 177 = .ok (.iconst 1, 1) := by decide +kernel
theorem d_M_dot_178 : decode b_M_dot 178 = .ok (.iaload, 1) := by decide +kernel
theorem d_M_dot_179 : decode b_M_dot 179 = .ok (.aload_n 0, 1) := by decide +kernel
theorem d_M_dot_180 : decode b_M_dot 180 = .ok (.getfield 25, 3) := by decide +kernel
theorem d_M_dot_183 : decode b_M_dot 183 = .ok (.bipush 32, 2) := by decide +kernel
theorem d_M_dot_185 : decode b_M_dot 185 = .ok (.iload 11, 2) := by decide +kernel
theorem d_M_dot_187 : decode b_M_dot 187 = .ok (.iadd, 1) := by decide +kernel
theorem d_M_dot_188 : decode b_M_dot 188 = .ok (.laload, 1) := by decide +kernel
theorem d_M_dot_189 : decode b_M_dot 189 = .ok (.iconst 0, 1) := by decide +kernel
theorem d_M_dot_190 : decode b_M_dot 190 = .ok (.invokevirtual 195, 3) := by decide +kernel
theorem d_M_dot_193 : decode b_M_dot 193 = .ok (.aload_n 0, 1) := by decide +kernel
theorem d_M_dot_194 : decode b_M_dot 194 = .ok (.iload_n 2, 1) := by decide +kernel
theorem d_M_dot_195 : decode b_M_dot 195 = .ok (.iload 4, 2) := by decide +kernel
theorem d_M_dot_197 : decode b_M_dot 197 = .ok (.invokevirtual 192, 3) := by decide +kernel
theorem d_M_dot_200 : decode b_M_dot 200 = .ok (.lstore 9, 2) := by decide +kernel
theorem d_M_dot_202 : decode b_M_dot 202 = .ok (.iinc 11 1, 3) := by decide +kernel
theorem d_M_dot_205 : decode b_M_dot 205 = .ok (.goto (-75), 3) := by decide +kernel
theorem d_M_dot_208 : decode b_M_dot 208 = .ok (.aload_n 0, 1) := by decide +kernel
theorem d_M_dot_209 : decode b_M_dot 209 = .ok (.invokevirtual 185, 3) := by decide +kernel
theorem d_M_dot_212 : decode b_M_dot 212 = .ok (.aload_n 0, 1) := by decide +kernel
theorem d_M_dot_213 : decode b_M_dot 213 = .ok (.iload_n 3, 1) := by decide +kernel
theorem d_M_dot_214 : decode b_M_dot 214 = .ok (.lload 6, 2) := by decide +kernel
theorem d_M_dot_216 : decode b_M_dot 216 = .ok (.iconst 0, 1) := by decide +kernel
theorem d_M_dot_217 : decode b_M_dot 217 = .ok (.iconst 0, 1) := by decide +kernel
theorem d_M_dot_218 : decode b_M_dot 218 = .ok (.invokevirtual 188, 3) := by decide +kernel
theorem d_M_dot_221 : decode b_M_dot 221 = .ok (.aload_n 0, 1) := by decide +kernel
theorem d_M_dot_222 : decode b_M_dot 222 = .ok (.iload_n 2, 1) := by decide +kernel
theorem d_M_dot_223 : decode b_M_dot 223 = .ok (.lload 9, 2) := by decide +kernel
theorem d_M_dot_225 : decode b_M_dot 225 = .ok (.iconst 0, 1) := by decide +kernel
theorem d_M_dot_226 : decode b_M_dot 226 = .ok (.iconst 0, 1) := by decide +kernel
theorem d_M_dot_227 : decode b_M_dot 227 = .ok (.invokevirtual 188, 3) := by decide +kernel
theorem d_M_dot_230 : decode b_M_dot 230 = .ok (.aload_n 0, 1) := by decide +kernel
theorem d_M_dot_231 : decode b_M_dot 231 = .ok (.iload_n 3, 1) := by decide +kernel
theorem d_M_dot_232 : decode b_M_dot 232 = .ok (.iload 4, 2) := by decide +kernel
theorem d_M_dot_234 : decode b_M_dot 234 = .ok (.invokevirtual 192, 3) := by decide +kernel
theorem d_M_dot_237 : decode b_M_dot 237 = .ok (.lstore 6, 2) := by decide +kernel
theorem d_M_dot_239 : decode b_M_dot 239 = .ok (.iload 8, 2) := by decide +kernel
theorem d_M_dot_241 : decode b_M_dot 241 = .ok (.iload_n 1, 1) := by decide +kernel
theorem d_M_dot_242 : decode b_M_dot 242 = .ok (.iadd, 1) := by decide +kernel
theorem d_M_dot_243 : decode b_M_dot 243 = .ok (.istore 8, 2) := by decide +kernel
theorem d_M_dot_245 : decode b_M_dot 245 = .ok (.goto (-129), 3) := by decide +kernel
theorem d_M_dot_248 : decode b_M_dot 248 = .ok (.lload 6, 2) := by decide +kernel
theorem d_M_dot_250 : decode b_M_dot 250 = .ok (.lreturn, 1) := by decide +kernel
theorem d_M_powerBelow_0 : decode b_M_powerBelow 0 = .ok (.aload_n 0, 1) := by decide +kernel
theorem d_M_powerBelow_1 : decode b_M_powerBelow 1 = .ok (.iload_n 1, 1) := by decide +kernel
theorem d_M_powerBelow_2 : decode b_M_powerBelow 2 = .ok (.lload_n 2, 1) := by decide +kernel
theorem d_M_powerBelow_3 : decode b_M_powerBelow 3 = .ok (.invokevirtual 102, 3) := by decide +kernel
theorem d_M_powerBelow_6 : decode b_M_powerBelow 6 = .ok (.lstore 4, 2) := by decide +kernel
theorem d_M_powerBelow_8 : decode b_M_powerBelow 8 = .ok (.aload_n 0, 1) := by decide +kernel
theorem d_M_powerBelow_9 : decode b_M_powerBelow 9 = .ok (.iload_n 1, 1) := by decide +kernel
theorem d_M_powerBelow_10 : decode b_M_powerBelow 10 = .ok (.lload_n 2, 1) := by decide +kernel
theorem d_M_powerBelow_11 : decode b_M_powerBelow 11 = .ok (.invokevirtual 106, 3) := by decide +kernel
theorem d_M_powerBelow_14 : decode b_M_powerBelow 14 = .ok (.istore 6, 2) := by decide +kernel
theorem d_M_powerBelow_16 : decode b_M_powerBelow 16 = .ok (.lload 4, 2) := by decide +kernel
theorem d_M_powerBelow_18 : decode b_M_powerBelow 18 = .ok (.lconst 1, 1) := by decide +kernel
theorem d_M_powerBelow_19 : decode b_M_powerBelow 19 = .ok (.lcmp, 1) := by decide +kernel
theorem d_M_powerBelow_20 : decode b_M_powerBelow 20 = .ok (.ifCond .le 15, 3) := by decide +kernel
theorem d_M_powerBelow_23 : decode b_M_powerBelow 23 = .ok (.lload 4, 2) := by decide +kernel
theorem d_M_powerBelow_25 : decode b_M_powerBelow 25 = .ok (.iconst 1, 1) := by decide +kernel
theorem d_M_powerBelow_26 : decode b_M_powerBelow 26 = .ok (.lshr, 1) := by decide +kernel
theorem d_M_powerBelow_27 : decode b_M_powerBelow 27 = .ok (.lstore 4, 2) := by decide +kernel
theorem d_M_powerBelow_29 : decode b_M_powerBelow 29 = .ok (.iinc 6 1, 3) := by decide +kernel
theorem d_M_powerBelow_32 : decode b_M_powerBelow 32 = .ok (.goto (-16), 3) := by decide +kernel
theorem d_M_powerBelow_35 : decode b_M_powerBelow 35 = .ok (.iload 6, 2) := by decide +kernel
theorem d_M_powerBelow_37 : decode b_M_powerBelow 37 = .ok (.ireturn, 1) := by decide +kernel
theorem d_M_scaleOf_0 : decode b_M_scaleOf 0 = .ok (.iconst 0, 1) := by decide +kernel
theorem d_M_scaleOf_1 : decode b_M_scaleOf 1 = .ok (.istore_n 2, 1) := by decide +kernel
theorem d_M_scaleOf_2 : decode b_M_scaleOf 2 = .ok (.iconst 0, 1) := by decide +kernel
theorem d_M_scaleOf_3 : decode b_M_scaleOf 3 = .ok (.istore_n 3, 1) := by decide +kernel
theorem d_M_scaleOf_4 : decode b_M_scaleOf 4 = .ok (.iconst 0, 1) := by decide +kernel
theorem d_M_scaleOf_5 : decode b_M_scaleOf 5 = .ok (.istore 4, 2) := by decide +kernel
theorem d_M_scaleOf_7 : decode b_M_scaleOf 7 = .ok (.iload 4, 2) := by decide +kernel
theorem d_M_scaleOf_9 : decode b_M_scaleOf 9 = .ok (.aload_n 0, 1) := by decide +kernel
theorem d_M_scaleOf_10 : decode b_M_scaleOf 10 = .ok (.getfield 22, 3) := by decide +kernel
theorem d_M_scaleOf_13 : decode b_M_scaleOf 13 = .ok (.iconst 0, 1) := by decide +kernel
theorem d_M_scaleOf_14 : decode b_M_scaleOf 14 = .ok (.iaload, 1) := by decide +kernel
theorem d_M_scaleOf_15 : decode b_M_scaleOf 15 = .ok (.if_icmp .ge 78, 3) := by decide +kernel
theorem d_M_scaleOf_18 : decode b_M_scaleOf 18 = .ok (.aload_n 0, 1) := by decide +kernel
theorem d_M_scaleOf_19 : decode b_M_scaleOf 19 = .ok (.aload_n 0, 1) := by decide +kernel
theorem d_M_scaleOf_20 : decode b_M_scaleOf 20 = .ok (.getfield 19, 3) := by decide +kernel
theorem d_M_scaleOf_23 : decode b_M_scaleOf 23 = .ok (.iconst 0, 1) := by decide +kernel
theorem d_M_scaleOf_24 : decode b_M_scaleOf 24 = .ok (.iaload, 1) := by decide +kernel
theorem d_M_scaleOf_25 : decode b_M_scaleOf 25 = .ok (.aload_n 0, 1) := by decide +kernel
theorem d_M_scaleOf_26 : decode b_M_scaleOf 26 = .ok (.getfield 25, 3) := by decide +kernel
theorem d_M_scaleOf_29 : decode b_M_scaleOf 29 = .ok (.iload 4, 2) := by decide +kernel
theorem d_M_scaleOf_31 : decode b_M_scaleOf 31 = .ok (.laload, 1) := by decide +kernel
theorem d_M_scaleOf_32 : decode b_M_scaleOf 32 = .ok (.invokevirtual 85, 3) := by decide +kernel
theorem d_M_scaleOf_35 : decode b_M_scaleOf 35 = .ok (.istore 5, 2) := by decide +kernel
theorem d_M_scaleOf_37 : decode b_M_scaleOf 37 = .ok (.iload 5, 2) := by decide +kernel
theorem d_M_scaleOf_39 : decode b_M_scaleOf 39 = .ok (.iconst 1, 1) := by decide +kernel
theorem d_M_scaleOf_40 : decode b_M_scaleOf 40 = .ok (.if_icmp .eq 9, 3) := by decide +kernel
theorem d_M_scaleOf_43 : decode b_M_scaleOf 43 = .ok (.iload 5, 2) := by decide +kernel
theorem d_M_scaleOf_45 : decode b_M_scaleOf 45 = .ok (.iconst 2, 1) := by decide +kernel
theorem d_M_scaleOf_46 : decode b_M_scaleOf 46 = .ok (.if_icmp .ne 41, 3) := by decide +kernel
theorem d_M_scaleOf_49 : decode b_M_scaleOf 49 = .ok (.aload_n 0, 1) := by decide +kernel
theorem d_M_scaleOf_50 : decode b_M_scaleOf 50 = .ok (.aload_n 0, 1) := by decide +kernel
theorem d_M_scaleOf_51 : decode b_M_scaleOf 51 = .ok (.getfield 19, 3) := by decide +kernel
theorem d_M_scaleOf_54 : decode b_M_scaleOf 54 = .ok (.iconst 0, 1) := by decide +kernel
theorem d_M_scaleOf_55 : decode b_M_scaleOf 55 = .ok (.iaload, 1) := by decide +kernel
theorem d_M_scaleOf_56 : decode b_M_scaleOf 56 = .ok (.aload_n 0, 1) := by decide +kernel
theorem d_M_scaleOf_57 : decode b_M_scaleOf 57 = .ok (.getfield 25, 3) := by decide +kernel
theorem d_M_scaleOf_60 : decode b_M_scaleOf 60 = .ok (.iload 4, 2) := by decide +kernel
theorem d_M_scaleOf_62 : decode b_M_scaleOf 62 = .ok (.laload, 1) := by decide +kernel
theorem d_M_scaleOf_63 : decode b_M_scaleOf 63 = .ok (.invokevirtual 212, 3) := by decide +kernel
theorem d_M_scaleOf_66 : decode b_M_scaleOf 66 = .ok (.istore 6, 2) := by decide +kernel
theorem d_M_scaleOf_68 : decode b_M_scaleOf 68 = .ok (.iload_n 2, 1) := by decide +kernel
theorem d_M_scaleOf_69 : decode b_M_scaleOf 69 = .ok (.ifCond .eq 9, 3) := by decide +kernel
theorem d_M_scaleOf_72 : decode b_M_scaleOf 72 = .ok (.iload 6, 2) := by decide +kernel
theorem d_M_scaleOf_74 : decode b_M_scaleOf 74 = .ok (.iload_n 3, 1) := by decide +kernel
theorem d_M_scaleOf_75 : decode b_M_scaleOf 75 = .ok (.if_icmp .le 8, 3) := by decide +kernel
theorem d_M_scaleOf_78 : decode b_M_scaleOf 78 = .ok (.iload 6, 2) := by decide +kernel
theorem d_M_scaleOf_80 : decode b_M_scaleOf 80 = .ok (.goto 4, 3) := by decide +kernel
theorem d_M_scaleOf_83 : decode b_M_scaleOf 83 = .ok (.iload_n 3, 1) := by decide +kernel
theorem d_M_scaleOf_84 : decode b_M_scaleOf 84 = .ok (.istore_n 3, 1) := by decide +kernel
theorem d_M_scaleOf_85 : decode b_M_scaleOf 85 = .ok (.iconst 1, 1) := by decide +kernel
theorem d_M_scaleOf_86 : decode b_M_scaleOf 86 = .ok (.istore_n 2, 1) := by decide +kernel
theorem d_M_scaleOf_87 : decode b_M_scaleOf 87 = .ok (.iinc 4 1, 3) := by decide +kernel
theorem d_M_scaleOf_90 : decode b_M_scaleOf 90 = .ok (.goto (-83), 3) := by decide +kernel
theorem d_M_scaleOf_93 : decode b_M_scaleOf 93 = .ok (.iload_n 2, 1) := by decide +kernel
theorem d_M_scaleOf_94 : decode b_M_scaleOf 94 = .ok (.ifCond .eq 20, 3) := by decide +kernel
theorem d_M_scaleOf_97 : decode b_M_scaleOf 97 = .ok (.iload_n 3, 1) := by decide +kernel
theorem d_M_scaleOf_98 : decode b_M_scaleOf 98 = .ok (.aload_n 0, 1) := by decide +kernel
theorem d_M_scaleOf_99 : decode b_M_scaleOf 99 = .ok (.iload_n 1, 1) := by decide +kernel
theorem d_M_scaleOf_100 : decode b_M_scaleOf 100 = .ok (.aload_n 0, 1) := by decide +kernel
theorem d_M_scaleOf_101 : decode b_M_scaleOf 101 = .ok (.iload_n 1, 1) := by decide +kernel
theorem d_M_scaleOf_102 : decode b_M_scaleOf 102 = .ok (.invokevirtual 69, 3) := by decide +kernel
theorem d_M_scaleOf_105 : decode b_M_scaleOf 105 = .ok (.lconst 1, 1) := by decide +kernel
theorem d_M_scaleOf_106 : decode b_M_scaleOf 106 = .ok (.lsub, 1) := by decide +kernel
theorem d_M_scaleOf_107 : decode b_M_scaleOf 107 = .ok (.invokevirtual 212, 3) := by decide +kernel
theorem d_M_scaleOf_110 : decode b_M_scaleOf 110 = .ok (.isub, 1) := by decide +kernel
theorem d_M_scaleOf_111 : decode b_M_scaleOf 111 = .ok (.goto 4, 3) := by decide +kernel
theorem d_M_scaleOf_114 : decode b_M_scaleOf 114 = .ok (.iconst 0, 1) := by decide +kernel
theorem d_M_scaleOf_115 : decode b_M_scaleOf 115 = .ok (.ireturn, 1) := by decide +kernel
theorem d_M_scale_0 : decode b_M_scale 0 = .ok (.iload_n 1, 1) := by decide +kernel
theorem d_M_scale_1 : decode b_M_scale 1 = .ok (.invokestatic 55, 3) := by decide +kernel
theorem d_M_scale_4 : decode b_M_scale 4 = .ok (.ifCond .eq 11, 3) := by decide +kernel
theorem d_M_scale_7 : decode b_M_scale 7 = .ok (.aload_n 0, 1) := by decide +kernel
theorem d_M_scale_8 : decode b_M_scale 8 = .ok (.iload_n 1, 1) := by decide +kernel
theorem d_M_scale_9 : decode b_M_scale 9 = .ok (.invokevirtual 215, 3) := by decide +kernel
theorem d_M_scale_12 : decode b_M_scale 12 = .ok (.goto 5, 3) := by decide +kernel
theorem d_M_scale_15 : decode b_M_scale 15 = .ok (.ldc 97, 2) := by decide +kernel
theorem d_M_scale_17 : decode b_M_scale 17 = .ok (.ireturn, 1) := by decide +kernel
theorem d_M_element_0 : decode b_M_element 0 = .ok (.iload_n 1, 1) := by decide +kernel
theorem d_M_element_1 : decode b_M_element 1 = .ok (.invokestatic 55, 3) := by decide +kernel
theorem d_M_element_4 : decode b_M_element 4 = .ok (.ifCond .eq 21, 3) := by decide +kernel
theorem d_M_element_7 : decode b_M_element 7 = .ok (.iload_n 2, 1) := by decide +kernel
theorem d_M_element_8 : decode b_M_element 8 = .ok (.i2l, 1) := by decide +kernel
theorem d_M_element_9 : decode b_M_element 9 = .ok (.lconst 0, 1) := by decide +kernel
theorem d_M_element_10 : decode b_M_element 10 = .ok (.aload_n 0, 1) := by decide +kernel
theorem d_M_element_11 : decode b_M_element 11 = .ok (.getfield 22, 3) := by decide +kernel
theorem d_M_element_14 : decode b_M_element 14 = .ok (.iconst 0, 1) := by decide +kernel
theorem d_M_element_15 : decode b_M_element 15 = .ok (.iaload, 1) := by decide +kernel
theorem d_M_element_16 : decode b_M_element 16 = .ok (.iconst 1, 1) := by decide +kernel
theorem d_M_element_17 : decode b_M_element 17 = .ok (.isub, 1) := by decide +kernel
theorem d_M_element_18 : decode b_M_element 18 = .ok (.i2l, 1) := by decide +kernel
theorem d_M_element_19 : decode b_M_element 19 = .ok (.invokestatic 49, 3) := by decide +kernel
theorem d_M_element_22 : decode b_M_element 22 = .ok (.ifCond .ne 7, 3) := by decide +kernel
theorem d_M_element_25 : decode b_M_element 25 = .ok (.ldc2_w 179, 3) := by decide +kernel
theorem d_M_element_28 : decode b_M_element 28 = .ok (.lreturn, 1) := by decide +kernel
theorem d_M_element_29 : decode b_M_element 29 = .ok (.aload_n 0, 1) := by decide +kernel
theorem d_M_element_30 : decode b_M_element 30 = .ok (.iload_n 1, 1) := by decide +kernel
theorem d_M_element_31 : decode b_M_element 31 = .ok (.invokevirtual 215, 3) := by decide +kernel
theorem d_M_element_34 : decode b_M_element 34 = .ok (.ineg, 1) := by decide +kernel
theorem d_M_element_35 : decode b_M_element 35 = .ok (.istore_n 3, 1) := by decide +kernel
theorem d_M_element_36 : decode b_M_element 36 = .ok (.aload_n 0, 1) := by decide +kernel
theorem d_M_element_37 : decode b_M_element 37 = .ok (.invokevirtual 185, 3) := by decide +kernel
theorem d_M_element_40 : decode b_M_element 40 = .ok (.aload_n 0, 1) := by decide +kernel
theorem d_M_element_41 : decode b_M_element 41 = .ok (.aload_n 0, 1) := by decide +kernel
theorem d_M_element_42 : decode b_M_element 42 = .ok (.getfield 19, 3) := by decide +kernel
theorem d_M_element_45 : decode b_M_element 45 = .ok (.iconst 0, 1) := by decide +kernel
theorem d_M_element_46 : decode b_M_element 46 = .ok (.iaload, 1) := by decide +kernel
theorem d_M_element_47 : decode b_M_element 47 = .ok (.aload_n 0, 1) := by decide +kernel
theorem d_M_element_48 : decode b_M_element 48 = .ok (.getfield 25, 3) := by decide +kernel
theorem d_M_element_51 : decode b_M_element 51 = .ok (.iload_n 2, 1) := by decide +kernel
theorem d_M_element_52 : decode b_M_element 52 = .ok (.laload, 1) := by decide +kernel
theorem d_M_element_53 : decode b_M_element 53 = .ok (.iconst 0, 1) := by decide +kernel
theorem d_M_element_54 : decode b_M_element 54 = .ok (.iload_n 3, 1) := by decide +kernel
theorem d_M_element_55 : decode b_M_element 55 = .ok (.invokevirtual 188, 3) := by decide +kernel
theorem d_M_element_58 : decode b_M_element 58 = .ok (.aload_n 0, 1) := by decide +kernel
theorem d_M_element_59 : decode b_M_element 59 = .ok (.iload_n 1, 1) := by decide +kernel
theorem d_M_element_60 : decode b_M_element 60 = .ok (.iconst 0, 1) := by decide +kernel
theorem d_M_element_61 : decode b_M_element 61 = .ok (.invokevirtual 192, 3) := by decide +kernel
theorem d_M_element_64 : decode b_M_element 64 = .ok (.lreturn, 1) := by decide +kernel
theorem d_M_scaler_0 : decode b_M_scaler 0 = .ok (.iload_n 1, 1) := by decide +kernel
theorem d_M_scaler_1 : decode b_M_scaler 1 = .ok (.i2l, 1) := by decide +kernel
theorem d_M_scaler_2 : decode b_M_scaler 2 = .ok (.ldc2_w 218, 3) := by decide +kernel
theorem d_M_scaler_5 : decode b_M_scaler 5 = .ok (.ldc2_w 220, 3) := by decide +kernel
theorem d_M_scaler_8 : decode b_M_scaler 8 = .ok (.invokestatic 49, 3) := by decide +kernel
theorem d_M_scaler_11 : decode b_M_scaler 11 = .ok (.ifCond .eq 15, 3) := by decide +kernel
theorem d_M_scaler_14 : decode b_M_scaler 14 = .ok (.iload_n 2, 1) := by decide +kernel
theorem d_M_scaler_15 : decode b_M_scaler 15 = .ok (.i2l, 1) := by decide +kernel
theorem d_M_scaler_16 : decode b_M_scaler 16 = .ok (.lconst 1, 1) := by decide +kernel
theorem d_M_scaler_17 : decode b_M_scaler 17 = .ok (.ldc2_w 222, 3) := by decide +kernel
theorem d_M_scaler_20 : decode b_M_scaler 20 = .ok (.invokestatic 49, 3) := by decide +kernel
theorem d_M_scaler_23 : decode b_M_scaler 23 = .ok (.ifCond .ne 6, 3) := by decide +kernel
theorem d_M_scaler_26 : decode b_M_scaler 26 = .ok (.bipush (-2), 2) := by decide +kernel
theorem d_M_scaler_28 : decode b_M_scaler 28 = .ok (.ireturn, 1) := by decide +kernel
theorem d_M_scaler_29 : decode b_M_scaler 29 = .ok (.aload_n 0, 1) := by decide +kernel
theorem d_M_scaler_30 : decode b_M_scaler 30 = .ok (.iload_n 1, 1) := by decide +kernel
theorem d_M_scaler_31 : decode b_M_scaler 31 = .ok (.putfield 201, 3) := by decide +kernel
theorem d_M_scaler_34 : decode b_M_scaler 34 = .ok (.aload_n 0, 1) := by decide +kernel
theorem d_M_scaler_35 : decode b_M_scaler 35 = .ok (.iload_n 2, 1) := by decide +kernel
theorem d_M_scaler_36 : decode b_M_scaler 36 = .ok (.putfield 43, 3) := by decide +kernel
theorem d_M_scaler_39 : decode b_M_scaler 39 = .ok (.aload_n 0, 1) := by decide +kernel
theorem d_M_scaler_40 : decode b_M_scaler 40 = .ok (.iconst 0, 1) := by decide +kernel
theorem d_M_scaler_41 : decode b_M_scaler 41 = .ok (.putfield 204, 3) := by decide +kernel
theorem d_M_scaler_44 : decode b_M_scaler 44 = .ok (.iconst 1, 1) := by decide +kernel
theorem d_M_scaler_45 : decode b_M_scaler 45 = .ok (.ireturn, 1) := by decide +kernel
theorem d_M_step_0 : decode b_M_step 0 = .ok (.aload_n 0, 1) := by decide +kernel
theorem d_M_step_1 : decode b_M_step 1 = .ok (.getfield 19, 3) := by decide +kernel
theorem d_M_step_4 : decode b_M_step 4 = .ok (.iconst 1, 1) := by decide +kernel
theorem d_M_step_5 : decode b_M_step 5 = .ok (.iaload, 1) := by decide +kernel
theorem d_M_step_6 : decode b_M_step 6 = .ok (.istore_n 2, 1) := by decide +kernel
theorem d_M_step_7 : decode b_M_step 7 = .ok (.aload_n 0, 1) := by decide +kernel
theorem d_M_step_8 : decode b_M_step 8 = .ok (.iload_n 2, 1) := by decide +kernel
theorem d_M_step_9 : decode b_M_step 9 = .ok (.iload_n 1, 1) := by decide +kernel
theorem d_M_step_10 : decode b_M_step 10 = .ok (.invokevirtual 93, 3) := by decide +kernel
theorem d_M_step_13 : decode b_M_step 13 = .ok (.ifCond .ne 6, 3) := by decide +kernel
theorem d_M_step_16 : decode b_M_step 16 = .ok (.bipush (-2), 2) := by decide +kernel
theorem d_M_step_18 : decode b_M_step 18 = .ok (.ireturn, 1) := by decide +kernel
theorem d_M_step_19 : decode b_M_step 19 = .ok (.iconst 0, 1) := by decide +kernel
theorem d_M_step_20 : decode b_M_step 20 = .ok (.istore_n 3, 1) := by decide +kernel
theorem d_M_step_21 : decode b_M_step 21 = .ok (.iload_n 3, 1) := by decide +kernel
theorem d_M_step_22 : decode b_M_step 22 = .ok (.aload_n 0, 1) := by decide +kernel
theorem d_M_step_23 : decode b_M_step 23 = .ok (.getfield 22, 3) := by decide +kernel
theorem d_M_step_26 : decode b_M_step 26 = .ok (.iconst 0, 1) := by decide +kernel
theorem d_M_step_27 : decode b_M_step 27 = .ok (.iaload, 1) := by decide +kernel
theorem d_M_step_28 : decode b_M_step 28 = .ok (.if_icmp .ge 59, 3) := by decide +kernel
theorem d_M_step_31 : decode b_M_step 31 = .ok (.aload_n 0, 1) := by decide +kernel
theorem d_M_step_32 : decode b_M_step 32 = .ok (.aload_n 0, 1) := by decide +kernel
theorem d_M_step_33 : decode b_M_step 33 = .ok (.getfield 19, 3) := by decide +kernel
theorem d_M_step_36 : decode b_M_step 36 = .ok (.iconst 0, 1) := by decide +kernel
theorem d_M_step_37 : decode b_M_step 37 = .ok (.iaload, 1) := by decide +kernel
theorem d_M_step_38 : decode b_M_step 38 = .ok (.aload_n 0, 1) := by decide +kernel
theorem d_M_step_39 : decode b_M_step 39 = .ok (.getfield 25, 3) := by decide +kernel
theorem d_M_step_42 : decode b_M_step 42 = .ok (.iload_n 3, 1) := by decide +kernel
theorem d_M_step_43 : decode b_M_step 43 = .ok (.laload, 1) := by decide +kernel
theorem d_M_step_44 : decode b_M_step 44 = .ok (.invokevirtual 85, 3) := by decide +kernel
theorem d_M_step_47 : decode b_M_step 47 = .ok (.iconst 2, 1) := by decide +kernel
theorem d_M_step_48 : decode b_M_step 48 = .ok (.if_icmp .le 33, 3) := by decide +kernel
theorem d_M_step_51 : decode b_M_step 51 = .ok (.aload_n 0, 1) := by decide +kernel
theorem d_M_step_52 : decode b_M_step 52 = .ok (.dup, 1) := by decide +kernel
theorem d_M_step_53 : decode b_M_step 53 = .ok (.getfield 201, 3) := by decide +kernel
theorem d_M_step_56 : decode b_M_step 56 = .ok (.aload_n 0, 1) := by decide +kernel
theorem d_M_step_57 : decode b_M_step 57 = .ok (.getfield 201, 3) := by decide +kernel
theorem d_M_step_60 : decode b_M_step 60 = .ok (.bipush (-60), 2) := by decide +kernel
theorem d_M_step_62 : decode b_M_step 62 = .ok (.if_icmp .le 7, 3) := by decide +kernel
theorem d_M_step_65 : decode b_M_step 65 = .ok (.iconst 1, 1) := by decide +kernel
theorem d_M_step_66 : decode b_M_step 66 = .ok (.goto 4, 3) := by decide +kernel
theorem d_M_step_69 : decode b_M_step 69 = .ok (.iconst 0, 1) := by decide +kernel
theorem d_M_step_70 : decode b_M_step 70 = .ok (.isub, 1) := by decide +kernel
theorem d_M_step_71 : decode b_M_step 71 = .ok (.putfield 201, 3) := by decide +kernel
theorem d_M_step_74 : decode b_M_step 74 = .ok (.aload_n 0, 1) := by decide +kernel
theorem d_M_step_75 : decode b_M_step 75 = .ok (.iconst 0, 1) := by decide +kernel
theorem d_M_step_76 : decode b_M_step 76 = .ok (.putfield 204, 3) := by decide +kernel
theorem d_M_step_79 : decode b_M_step 79 = .ok (.iconst 0, 1) := by decide +kernel
theorem d_M_step_80 : decode b_M_step 80 = .ok (.ireturn, 1) := by decide +kernel
theorem d_M_step_81 : decode b_M_step 81 = .ok (.iinc 3 1, 3) := by decide +kernel
theorem d_M_step_84 : decode b_M_step 84 = .ok (.goto (-63), 3) := by decide +kernel
theorem d_M_step_87 : decode b_M_step 87 = .ok (.iconst 0, 1) := by decide +kernel
theorem d_M_step_88 : decode b_M_step 88 = .ok (.istore_n 3, 1) := by decide +kernel
theorem d_M_step_89 : decode b_M_step 89 = .ok (.iload_n 3, 1) := by decide +kernel
theorem d_M_step_90 : decode b_M_step 90 = .ok (.aload_n 0, 1) := by decide +kernel
theorem d_M_step_91 : decode b_M_step 91 = .ok (.invokevirtual 209, 3) := by decide +kernel
theorem d_M_step_94 : decode b_M_step 94 = .ok (.if_icmp .ge 114, 3) := by decide +kernel
theorem d_M_step_97 : decode b_M_step 97 = .ok (.aload_n 0, 1) := by decide +kernel
theorem d_M_step_98 : decode b_M_step 98 = .ok (.invokevirtual 185, 3) := by decide +kernel
theorem d_M_step_101 : decode b_M_step 101 = .ok (.aload_n 0, 1) := by decide +kernel
theorem d_M_step_102 : decode b_M_step 102 = .ok (.aload_n 0, 1) := by decide +kernel
theorem d_M_step_103 : decode b_M_step 103 = .ok (.getfield 19, 3) := by decide +kernel
theorem d_M_step_106 : decode b_M_step 106 = .ok (.iconst 0, 1) := by decide +kernel
theorem d_M_step_107 : decode b_M_step 107 = .ok (.iaload, 1) := by decide +kernel
theorem d_M_step_108 : decode b_M_step 108 = .ok (.aload_n 0, 1) := by decide +kernel
theorem d_M_step_109 : decode b_M_step 109 = .ok (.getfield 25, 3) := by decide +kernel
theorem d_M_step_112 : decode b_M_step 112 = .ok (.iload_n 3, 1) := by decide +kernel
theorem d_M_step_113 : decode b_M_step 113 = .ok (.laload, 1) := by decide +kernel
theorem d_M_step_114 : decode b_M_step 114 = .ok (.iconst 0, 1) := by decide +kernel
theorem d_M_step_115 : decode b_M_step 115 = .ok (.aload_n 0, 1) := by decide +kernel
theorem d_M_step_116 : decode b_M_step 116 = .ok (.getfield 201, 3) := by decide +kernel
theorem d_M_step_119 : decode b_M_step 119 = .ok (.ineg, 1) := by decide +kernel
theorem d_M_step_120 : decode b_M_step 120 = .ok (.invokevirtual 188, 3) := by decide +kernel
theorem d_M_step_123 : decode b_M_step 123 = .ok (.aload_n 0, 1) := by decide +kernel
theorem d_M_step_124 : decode b_M_step 124 = .ok (.iload_n 2, 1) := by decide +kernel
theorem d_M_step_125 : decode b_M_step 125 = .ok (.iconst 0, 1) := by decide +kernel
theorem d_M_step_126 : decode b_M_step 126 = .ok (.invokevirtual 192, 3) := by decide +kernel
theorem d_M_step_129 : decode b_M_step 129 = .ok (.lstore 4, 2) := by decide +kernel
theorem d_M_step_131 : decode b_M_step 131 = .ok (.aload_n 0, 1) := by decide +kernel
theorem d_M_step_132 : decode b_M_step 132 = .ok (.invokevirtual 185, 3) := by decide +kernel
theorem d_M_step_135 : decode b_M_step 135 = .ok (.aload_n 0, 1) := by decide +kernel
theorem d_M_step_136 : decode b_M_step 136 = .ok (.iload_n 2, 1) := by decide +kernel
theorem d_M_step_137 : decode b_M_step 137 = .ok (.aload_n 0, 1) := by decide +kernel
theorem d_M_step_138 : decode b_M_step 138 = .ok (.iload_n 2, 1) := by decide +kernel
theorem d_M_step_139 : decode b_M_step 139 = .ok (.iload_n 1, 1) := by decide +kernel
theorem d_M_step_140 : decode b_M_step 140 = .ok (.invokevirtual 81, 3) := by decide +kernel
theorem d_M_step_143 : decode b_M_step 143 = .ok (.iload_n 2, 1) := by decide +kernel
theorem d_M_step_144 : decode b_M_step 144 = .ok (.lload 4, 2) := by decide +kernel
theorem d_M_step_146 : decode b_M_step 146 = .ok (.iconst 1, 1) := by decide +kernel
theorem d_M_step_147 : decode b_M_step 147 = .ok (.invokevirtual 195, 3) := by decide +kernel
theorem d_M_step_150 : decode b_M_step 150 = .ok (.aload_n 0, 1) := by decide +kernel
theorem d_M_step_151 : decode b_M_step 151 = .ok (.iload_n 2, 1) := by decide +kernel
theorem d_M_step_152 : decode b_M_step 152 = .ok (.iconst 0, 1) := by decide +kernel
theorem d_M_step_153 : decode b_M_step 153 = .ok (.invokevirtual 192, 3) := by decide +kernel
theorem d_M_step_156 : decode b_M_step 156 = .ok (.lstore 6, 2) := by decide +kernel
theorem d_M_step_158 : decode b_M_step 158 = .ok (.aload_n 0, 1) := by decide +kernel
theorem d_M_step_159 : decode b_M_step 159 = .ok (.invokevirtual 185, 3) := by decide +kernel
theorem d_M_step_162 : decode b_M_step 162 = .ok (.aload_n 0, 1) := by decide +kernel
theorem d_M_step_163 : decode b_M_step 163 = .ok (.iload_n 2, 1) := by decide +kernel
theorem d_M_step_164 : decode b_M_step 164 = .ok (.aload_n 0, 1) := by decide +kernel
theorem d_M_step_165 : decode b_M_step 165 = .ok (.getfield 25, 3) := by decide +kernel
theorem d_M_step_168 : decode b_M_step 168 = .ok (.bipush 32, 2) := by decide +kernel
theorem d_M_step_170 : decode b_M_step 170 = .ok (.iload_n 3, 1) := by decide +kernel
theorem d_M_step_171 : decode b_M_step 171 = .ok (.iadd, 1) := by decide +kernel
theorem d_M_step_172 : decode b_M_step 172 = .ok (.laload, 1) := by decide +kernel
theorem d_M_step_173 : decode b_M_step 173 = .ok (.iconst 0, 1) := by decide +kernel
theorem d_M_step_174 : decode b_M_step 174 = .ok (.iconst 0, 1) := by decide +kernel
theorem d_M_step_175 : decode b_M_step 175 = .ok (.invokevirtual 188, 3) := by decide +kernel
theorem d_M_step_178 : decode b_M_step 178 = .ok (.aload_n 0, 1) := by decide +kernel
theorem d_M_step_179 : decode b_M_step 179 = .ok (.iload_n 2, 1) := by decide +kernel
theorem d_M_step_180 : decode b_M_step 180 = .ok (.lload 6, 2) := by decide +kernel
theorem d_M_step_182 : decode b_M_step 182 = .ok (.iconst 0, 1) := by decide +kernel
theorem d_M_step_183 : decode b_M_step 183 = .ok (.iconst 0, 1) := by decide +kernel
theorem d_M_step_184 : decode b_M_step 184 = .ok (.invokevirtual 188, 3) := by decide +kernel
theorem d_M_step_187 : decode b_M_step 187 = .ok (.aload_n 0, 1) := by decide +kernel
theorem d_M_step_188 : decode b_M_step 188 = .ok (.getfield 25, 3) := by decide +kernel
theorem d_M_step_191 : decode b_M_step 191 = .ok (.bipush 32, 2) := by decide +kernel
theorem d_M_step_193 : decode b_M_step 193 = .ok (.iload_n 3, 1) := by decide +kernel
theorem d_M_step_194 : decode b_M_step 194 = .ok (.iadd, 1) := by decide +kernel
theorem d_M_step_195 : decode b_M_step 195 = .ok (.aload_n 0, 1) := by decide +kernel
theorem d_M_step_196 : decode b_M_step 196 = .ok (.iload_n 2, 1) := by decide +kernel
theorem d_M_step_197 : decode b_M_step 197 = .ok (.iconst 0, 1) := by decide +kernel
theorem d_M_step_198 : decode b_M_step 198 = .ok (.invokevirtual 192, 3) := by decide +kernel
theorem d_M_step_201 : decode b_M_step 201 = .ok (.lastore, 1) := by decide +kernel
theorem d_M_step_202 : decode b_M_step 202 = .ok (.iinc 3 1, 3) := by decide +kernel
theorem d_M_step_205 : decode b_M_step 205 = .ok (.goto (-116), 3) := by decide +kernel
theorem d_M_step_208 : decode b_M_step 208 = .ok (.aload_n 0, 1) := by decide +kernel
theorem d_M_step_209 : decode b_M_step 209 = .ok (.dup, 1) := by decide +kernel
theorem d_M_step_210 : decode b_M_step 210 = .ok (.getfield 204, 3) := by decide +kernel
theorem d_M_step_213 : decode b_M_step 213 = .ok (.iconst 1, 1) := by decide +kernel
theorem d_M_step_214 : decode b_M_step 214 = .ok (.iadd, 1) := by decide +kernel
theorem d_M_step_215 : decode b_M_step 215 = .ok (.putfield 204, 3) := by decide +kernel
theorem d_M_step_218 : decode b_M_step 218 = .ok (.aload_n 0, 1) := by decide +kernel
theorem d_M_step_219 : decode b_M_step 219 = .ok (.getfield 204, 3) := by decide +kernel
theorem d_M_step_222 : decode b_M_step 222 = .ok (.aload_n 0, 1) := by decide +kernel
theorem d_M_step_223 : decode b_M_step 223 = .ok (.getfield 43, 3) := by decide +kernel
theorem d_M_step_226 : decode b_M_step 226 = .ok (.if_icmp .ne 31, 3) := by decide +kernel
theorem d_M_step_229 : decode b_M_step 229 = .ok (.aload_n 0, 1) := by decide +kernel
theorem d_M_step_230 : decode b_M_step 230 = .ok (.dup, 1) := by decide +kernel
theorem d_M_step_231 : decode b_M_step 231 = .ok (.getfield 201, 3) := by decide +kernel
theorem d_M_step_234 : decode b_M_step 234 = .ok (.aload_n 0, 1) := by decide +kernel
theorem d_M_step_235 : decode b_M_step 235 = .ok (.getfield 201, 3) := by decide +kernel
theorem d_M_step_238 : decode b_M_step 238 = .ok (.bipush 60, 2) := by decide +kernel
theorem d_M_step_240 : decode b_M_step 240 = .ok (.if_icmp .ge 7, 3) := by decide +kernel
theorem d_M_step_243 : decode b_M_step 243 = .ok (.iconst 1, 1) := by decide +kernel
theorem d_M_step_244 : decode b_M_step 244 = .ok (.goto 4, 3) := by decide +kernel
theorem d_M_step_247 : decode b_M_step 247 = .ok (.iconst 0, 1) := by decide +kernel
theorem d_M_step_248 : decode b_M_step 248 = .ok (.iadd, 1) := by decide +kernel
theorem d_M_step_249 : decode b_M_step 249 = .ok (.putfield 201, 3) := by decide +kernel
theorem d_M_step_252 : decode b_M_step 252 = .ok (.aload_n 0, 1) := by decide +kernel
theorem d_M_step_253 : decode b_M_step 253 = .ok (.iconst 0, 1) := by decide +kernel
theorem d_M_step_254 : decode b_M_step 254 = .ok (.putfield 204, 3) := by decide +kernel
theorem d_M_step_257 : decode b_M_step 257 = .ok (.iconst 1, 1) := by decide +kernel
theorem d_M_step_258 : decode b_M_step 258 = .ok (.ireturn, 1) := by decide +kernel
theorem d_M_kept_0 : decode b_M_kept 0 = .ok (.iload_n 1, 1) := by decide +kernel
theorem d_M_kept_1 : decode b_M_kept 1 = .ok (.invokestatic 55, 3) := by decide +kernel
theorem d_M_kept_4 : decode b_M_kept 4 = .ok (.ifCond .eq 40, 3) := by decide +kernel
theorem d_M_kept_7 : decode b_M_kept 7 = .ok (.iload_n 2, 1) := by decide +kernel
theorem d_M_kept_8 : decode b_M_kept 8 = .ok (.invokestatic 55, 3) := by decide +kernel
theorem d_M_kept_11 : decode b_M_kept 11 = .ok (.ifCond .eq 33, 3) := by decide +kernel
theorem d_M_kept_14 : decode b_M_kept 14 = .ok (.iload_n 3, 1) := by decide +kernel
theorem d_M_kept_15 : decode b_M_kept 15 = .ok (.i2l, 1) := by decide +kernel
theorem d_M_kept_16 : decode b_M_kept 16 = .ok (.lconst 0, 1) := by decide +kernel
theorem d_M_kept_17 : decode b_M_kept 17 = .ok (.ldc2_w 72, 3) := by decide +kernel
theorem d_M_kept_20 : decode b_M_kept 20 = .ok (.invokestatic 49, 3) := by decide +kernel
theorem d_M_kept_23 : decode b_M_kept 23 = .ok (.ifCond .eq 21, 3) := by decide +kernel
theorem d_M_kept_26 : decode b_M_kept 26 = .ok (.aload_n 0, 1) := by decide +kernel
theorem d_M_kept_27 : decode b_M_kept 27 = .ok (.getfield 7, 3) := by decide +kernel
theorem d_M_kept_30 : decode b_M_kept 30 = .ok (.iload_n 1, 1) := by decide +kernel
theorem d_M_kept_31 : decode b_M_kept 31 = .ok (.iaload, 1) := by decide +kernel
theorem d_M_kept_32 : decode b_M_kept 32 = .ok (.aload_n 0, 1) := by decide +kernel
theorem d_M_kept_33 : decode b_M_kept 33 = .ok (.getfield 13, 3) := by decide +kernel
theorem d_M_kept_36 : decode b_M_kept 36 = .ok (.iload_n 1, 1) := by decide +kernel
theorem d_M_kept_37 : decode b_M_kept 37 = .ok (.iaload, 1) := by decide +kernel
theorem d_M_kept_38 : decode b_M_kept 38 = .ok (.iadd, 1) := by decide +kernel
theorem d_M_kept_39 : decode b_M_kept 39 = .ok (.bipush 11, 2) := by decide +kernel
theorem d_M_kept_41 : decode b_M_kept 41 = .ok (.if_icmp .le 6, 3) := by decide +kernel
theorem d_M_kept_44 : decode b_M_kept 44 = .ok (.bipush (-2), 2) := by decide +kernel
theorem d_M_kept_46 : decode b_M_kept 46 = .ok (.ireturn, 1) := by decide +kernel
theorem d_M_kept_47 : decode b_M_kept 47 = .ok (.aload_n 0, 1) := by decide +kernel
theorem d_M_kept_48 : decode b_M_kept 48 = .ok (.getfield 155, 3) := by decide +kernel
theorem d_M_kept_51 : decode b_M_kept 51 = .ok (.istore 4, 2) := by decide +kernel
theorem d_M_kept_53 : decode b_M_kept 53 = .ok (.iconst 0, 1) := by decide +kernel
theorem d_M_kept_54 : decode b_M_kept 54 = .ok (.istore 5, 2) := by decide +kernel
theorem d_M_kept_56 : decode b_M_kept 56 = .ok (.lconst 0, 1) := by decide +kernel
theorem d_M_kept_57 : decode b_M_kept 57 = .ok (.lstore 6, 2) := by decide +kernel
theorem d_M_kept_59 : decode b_M_kept 59 = .ok (.lload 6, 2) := by decide +kernel
theorem d_M_kept_61 : decode b_M_kept 61 = .ok (.ldc2_w 59, 3) := by decide +kernel
theorem d_M_kept_64 : decode b_M_kept 64 = .ok (.aload_n 0, 1) := by decide +kernel
theorem d_M_kept_65 : decode b_M_kept 65 = .ok (.iload_n 1, 1) := by decide +kernel
theorem d_M_kept_66 : decode b_M_kept 66 = .ok (.invokevirtual 65, 3) := by decide +kernel
theorem d_M_kept_69 : decode b_M_kept 69 = .ok (.lmul, 1) := by decide +kernel
theorem d_M_kept_70 : decode b_M_kept 70 = .ok (.lcmp, 1) := by decide +kernel
theorem d_M_kept_71 : decode b_M_kept 71 = .ok (.ifCond .ge 55, 3) := by decide +kernel
theorem d_M_kept_74 : decode b_M_kept 74 = .ok (.aload_n 0, 1) := by decide +kernel
theorem d_M_kept_75 : decode b_M_kept 75 = .ok (.iload_n 1, 1) := by decide +kernel
theorem d_M_kept_76 : decode b_M_kept 76 = .ok (.lload 6, 2) := by decide +kernel
theorem d_M_kept_78 : decode b_M_kept 78 = .ok (.invokevirtual 85, 3) := by decide +kernel
theorem d_M_kept_81 : decode b_M_kept 81 = .ok (.iconst 4, 1) := by decide +kernel
theorem d_M_kept_82 : decode b_M_kept 82 = .ok (.if_icmp .eq 35, 3) := by decide +kernel
theorem d_M_kept_85 : decode b_M_kept 85 = .ok (.iload 5, 2) := by decide +kernel
theorem d_M_kept_87 : decode b_M_kept 87 = .ok (.aload_n 0, 1) := by decide +kernel
theorem d_M_kept_88 : decode b_M_kept 88 = .ok (.iload_n 2, 1) := by decide +kernel
theorem d_M_kept_89 : decode b_M_kept 89 = .ok (.aload_n 0, 1) := by decide +kernel
theorem d_M_kept_90 : decode b_M_kept 90 = .ok (.iload_n 1, 1) := by decide +kernel
theorem d_M_kept_91 : decode b_M_kept 91 = .ok (.lload 6, 2) := by decide +kernel
theorem d_M_kept_93 : decode b_M_kept 93 = .ok (.iload_n 2, 1) := by decide +kernel
theorem d_M_kept_94 : decode b_M_kept 94 = .ok (.iload_n 3, 1) := by decide +kernel
theorem d_M_kept_95 : decode b_M_kept 95 = .ok (.invokevirtual 181, 3) := by decide +kernel
theorem d_M_kept_98 : decode b_M_kept 98 = .ok (.iload_n 1, 1) := by decide +kernel
theorem d_M_kept_99 : decode b_M_kept 99 = .ok (.iload_n 3, 1) := by decide +kernel
theorem d_M_kept_100 : decode b_M_kept 100 = .ok (.invokevirtual 181, 3) := by decide +kernel
theorem d_M_kept_103 : decode b_M_kept 103 = .ok (.lload 6, 2) := by decide +kernel
theorem d_M_kept_105 : decode b_M_kept 105 = .ok (.lcmp, 1) := by decide +kernel
theorem d_M_kept_106 : decode b_M_kept 106 = .ok (.ifCond .ne 7, 3) := by decide +kernel
theorem d_M_kept_109 : decode b_M_kept 109 = .ok (.iconst 1, 1) := by decide +kernel
theorem d_M_kept_110 : decode b_M_kept 110 = .ok (.goto 4, 3) := by decide +kernel
theorem d_M_kept_113 : decode b_M_kept 113 = .ok (.iconst 0, 1) := by decide +kernel
theorem d_M_kept_114 : decode b_M_kept 114 = .ok (.iadd, 1) := by decide +kernel
theorem d_M_kept_115 : decode b_M_kept 115 = .ok (.istore 5, 2) := by decide +kernel
theorem d_M_kept_117 : decode b_M_kept 117 = .ok (.lload 6, 2) := by decide +kernel
theorem d_M_kept_119 : decode b_M_kept 119 = .ok (.lconst 1, 1) := by decide +kernel
theorem d_M_kept_120 : decode b_M_kept 120 = .ok (.ladd, 1) := by decide +kernel
theorem d_M_kept_121 : decode b_M_kept 121 = .ok (.lstore 6, 2) := by decide +kernel
theorem d_M_kept_123 : decode b_M_kept 123 = .ok (.goto (-64), 3) := by decide +kernel
theorem d_M_kept_126 : decode b_M_kept 126 = .ok (.aload_n 0, 1) := by decide +kernel
theorem d_M_kept_127 : decode b_M_kept 127 = .ok (.iload 4, 2) := by decide +kernel
theorem d_M_kept_129 : decode b_M_kept 129 = .ok (.putfield 155, 3) := by decide +kernel
theorem d_M_kept_132 : decode b_M_kept 132 = .ok (.iload 5, 2) := by decide +kernel
theorem d_M_kept_134 : decode b_M_kept 134 = .ok (.ireturn, 1) := by decide +kernel
