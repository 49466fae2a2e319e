theorem d_X_init_0 : decode b_X_init 0 = .ok (.aload_n 0, 1) := by decide +kernel
theorem d_X_init_1 : decode b_X_init 1 = .ok (.invokespecial 1, 3) := by decide +kernel
theorem d_X_init_4 : decode b_X_init 4 = .ok (.aload_n 0, 1) := by decide +kernel
theorem d_X_init_5 : decode b_X_init 5 = .ok (.iconst 4, 1) := by decide +kernel
theorem d_X_init_6 : decode b_X_init 6 = .ok (.anewarray 7, 3) := by decide +kernel
theorem d_X_init_9 : decode b_X_init 9 = .ok (.dup, 1) := by decide +kernel
theorem d_X_init_10 : decode b_X_init 10 = .ok (.iconst 0, 1) := by decide +kernel
theorem d_X_init_11 : decode b_X_init 11 = .ok (.new 7, 3) := by decide +kernel
theorem d_X_init_14 : decode b_X_init 14 = .ok (.dup, 1) := by decide +kernel
theorem d_X_init_15 : decode b_X_init 15 = .ok (.iconst 5, 1) := by decide +kernel
theorem d_X_init_16 : decode b_X_init 16 = .ok (.bipush 10, 2) := by decide +kernel
theorem d_X_init_18 : decode b_X_init 18 = .ok (.iconst 0, 1) := by decide +kernel
theorem d_X_init_19 : decode b_X_init 19 = .ok (.invokespecial 9, 3) := by decide +kernel
theorem d_X_init_22 : decode b_X_init 22 = .ok (.aastore, 1) := by decide +kernel
theorem d_X_init_23 : decode b_X_init 23 = .ok (.dup, 1) := by decide +kernel
theorem d_X_init_24 : decode b_X_init 24 = .ok (.iconst 1, 1) := by decide +kernel
theorem d_X_init_25 : decode b_X_init 25 = .ok (.new 7, 3) := by decide +kernel
theorem d_X_init_28 : decode b_X_init 28 = .ok (.dup, 1) := by decide +kernel
theorem d_X_init_29 : decode b_X_init 29 = .ok (.bipush 8, 2) := by decide +kernel
theorem d_X_init_31 : decode b_X_init 31 = .ok (.bipush 7, 2) := by decide +kernel
theorem d_X_init_33 : decode b_X_init 33 = .ok (.iconst 0, 1) := by decide +kernel
theorem d_X_init_34 : decode b_X_init 34 = .ok (.invokespecial 9, 3) := by decide +kernel
theorem d_X_init_37 : decode b_X_init 37 = .ok (.aastore, 1) := by decide +kernel
theorem d_X_init_38 : decode b_X_init 38 = .ok (.dup, 1) := by decide +kernel
theorem d_X_init_39 : decode b_X_init 39 = .ok (.iconst 2, 1) := by decide +kernel
theorem d_X_init_40 : decode b_X_init 40 = .ok (.new 7, 3) := by decide +kernel
theorem d_X_init_43 : decode b_X_init 43 = .ok (.dup, 1) := by decide +kernel
theorem d_X_init_44 : decode b_X_init 44 = .ok (.bipush 8, 2) := by decide +kernel
theorem d_X_init_46 : decode b_X_init 46 = .ok (.bipush 23, 2) := by decide +kernel
theorem d_X_init_48 : decode b_X_init 48 = .ok (.iconst 0, 1) := by decide +kernel
theorem d_X_init_49 : decode b_X_init 49 = .ok (.invokespecial 9, 3) := by decide +kernel
theorem d_X_init_52 : decode b_X_init 52 = .ok (.aastore, 1) := by decide +kernel
theorem d_X_init_53 : decode b_X_init 53 = .ok (.dup, 1) := by decide +kernel
theorem d_X_init_54 : decode b_X_init 54 = .ok (.iconst 3, 1) := by decide +kernel
theorem d_X_init_55 : decode b_X_init 55 = .ok (.new 7, 3) := by decide +kernel
theorem d_X_init_58 : decode b_X_init 58 = .ok (.dup, 1) := by decide +kernel
theorem d_X_init_59 : decode b_X_init 59 = .ok (.iconst 4, 1) := by decide +kernel
theorem d_X_init_60 : decode b_X_init 60 = .ok (.iconst 3, 1) := by decide +kernel
theorem d_X_init_61 : decode b_X_init 61 = .ok (.iconst 1, 1) := by decide +kernel
theorem d_X_init_62 : decode b_X_init 62 = .ok (.invokespecial 9, 3) := by decide +kernel
theorem d_X_init_65 : decode b_X_init 65 = .ok (.aastore, 1) := by decide +kernel
theorem d_X_init_66 : decode b_X_init 66 = .ok (.putfield 12, 3) := by decide +kernel
theorem d_X_init_69 : decode b_X_init 69 = .ok (.aload_n 0, 1) := by decide +kernel
theorem d_X_init_70 : decode b_X_init 70 = .ok (.new 18, 3) := by decide +kernel
theorem d_X_init_73 : decode b_X_init 73 = .ok (.dup, 1) := by decide +kernel
theorem d_X_init_74 : decode b_X_init 74 = .ok (.iconst 0, 1) := by decide +kernel
theorem d_X_init_75 : decode b_X_init 75 = .ok (.invokespecial 20, 3) := by decide +kernel
theorem d_X_init_78 : decode b_X_init 78 = .ok (.putfield 23, 3) := by decide +kernel
theorem d_X_init_81 : decode b_X_init 81 = .ok (.aload_n 0, 1) := by decide +kernel
theorem d_X_init_82 : decode b_X_init 82 = .ok (.new 18, 3) := by decide +kernel
theorem d_X_init_85 : decode b_X_init 85 = .ok (.dup, 1) := by decide +kernel
theorem d_X_init_86 : decode b_X_init 86 = .ok (.iconst 2, 1) := by decide +kernel
theorem d_X_init_87 : decode b_X_init 87 = .ok (.invokespecial 20, 3) := by decide +kernel
theorem d_X_init_90 : decode b_X_init 90 = .ok (.putfield 27, 3) := by decide +kernel
theorem d_X_init_93 : decode b_X_init 93 = .ok (.aload_n 0, 1) := by decide +kernel
theorem d_X_init_94 : decode b_X_init 94 = .ok (.new 30, 3) := by decide +kernel
theorem d_X_init_97 : decode b_X_init 97 = .ok (.dup, 1) := by decide +kernel
theorem d_X_init_98 : decode b_X_init 98 = .ok (.invokespecial 32, 3) := by decide +kernel
theorem d_X_init_101 : decode b_X_init 101 = .ok (.putfield 33, 3) := by decide +kernel
theorem d_X_init_104 : decode b_X_init 104 = .ok (.aload_n 0, 1) := by decide +kernel
theorem d_X_init_105 : decode b_X_init 105 = .ok (.new 37, 3) := by decide +kernel
theorem d_X_init_108 : decode b_X_init 108 = .ok (.dup, 1) := by decide +kernel
theorem d_X_init_109 : decode b_X_init 109 = .ok (.invokespecial 39, 3) := by decide +kernel
theorem d_X_init_112 : decode b_X_init 112 = .ok (.putfield 40, 3) := by decide +kernel
theorem d_X_init_115 : decode b_X_init 115 = .ok (.aload_n 0, 1) := by decide +kernel
theorem d_X_init_116 : decode b_X_init 116 = .ok (.bipush 32, 2) := by decide +kernel
theorem d_X_init_118 : decode b_X_init 118 = .ok (.newarray .int, 2) := by decide +kernel
theorem d_X_init_120 : decode b_X_init 120 = .ok (.putfield 44, 3) := by decide +kernel
theorem d_X_init_123 : decode b_X_init 123 = .ok (.aload_n 0, 1) := by decide +kernel
theorem d_X_init_124 : decode b_X_init 124 = .ok (.iconst 0, 1) := by decide +kernel
theorem d_X_init_125 : decode b_X_init 125 = .ok (.putfield 48, 3) := by decide +kernel
theorem d_X_init_128 : decode b_X_init 128 = .ok (.aload_n 0, 1) := by decide +kernel
theorem d_X_init_129 : decode b_X_init 129 = .ok (.iconst 0, 1) := by decide +kernel
theorem d_X_init_130 : decode b_X_init 130 = .ok (.putfield 52, 3) := by decide +kernel
theorem d_X_init_133 : decode b_X_init 133 = .ok (.aload_n 0, 1) := by decide +kernel
theorem d_X_init_134 : decode b_X_init 134 = .ok (.iconst 3, 1) := by decide +kernel
theorem d_X_init_135 : decode b_X_init 135 = .ok (.putfield 55, 3) := by decide +kernel
theorem d_X_init_138 : decode b_X_init 138 = .ok (.return_, 1) := by decide +kernel
theorem d_X_format_0 : decode b_X_format 0 = .ok (.iload_n 1, 1) := by decide +kernel
theorem d_X_format_1 : decode b_X_format 1 = .ok (.invokestatic 58, 3) := by decide +kernel
theorem d_X_format_4 : decode b_X_format 4 = .ok (.ifCond .eq 36, 3) := by decide +kernel
theorem d_X_format_7 : decode b_X_format 7 = .ok (.iload_n 2, 1) := by decide +kernel
theorem d_X_format_8 : decode b_X_format 8 = .ok (.iconst 2, 1) := by decide +kernel
theorem d_X_format_9 : decode b_X_format 9 = .ok (.if_icmp .lt 31, 3) := by decide +kernel
theorem d_X_format_12 : decode b_X_format 12 = .ok (.iload_n 2, 1) := by decide +kernel
theorem d_X_format_13 : decode b_X_format 13 = .ok (.bipush 8, 2) := by decide +kernel
theorem d_X_format_15 : decode b_X_format 15 = .ok (.if_icmp .gt 25, 3) := by decide +kernel
theorem d_X_format_18 : decode b_X_format 18 = .ok (.iload_n 3, 1) := by decide +kernel
theorem d_X_format_19 : decode b_X_format 19 = .ok (.iconst 1, 1) := by decide +kernel
theorem d_X_format_20 : decode b_X_format 20 = .ok (.if_icmp .lt 20, 3) := by decide +kernel
theorem d_X_format_23 : decode b_X_format 23 = .ok (.iload_n 3, 1) := by decide +kernel
theorem d_X_format_24 : decode b_X_format 24 = .ok (.bipush 23, 2) := by decide +kernel
theorem d_X_format_26 : decode b_X_format 26 = .ok (.if_icmp .gt 14, 3) := by decide +kernel
theorem d_X_format_29 : decode b_X_format 29 = .ok (.iload 4, 2) := by decide +kernel
theorem d_X_format_31 : decode b_X_format 31 = .ok (.ifCond .lt 9, 3) := by decide +kernel
theorem d_X_format_34 : decode b_X_format 34 = .ok (.iload 4, 2) := by decide +kernel
theorem d_X_format_36 : decode b_X_format 36 = .ok (.iconst 3, 1) := by decide +kernel
theorem d_X_format_37 : decode b_X_format 37 = .ok (.if_icmp .lt 6, 3) := by decide +kernel
theorem d_X_format_40 : decode b_X_format 40 = .ok (.bipush (-2), 2) := by decide +kernel
theorem d_X_format_42 : decode b_X_format 42 = .ok (.ireturn, 1) := by decide +kernel
theorem d_X_format_43 : decode b_X_format 43 = .ok (.aload_n 0, 1) := by decide +kernel
theorem d_X_format_44 : decode b_X_format 44 = .ok (.getfield 23, 3) := by decide +kernel
theorem d_X_format_47 : decode b_X_format 47 = .ok (.iload_n 1, 1) := by decide +kernel
theorem d_X_format_48 : decode b_X_format 48 = .ok (.invokevirtual 62, 3) := by decide +kernel
theorem d_X_format_51 : decode b_X_format 51 = .ok (.ifCond .ne 14, 3) := by decide +kernel
theorem d_X_format_54 : decode b_X_format 54 = .ok (.aload_n 0, 1) := by decide +kernel
theorem d_X_format_55 : decode b_X_format 55 = .ok (.getfield 27, 3) := by decide +kernel
theorem d_X_format_58 : decode b_X_format 58 = .ok (.iload_n 1, 1) := by decide +kernel
theorem d_X_format_59 : decode b_X_format 59 = .ok (.invokevirtual 62, 3) := by decide +kernel
theorem d_X_format_62 : decode b_X_format 62 = .ok (.ifCond .eq 6, 3) := by decide +kernel
theorem d_X_format_65 : decode b_X_format 65 = .ok (.bipush (-2), 2) := by decide +kernel
theorem d_X_format_67 : decode b_X_format 67 = .ok (.ireturn, 1) := by decide +kernel
theorem d_X_format_68 : decode b_X_format 68 = .ok (.aload_n 0, 1) := by decide +kernel
theorem d_X_format_69 : decode b_X_format 69 = .ok (.getfield 12, 3) := by decide +kernel
theorem d_X_format_72 : decode b_X_format 72 = .ok (.iload_n 1, 1) := by decide +kernel
theorem d_X_format_73 : decode b_X_format 73 = .ok (.aaload, 1) := by decide +kernel
theorem d_X_format_74 : decode b_X_format 74 = .ok (.iload_n 2, 1) := by decide +kernel
theorem d_X_format_75 : decode b_X_format 75 = .ok (.iload_n 3, 1) := by decide +kernel
theorem d_X_format_76 : decode b_X_format 76 = .ok (.iload 4, 2) := by decide +kernel
theorem d_X_format_78 : decode b_X_format 78 = .ok (.invokevirtual 65, 3) := by decide +kernel
theorem d_X_format_81 : decode b_X_format 81 = .ok (.iconst 1, 1) := by decide +kernel
theorem d_X_format_82 : decode b_X_format 82 = .ok (.ireturn, 1) := by decide +kernel
theorem d_X_form_0 : decode b_X_form 0 = .ok (.iload_n 1, 1) := by decide +kernel
theorem d_X_form_1 : decode b_X_form 1 = .ok (.invokestatic 58, 3) := by decide +kernel
theorem d_X_form_4 : decode b_X_form 4 = .ok (.ifCond .ne 6, 3) := by decide +kernel
theorem d_X_form_7 : decode b_X_form 7 = .ok (.bipush (-2), 2) := by decide +kernel
theorem d_X_form_9 : decode b_X_form 9 = .ok (.ireturn, 1) := by decide +kernel
theorem d_X_form_10 : decode b_X_form 10 = .ok (.aload_n 0, 1) := by decide +kernel
theorem d_X_form_11 : decode b_X_form 11 = .ok (.getfield 12, 3) := by decide +kernel
theorem d_X_form_14 : decode b_X_form 14 = .ok (.iload_n 1, 1) := by decide +kernel
theorem d_X_form_15 : decode b_X_form 15 = .ok (.aaload, 1) := by decide +kernel
theorem d_X_form_16 : decode b_X_form 16 = .ok (.astore_n 3, 1) := by decide +kernel
theorem d_X_form_17 : decode b_X_form 17 = .ok (.iload_n 2, 1) := by decide +kernel
theorem d_X_form_18 : decode b_X_form 18 = .ok (.tableswitch 61 0 4 #[34, 39, 44, 49, 56], 34) := by decide +kernel
theorem d_X_form_52 : decode b_X_form 52 = .ok (.aload_n 3, 1) := by decide +kernel
theorem d_X_form_53 : decode b_X_form 53 = .ok (.getfield 68, 3) := by decide +kernel
theorem d_X_form_56 : decode b_X_form 56 = .ok (.ireturn, 1) := by decide +kernel
theorem d_X_form_57 : decode b_X_form 57 = .ok (.aload_n 3, 1) := by decide +kernel
theorem d_X_form_58 : decode b_X_form 58 = .ok (.getfield 71, 3) := by decide +kernel
theorem d_X_form_61 : decode b_X_form 61 = .ok (.ireturn, 1) := by decide +kernel
theorem d_X_form_62 : decode b_X_form 62 = .ok (.aload_n 3, 1) := by decide +kernel
theorem d_X_form_63 : decode b_X_form 63 = .ok (.getfield 74, 3) := by decide +kernel
theorem d_X_form_66 : decode b_X_form 66 = .ok (.ireturn, 1) := by decide +kernel
theorem d_X_form_67 : decode b_X_form 67 = .ok (.aload_n 3, 1) := by decide +kernel
theorem d_X_form_68 : decode b_X_form 68 = .ok (.getfield 77, 3) := by decide +kernel
theorem d_X_form_71 : decode b_X_form 71 = .ok (.iconst 1, 1) := by decide +kernel
theorem d_X_form_72 : decode b_X_form 72 = .ok (.isub, 1) := by decide +kernel
theorem d_X_form_73 : decode b_X_form 73 = .ok (.ireturn, 1) := by decide +kernel
theorem d_X_form_74 : decode b_X_form 74 = .ok (.aload_n 3, 1) := by decide +kernel
theorem d_X_form_75 : decode b_X_form 75 = .ok (.getfield 80, 3) := by decide +kernel
theorem d_X_form_78 : decode b_X_form 78 = .ok (.ireturn, 1) := by decide +kernel
theorem d_X_form_79 : decode b_X_form 79 = .ok (.bipush (-2), 2) := by decide +kernel
theorem d_X_form_81 : decode b_X_form 81 = .ok (.ireturn, 1) := by decide +kernel
theorem d_X_part_0 : decode b_X_part 0 = .ok (.aload_n 0, 1) := by decide +kernel
theorem d_X_part_1 : decode b_X_part 1 = .ok (.iload_n 1, 1) := by decide +kernel
theorem d_X_part_2 : decode b_X_part 2 = .ok (.iload_n 2, 1) := by decide +kernel
theorem d_X_part_3 : decode b_X_part 3 = .ok (.invokevirtual 83, 3) := by decide +kernel
theorem d_X_part_6 : decode b_X_part 6 = .ok (.ifCond .ne 6, 3) := by decide +kernel
theorem d_X_part_9 : decode b_X_part 9 = .ok (.ldc 87, 2) := by decide +kernel
theorem d_X_part_11 : decode b_X_part 11 = .ok (.ireturn, 1) := by decide +kernel
theorem d_X_part_12 : decode b_X_part 12 = .ok (.aload_n 0, 1) := by decide +kernel
theorem d_X_part_13 : decode b_X_part 13 = .ok (.getfield 12, 3) := by decide +kernel
theorem d_X_part_16 : decode b_X_part 16 = .ok (.iload_n 1, 1) := by decide +kernel
theorem d_X_part_17 : decode b_X_part 17 = .ok (.aaload, 1) := by decide +kernel
theorem d_X_part_18 : decode b_X_part 18 = .ok (.astore 4, 2) := by decide +kernel
theorem d_X_part_20 : decode b_X_part 20 = .ok (.aload 4, 2) := by decide +kernel
theorem d_X_part_22 : decode b_X_part 22 = .ok (.iload_n 2, 1) := by decide +kernel
theorem d_X_part_23 : decode b_X_part 23 = .ok (.invokevirtual 88, 3) := by decide +kernel
theorem d_X_part_26 : decode b_X_part 26 = .ok (.istore 5, 2) := by decide +kernel
theorem d_X_part_28 : decode b_X_part 28 = .ok (.iload 5, 2) := by decide +kernel
theorem d_X_part_30 : decode b_X_part 30 = .ok (.iconst 1, 1) := by decide +kernel
theorem d_X_part_31 : decode b_X_part 31 = .ok (.if_icmp .eq 9, 3) := by decide +kernel
theorem d_X_part_34 : decode b_X_part 34 = .ok (.iload 5, 2) := by decide +kernel
theorem d_X_part_36 : decode b_X_part 36 = .ok (.iconst 2, 1) := by decide +kernel
theorem d_X_part_37 : decode b_X_part 37 = .ok (.if_icmp .ne 7, 3) := by decide +kernel
theorem d_X_part_40 : decode b_X_part 40 = .ok (.iconst 1, 1) := by decide +kernel
theorem d_X_part_41 : decode b_X_part 41 = .ok (.goto 4, 3) := by decide +kernel
theorem d_X_part_44 : decode b_X_part 44 = .ok (.iconst 0, 1) := by decide +kernel
theorem d_X_part_45 : decode b_X_part 45 = .ok (.istore 6, 2) := by decide +kernel
theorem d_X_part_47 : decode b_X_part 47 = .ok (.iload_n 3, 1) := by decide +kernel
theorem d_X_part_48 : decode b_X_part 48 = .ok (.tableswitch 83 0 3 #[32, 35, 50, 67], 32) := by decide +kernel
theorem d_X_part_80 : decode b_X_part 80 = .ok (.iload 5, 2) := by decide +kernel
theorem d_X_part_82 : decode b_X_part 82 = .ok (.ireturn, 1) := by decide +kernel
theorem d_X_part_83 : decode b_X_part 83 = .ok (.aload 4, 2) := by decide +kernel
theorem d_X_part_85 : decode b_X_part 85 = .ok (.iload_n 2, 1) := by decide +kernel
theorem d_X_part_86 : decode b_X_part 86 = .ok (.invokevirtual 92, 3) := by decide +kernel
theorem d_X_part_89 : decode b_X_part 89 = .ok (.ifCond .eq 7, 3) := by decide +kernel
theorem d_X_part_92 : decode b_X_part 92 = .ok (.iconst 1, 1) := by decide +kernel
theorem d_X_part_93 : decode b_X_part 93 = .ok (.goto 4, 3) := by decide +kernel
theorem d_X_part_96 : decode b_X_part 96 = .ok (.iconst 0, 1) := by decide +kernel
theorem d_X_part_97 : decode b_X_part 97 = .ok (.ireturn, 1) := by decide +kernel
theorem d_X_part_98 : decode b_X_part 98 = .ok (.iload 6, 2) := by decide +kernel
theorem d_X_part_100 : decode b_X_part 100 = .ok (.ifCond .eq 13, 3) := by decide +kernel
theorem d_X_part_103 : decode b_X_part 103 = .ok (.aload 4, 2) := by decide +kernel
theorem d_X_part_105 : decode b_X_part 105 = .ok (.iload_n 2, 1) := by decide +kernel
theorem d_X_part_106 : decode b_X_part 106 = .ok (.invokevirtual 95, 3) := by decide +kernel
theorem d_X_part_109 : decode b_X_part 109 = .ok (.l2i, 1) := by decide +kernel
theorem d_X_part_110 : decode b_X_part 110 = .ok (.goto 4, 3) := by decide +kernel
theorem d_X_part_113 : decode b_X_part 113 = .ok (.iconst 0, 1) := by decide +kernel
theorem d_X_part_114 : decode b_X_part 114 = .ok (.ireturn, 1) := by decide +kernel
theorem d_X_part_115 : decode b_X_part 115 = .ok (.iload 6, 2) := by decide +kernel
theorem d_X_part_117 : decode b_X_part 117 = .ok (.ifCond .eq 12, 3) := by decide +kernel
theorem d_X_part_120 : decode b_X_part 120 = .ok (.aload 4, 2) := by decide +kernel
theorem d_X_part_122 : decode b_X_part 122 = .ok (.iload_n 2, 1) := by decide +kernel
theorem d_X_part_123 : decode b_X_part 123 = .ok (.invokevirtual 99, 3) := by decide +kernel
theorem d_X_part_126 : decode b_X_part 126 = .ok (.goto 4, 3) := by decide +kernel
theorem d_X_part_129 : decode b_X_part 129 = .ok (.iconst 0, 1) := by decide +kernel
theorem d_X_part_130 : decode b_X_part 130 = .ok (.ireturn, 1) := by decide +kernel
theorem d_X_part_131 : decode b_X_part 131 = .ok (.ldc 87, 2) := by decide +kernel
theorem d_X_part_133 : decode b_X_part 133 = .ok (.ireturn, 1) := by decide +kernel
theorem d_X_turn_0 : decode b_X_turn 0 = .ok (.aload_n 0, 1) := by decide +kernel
theorem d_X_turn_1 : decode b_X_turn 1 = .ok (.iload_n 1, 1) := by decide +kernel
theorem d_X_turn_2 : decode b_X_turn 2 = .ok (.iload_n 2, 1) := by decide +kernel
theorem d_X_turn_3 : decode b_X_turn 3 = .ok (.invokevirtual 83, 3) := by decide +kernel
theorem d_X_turn_6 : decode b_X_turn 6 = .ok (.ifCond .eq 18, 3) := by decide +kernel
theorem d_X_turn_9 : decode b_X_turn 9 = .ok (.iload_n 3, 1) := by decide +kernel
theorem d_X_turn_10 : decode b_X_turn 10 = .ok (.invokestatic 58, 3) := by decide +kernel
theorem d_X_turn_13 : decode b_X_turn 13 = .ok (.ifCond .eq 11, 3) := by decide +kernel
theorem d_X_turn_16 : decode b_X_turn 16 = .ok (.iload 4, 2) := by decide +kernel
theorem d_X_turn_18 : decode b_X_turn 18 = .ok (.invokestatic 102, 3) := by decide +kernel
theorem d_X_turn_21 : decode b_X_turn 21 = .ok (.ifCond .ne 7, 3) := by decide +kernel
theorem d_X_turn_24 : decode b_X_turn 24 = .ok (.ldc2_w 105, 3) := by decide +kernel
theorem d_X_turn_27 : decode b_X_turn 27 = .ok (.lreturn, 1) := by decide +kernel
theorem d_X_turn_28 : decode b_X_turn 28 = .ok (.aload_n 0, 1) := by decide +kernel
theorem d_X_turn_29 : decode b_X_turn 29 = .ok (.getfield 40, 3) := by decide +kernel
theorem d_X_turn_32 : decode b_X_turn 32 = .ok (.aload_n 0, 1) := by decide +kernel
theorem d_X_turn_33 : decode b_X_turn 33 = .ok (.getfield 12, 3) := by decide +kernel
theorem d_X_turn_36 : decode b_X_turn 36 = .ok (.iload_n 1, 1) := by decide +kernel
theorem d_X_turn_37 : decode b_X_turn 37 = .ok (.aaload, 1) := by decide +kernel
theorem d_X_turn_38 : decode b_X_turn 38 = .ok (.iload_n 2, 1) := by decide +kernel
theorem d_X_turn_39 : decode b_X_turn 39 = .ok (.iconst 0, 1) := by decide +kernel
theorem d_X_turn_40 : decode b_X_turn 40 = .ok (.aload_n 0, 1) := by decide +kernel
theorem d_X_turn_41 : decode b_X_turn 41 = .ok (.getfield 12, 3) := by decide +kernel
theorem d_X_turn_44 : decode b_X_turn 44 = .ok (.iload_n 3, 1) := by decide +kernel
theorem d_X_turn_45 : decode b_X_turn 45 = .ok (.aaload, 1) := by decide +kernel
theorem d_X_turn_46 : decode b_X_turn 46 = .ok (.iload 4, 2) := by decide +kernel
theorem d_X_turn_48 : decode b_X_turn 48 = .ok (.invokevirtual 107, 3) := by decide +kernel
theorem d_X_turn_51 : decode b_X_turn 51 = .ok (.invokestatic 111, 3) := by decide +kernel
theorem d_X_turn_54 : decode b_X_turn 54 = .ok (.lreturn, 1) := by decide +kernel
theorem d_X_reckon_0 : decode b_X_reckon 0 = .ok (.iload_n 1, 1) := by decide +kernel
theorem d_X_reckon_1 : decode b_X_reckon 1 = .ok (.ifCond .lt 44, 3) := by decide +kernel
theorem d_X_reckon_4 : decode b_X_reckon 4 = .ok (.iload_n 1, 1) := by decide +kernel
theorem d_X_reckon_5 : decode b_X_reckon 5 = .ok (.iconst 2, 1) := by decide +kernel
theorem d_X_reckon_6 : decode b_X_reckon 6 = .ok (.if_icmp .gt 39, 3) := by decide +kernel
theorem d_X_reckon_9 : decode b_X_reckon 9 = .ok (.aload_n 0, 1) := by decide +kernel
theorem d_X_reckon_10 : decode b_X_reckon 10 = .ok (.iload_n 2, 1) := by decide +kernel
theorem d_X_reckon_11 : decode b_X_reckon 11 = .ok (.iload_n 3, 1) := by decide +kernel
theorem d_X_reckon_12 : decode b_X_reckon 12 = .ok (.invokevirtual 83, 3) := by decide +kernel
theorem d_X_reckon_15 : decode b_X_reckon 15 = .ok (.ifCond .eq 30, 3) := by decide +kernel
theorem d_X_reckon_18 : decode b_X_reckon 18 = .ok (.aload_n 0, 1) := by decide +kernel
theorem d_X_reckon_19 : decode b_X_reckon 19 = .ok (.iload 4, 2) := by decide +kernel
theorem d_X_reckon_21 : decode b_X_reckon 21 = .ok (.iload 5, 2) := by decide +kernel
theorem d_X_reckon_23 : decode b_X_reckon 23 = .ok (.invokevirtual 83, 3) := by decide +kernel
theorem d_X_reckon_26 : decode b_X_reckon 26 = .ok (.ifCond .eq 19, 3) := by decide +kernel
theorem d_X_reckon_29 : decode b_X_reckon 29 = .ok (.iload 6, 2) := by decide +kernel
theorem d_X_reckon_31 : decode b_X_reckon 31 = .ok (.invokestatic 58, 3) := by decide +kernel
theorem d_X_reckon_34 : decode b_X_reckon 34 = .ok (.ifCond .eq 11, 3) := by decide +kernel
theorem d_X_reckon_37 : decode b_X_reckon 37 = .ok (.iload 7, 2) := by decide +kernel
theorem d_X_reckon_39 : decode b_X_reckon 39 = .ok (.invokestatic 102, 3) := by decide +kernel
theorem d_X_reckon_42 : decode b_X_reckon 42 = .ok (.ifCond .ne 7, 3) := by decide +kernel
theorem d_X_reckon_45 : decode b_X_reckon 45 = .ok (.ldc2_w 105, 3) := by decide +kernel
theorem d_X_reckon_48 : decode b_X_reckon 48 = .ok (.lreturn, 1) := by decide +kernel
theorem d_X_reckon_49 : decode b_X_reckon 49 = .ok (.aload_n 0, 1) := by decide +kernel
theorem d_X_reckon_50 : decode b_X_reckon 50 = .ok (.getfield 33, 3) := by decide +kernel
theorem d_X_reckon_53 : decode b_X_reckon 53 = .ok (.invokevirtual 114, 3) := by decide +kernel
theorem d_X_reckon_56 : decode b_X_reckon 56 = .ok (.iload_n 1, 1) := by decide +kernel
theorem d_X_reckon_57 : decode b_X_reckon 57 = .ok (.iconst 2, 1) := by decide +kernel
theorem d_X_reckon_58 : decode b_X_reckon 58 = .ok (.if_icmp .ne 29, 3) := by decide +kernel
theorem d_X_reckon_61 : decode b_X_reckon 61 = .ok (.aload_n 0, 1) := by decide +kernel
theorem d_X_reckon_62 : decode b_X_reckon 62 = .ok (.getfield 33, 3) := by decide +kernel
theorem d_X_reckon_65 : decode b_X_reckon 65 = .ok (.aload_n 0, 1) := by decide +kernel
theorem d_X_reckon_66 : decode b_X_reckon 66 = .ok (.getfield 12, 3) := by decide +kernel
theorem d_X_reckon_69 : decode b_X_reckon 69 = .ok (.iload_n 2, 1) := by decide +kernel
theorem d_X_reckon_70 : decode b_X_reckon 70 = .ok (.aaload, 1) := by decide +kernel
theorem d_X_reckon_71 : decode b_X_reckon 71 = .ok (.iload_n 3, 1) := by decide +kernel
theorem d_X_reckon_72 : decode b_X_reckon 72 = .ok (.aload_n 0, 1) := by decide +kernel
theorem d_X_reckon_73 : decode b_X_reckon 73 = .ok (.getfield 12, 3) := by decide +kernel
theorem d_X_reckon_76 : decode b_X_reckon 76 = .ok (.iload 4, 2) := by decide +kernel
theorem d_X_reckon_78 : decode b_X_reckon 78 = .ok (.aaload, 1) := by decide +kernel
theorem d_X_reckon_79 : decode b_X_reckon 79 = .ok (.iload 5, 2) := by decide +kernel
theorem d_X_reckon_81 : decode b_X_reckon 81 = .ok (.invokevirtual 117, 3) := by decide +kernel
theorem d_X_reckon_84 : decode b_X_reckon 84 = .ok (.goto 44, 3) := by decide +kernel
theorem d_X_reckon_87 : decode b_X_reckon 87 = .ok (.aload_n 0, 1) := by decide +kernel
theorem d_X_reckon_88 : decode b_X_reckon 88 = .ok (.getfield 33, 3) := by decide +kernel
theorem d_X_reckon_91 : decode b_X_reckon 91 = .ok (.aload_n 0, 1) := by decide +kernel
theorem d_X_reckon_92 : decode b_X_reckon 92 = .ok (.getfield 12, 3) := by decide +kernel
theorem d_X_reckon_95 : decode b_X_reckon 95 = .ok (.iload_n 2, 1) := by decide +kernel
theorem d_X_reckon_96 : decode b_X_reckon 96 = .ok (.aaload, 1) := by decide +kernel
theorem d_X_reckon_97 : decode b_X_reckon 97 = .ok (.iload_n 3, 1) := by decide +kernel
theorem d_X_reckon_98 : decode b_X_reckon 98 = .ok (.iconst 0, 1) := by decide +kernel
theorem d_X_reckon_99 : decode b_X_reckon 99 = .ok (.invokevirtual 121, 3) := by decide +kernel
theorem d_X_reckon_102 : decode b_X_reckon 102 = .ok (.aload_n 0, 1) := by decide +kernel
theorem d_X_reckon_103 : decode b_X_reckon 103 = .ok (.getfield 33, 3) := by decide +kernel
theorem d_X_reckon_106 : decode b_X_reckon 106 = .ok (.aload_n 0, 1) := by decide +kernel
theorem d_X_reckon_107 : decode b_X_reckon 107 = .ok (.getfield 12, 3) := by decide +kernel
theorem d_X_reckon_110 : decode b_X_reckon 110 = .ok (.iload 4, 2) := by decide +kernel
theorem d_X_reckon_112 : decode b_X_reckon 112 = .ok (.aaload, 1) := by decide +kernel
theorem d_X_reckon_113 : decode b_X_reckon 113 = .ok (.iload 5, 2) := by decide +kernel
theorem d_X_reckon_115 : decode b_X_reckon 115 = .ok (.iload_n 1, 1) := by decide +kernel
theorem d_X_reckon_116 : decode b_X_reckon 116 = .ok (.iconst 1, 1) := by decide +kernel
theorem d_X_reckon_117 : decode b_X_reckon 117 = .ok (.if_icmp .ne 7, 3) := by decide +kernel
theorem d_X_reckon_120 : decode b_X_reckon 120 = .ok (.iconst 1, 1) := by decide +kernel
theorem d_X_reckon_121 : decode b_X_reckon 121 = .ok (.goto 4, 3) := by decide +kernel
theorem d_X_reckon_124 : decode b_X_reckon 124 = .ok (.iconst 0, 1) := by decide +kernel
theorem d_X_reckon_125 : decode b_X_reckon 125 = .ok (.invokevirtual 121, 3) := by decide +kernel
theorem d_X_reckon_128 : decode b_X_reckon 128 = .ok (.aload_n 0, 1) := by decide +kernel
theorem d_X_reckon_129 : decode b_X_reckon 129 = .ok (.getfield 40, 3) := by decide +kernel
theorem d_X_reckon_132 : decode b_X_reckon 132 = .ok (.aload_n 0, 1) := by decide +kernel
theorem d_X_reckon_133 : decode b_X_reckon 133 = .ok (.getfield 33, 3) := by decide +kernel
theorem d_X_reckon_136 : decode b_X_reckon 136 = .ok (.aload_n 0, 1) := by decide +kernel
theorem d_X_reckon_137 : decode b_X_reckon 137 = .ok (.getfield 12, 3) := by decide +kernel
theorem d_X_reckon_140 : decode b_X_reckon 140 = .ok (.iload 6, 2) := by decide +kernel
theorem d_X_reckon_142 : decode b_X_reckon 142 = .ok (.aaload, 1) := by decide +kernel
theorem d_X_reckon_143 : decode b_X_reckon 143 = .ok (.iload 7, 2) := by decide +kernel
theorem d_X_reckon_145 : decode b_X_reckon 145 = .ok (.invokevirtual 125, 3) := by decide +kernel
theorem d_X_reckon_148 : decode b_X_reckon 148 = .ok (.invokestatic 111, 3) := by decide +kernel
theorem d_X_reckon_151 : decode b_X_reckon 151 = .ok (.lreturn, 1) := by decide +kernel
theorem d_X_fused_0 : decode b_X_fused 0 = .ok (.aload_n 0, 1) := by decide +kernel
theorem d_X_fused_1 : decode b_X_fused 1 = .ok (.iload_n 1, 1) := by decide +kernel
theorem d_X_fused_2 : decode b_X_fused 2 = .ok (.iload_n 2, 1) := by decide +kernel
theorem d_X_fused_3 : decode b_X_fused 3 = .ok (.invokevirtual 83, 3) := by decide +kernel
theorem d_X_fused_6 : decode b_X_fused 6 = .ok (.ifCond .eq 31, 3) := by decide +kernel
theorem d_X_fused_9 : decode b_X_fused 9 = .ok (.aload_n 0, 1) := by decide +kernel
theorem d_X_fused_10 : decode b_X_fused 10 = .ok (.iload_n 1, 1) := by decide +kernel
theorem d_X_fused_11 : decode b_X_fused 11 = .ok (.iload_n 3, 1) := by decide +kernel
theorem d_X_fused_12 : decode b_X_fused 12 = .ok (.invokevirtual 83, 3) := by decide +kernel
theorem d_X_fused_15 : decode b_X_fused 15 = .ok (.ifCond .eq 22, 3) := by decide +kernel
theorem d_X_fused_18 : decode b_X_fused 18 = .ok (.aload_n 0, 1) := by decide +kernel
theorem d_X_fused_19 : decode b_X_fused 19 = .ok (.iload 4, 2) := by decide +kernel
theorem d_X_fused_21 : decode b_X_fused 21 = .ok (.iload 5, 2) := by decide +kernel
theorem d_X_fused_23 : decode b_X_fused 23 = .ok (.invokevirtual 83, 3) := by decide +kernel
theorem d_X_fused_26 : decode b_X_fused 26 = .ok (.ifCond .eq 11, 3) := by decide +kernel
theorem d_X_fused_29 : decode b_X_fused 29 = .ok (.iload 6, 2) := by decide +kernel
theorem d_X_fused_31 : decode b_X_fused 31 = .ok (.invokestatic 102, 3) := by decide +kernel
theorem d_X_fused_34 : decode b_X_fused 34 = .ok (.ifCond .ne 7, 3) := by decide +kernel
theorem d_X_fused_37 : decode b_X_fused 37 = .ok (.ldc2_w 105, 3) := by decide +kernel
theorem d_X_fused_40 : decode b_X_fused 40 = .ok (.lreturn, 1) := by decide +kernel
theorem d_X_fused_41 : decode b_X_fused 41 = .ok (.aload_n 0, 1) := by decide +kernel
theorem d_X_fused_42 : decode b_X_fused 42 = .ok (.getfield 33, 3) := by decide +kernel
theorem d_X_fused_45 : decode b_X_fused 45 = .ok (.invokevirtual 114, 3) := by decide +kernel
theorem d_X_fused_48 : decode b_X_fused 48 = .ok (.aload_n 0, 1) := by decide +kernel
theorem d_X_fused_49 : decode b_X_fused 49 = .ok (.getfield 33, 3) := by decide +kernel
theorem d_X_fused_52 : decode b_X_fused 52 = .ok (.aload_n 0, 1) := by decide +kernel
theorem d_X_fused_53 : decode b_X_fused 53 = .ok (.getfield 12, 3) := by decide +kernel
theorem d_X_fused_56 : decode b_X_fused 56 = .ok (.iload_n 1, 1) := by decide +kernel
theorem d_X_fused_57 : decode b_X_fused 57 = .ok (.aaload, 1) := by decide +kernel
theorem d_X_fused_58 : decode b_X_fused 58 = .ok (.iload_n 2, 1) := by decide +kernel
theorem d_X_fused_59 : decode b_X_fused 59 = .ok (.aload_n 0, 1) := by decide +kernel
theorem d_X_fused_60 : decode b_X_fused 60 = .ok (.getfield 12, 3) := by decide +kernel
theorem d_X_fused_63 : decode b_X_fused 63 = .ok (.iload_n 1, 1) := by decide +kernel
theorem d_X_fused_64 : decode b_X_fused 64 = .ok (.aaload, 1) := by decide +kernel
theorem d_X_fused_65 : decode b_X_fused 65 = .ok (.iload_n 3, 1) := by decide +kernel
theorem d_X_fused_66 : decode b_X_fused 66 = .ok (.invokevirtual 117, 3) := by decide +kernel
theorem d_X_fused_69 : decode b_X_fused 69 = .ok (.aload_n 0, 1) := by decide +kernel
theorem d_X_fused_70 : decode b_X_fused 70 = .ok (.getfield 33, 3) := by decide +kernel
theorem d_X_fused_73 : decode b_X_fused 73 = .ok (.aload_n 0, 1) := by decide +kernel
theorem d_X_fused_74 : decode b_X_fused 74 = .ok (.getfield 12, 3) := by decide +kernel
theorem d_X_fused_77 : decode b_X_fused 77 = .ok (.iload 4, 2) := by decide +kernel
theorem d_X_fused_79 : decode b_X_fused 79 = .ok (.aaload, 1) := by decide +kernel
theorem d_X_fused_80 : decode b_X_fused 80 = .ok (.iload 5, 2) := by decide +kernel
theorem d_X_fused_82 : decode b_X_fused 82 = .ok (.iconst 0, 1) := by decide +kernel
theorem d_X_fused_83 : decode b_X_fused 83 = .ok (.invokevirtual 121, 3) := by decide +kernel
theorem d_X_fused_86 : decode b_X_fused 86 = .ok (.aload_n 0, 1) := by decide +kernel
theorem d_X_fused_87 : decode b_X_fused 87 = .ok (.getfield 40, 3) := by decide +kernel
theorem d_X_fused_90 : decode b_X_fused 90 = .ok (.aload_n 0, 1) := by decide +kernel
theorem d_X_fused_91 : decode b_X_fused 91 = .ok (.getfield 33, 3) := by decide +kernel
theorem d_X_fused_94 : decode b_X_fused 94 = .ok (.aload_n 0, 1) := by decide +kernel
theorem d_X_fused_95 : decode b_X_fused 95 = .ok (.getfield 12, 3) := by decide +kernel
theorem d_X_fused_98 : decode b_X_fused 98 = .ok (.iload 4, 2) := by decide +kernel
theorem d_X_fused_100 : decode b_X_fused 100 = .ok (.aaload, 1) := by decide +kernel
theorem d_X_fused_101 : decode b_X_fused 101 = .ok (.iload 6, 2) := by decide +kernel
theorem d_X_fused_103 : decode b_X_fused 103 = .ok (.invokevirtual 125, 3) := by decide +kernel
theorem d_X_fused_106 : decode b_X_fused 106 = .ok (.invokestatic 111, 3) := by decide +kernel
theorem d_X_fused_109 : decode b_X_fused 109 = .ok (.lreturn, 1) := by decide +kernel
theorem d_X_compare_0 : decode b_X_compare 0 = .ok (.aload_n 0, 1) := by decide +kernel
theorem d_X_compare_1 : decode b_X_compare 1 = .ok (.iload_n 1, 1) := by decide +kernel
theorem d_X_compare_2 : decode b_X_compare 2 = .ok (.iload_n 2, 1) := by decide +kernel
theorem d_X_compare_3 : decode b_X_compare 3 = .ok (.invokevirtual 83, 3) := by decide +kernel
theorem d_X_compare_6 : decode b_X_compare 6 = .ok (.ifCond .eq 13, 3) := by decide +kernel
theorem d_X_compare_9 : decode b_X_compare 9 = .ok (.aload_n 0, 1) := by decide +kernel
theorem d_X_compare_10 : decode b_X_compare 10 = .ok (.iload_n 3, 1) := by decide +kernel
theorem d_X_compare_11 : decode b_X_compare 11 = .ok (.iload 4, 2) := by decide +kernel
theorem d_X_compare_13 : decode b_X_compare 13 = .ok (.invokevirtual 83, 3) := by decide +kernel
theorem d_X_compare_16 : decode b_X_compare 16 = .ok (.ifCond .ne 6, 3) := by decide +kernel
theorem d_X_compare_19 : decode b_X_compare 19 = .ok (.bipush (-2), 2) := by decide +kernel
theorem d_X_compare_21 : decode b_X_compare 21 = .ok (.ireturn, 1) := by decide +kernel
theorem d_X_compare_22 : decode b_X_compare 22 = .ok (.aload_n 0, 1) := by decide +kernel
theorem d_X_compare_23 : decode b_X_compare 23 = .ok (.getfield 33, 3) := by decide +kernel
theorem d_X_compare_26 : decode b_X_compare 26 = .ok (.invokevirtual 114, 3) := by decide +kernel
theorem d_X_compare_29 : decode b_X_compare 29 = .ok (.aload_n 0, 1) := by decide +kernel
theorem d_X_compare_30 : decode b_X_compare 30 = .ok (.getfield 33, 3) := by decide +kernel
theorem d_X_compare_33 : decode b_X_compare 33 = .ok (.aload_n 0, 1) := by decide +kernel
theorem d_X_compare_34 : decode b_X_compare 34 = .ok (.getfield 12, 3) := by decide +kernel
theorem d_X_compare_37 : decode b_X_compare 37 = .ok (.iload_n 1, 1) := by decide +kernel
theorem d_X_compare_38 : decode b_X_compare 38 = .ok (.aaload, 1) := by decide +kernel
theorem d_X_compare_39 : decode b_X_compare 39 = .ok (.iload_n 2, 1) := by decide +kernel
theorem d_X_compare_40 : decode b_X_compare 40 = .ok (.iconst 0, 1) := by decide +kernel
theorem d_X_compare_41 : decode b_X_compare 41 = .ok (.invokevirtual 121, 3) := by decide +kernel
theorem d_X_compare_44 : decode b_X_compare 44 = .ok (.aload_n 0, 1) := by decide +kernel
theorem d_X_compare_45 : decode b_X_compare 45 = .ok (.getfield 33, 3) := by decide +kernel
theorem d_X_compare_48 : decode b_X_compare 48 = .ok (.aload_n 0, 1) := by decide +kernel
theorem d_X_compare_49 : decode b_X_compare 49 = .ok (.getfield 12, 3) := by decide +kernel
theorem d_X_compare_52 : decode b_X_compare 52 = .ok (.iload_n 3, 1) := by decide +kernel
theorem d_X_compare_53 : decode b_X_compare 53 = .ok (.aaload, 1) := by decide +kernel
theorem d_X_compare_54 : decode b_X_compare 54 = .ok (.iload 4, 2) := by decide +kernel
theorem d_X_compare_56 : decode b_X_compare 56 = .ok (.iconst 1, 1) := by decide +kernel
theorem d_X_compare_57 : decode b_X_compare 57 = .ok (.invokevirtual 121, 3) := by decide +kernel
theorem d_X_compare_60 : decode b_X_compare 60 = .ok (.aload_n 0, 1) := by decide +kernel
theorem d_X_compare_61 : decode b_X_compare 61 = .ok (.getfield 33, 3) := by decide +kernel
theorem d_X_compare_64 : decode b_X_compare 64 = .ok (.getfield 129, 3) := by decide +kernel
theorem d_X_compare_67 : decode b_X_compare 67 = .ok (.ifCond .eq 7, 3) := by decide +kernel
theorem d_X_compare_70 : decode b_X_compare 70 = .ok (.iconst 2, 1) := by decide +kernel
theorem d_X_compare_71 : decode b_X_compare 71 = .ok (.goto 10, 3) := by decide +kernel
theorem d_X_compare_74 : decode b_X_compare 74 = .ok (.aload_n 0, 1) := by decide +kernel
theorem d_X_compare_75 : decode b_X_compare 75 = .ok (.getfield 33, 3) := by decide +kernel
theorem d_X_compare_78 : decode b_X_compare 78 = .ok (.invokevirtual 133, 3) := by decide +kernel
theorem d_X_compare_81 : decode b_X_compare 81 = .ok (.ireturn, 1) := by decide +kernel
theorem d_X_flags_0 : decode b_X_flags 0 = .ok (.aload_n 0, 1) := by decide +kernel
theorem d_X_flags_1 : decode b_X_flags 1 = .ok (.getfield 40, 3) := by decide +kernel
theorem d_X_flags_4 : decode b_X_flags 4 = .ok (.getfield 137, 3) := by decide +kernel
theorem d_X_flags_7 : decode b_X_flags 7 = .ok (.istore_n 1, 1) := by decide +kernel
theorem d_X_flags_8 : decode b_X_flags 8 = .ok (.aload_n 0, 1) := by decide +kernel
theorem d_X_flags_9 : decode b_X_flags 9 = .ok (.getfield 40, 3) := by decide +kernel
theorem d_X_flags_12 : decode b_X_flags 12 = .ok (.iconst 0, 1) := by decide +kernel
theorem d_X_flags_13 : decode b_X_flags 13 = .ok (.putfield 137, 3) := by decide +kernel
theorem d_X_flags_16 : decode b_X_flags 16 = .ok (.iload_n 1, 1) := by decide +kernel
theorem d_X_flags_17 : decode b_X_flags 17 = .ok (.ireturn, 1) := by decide +kernel
theorem d_X_seed_0 : decode b_X_seed 0 = .ok (.iload_n 1, 1) := by decide +kernel
theorem d_X_seed_1 : decode b_X_seed 1 = .ok (.iconst 1, 1) := by decide +kernel
theorem d_X_seed_2 : decode b_X_seed 2 = .ok (.if_icmp .lt 9, 3) := by decide +kernel
theorem d_X_seed_5 : decode b_X_seed 5 = .ok (.iload_n 1, 1) := by decide +kernel
theorem d_X_seed_6 : decode b_X_seed 6 = .ok (.ldc 140, 2) := by decide +kernel
theorem d_X_seed_8 : decode b_X_seed 8 = .ok (.if_icmp .le 6, 3) := by decide +kernel
theorem d_X_seed_11 : decode b_X_seed 11 = .ok (.bipush (-2), 2) := by decide +kernel
theorem d_X_seed_13 : decode b_X_seed 13 = .ok (.ireturn, 1) := by decide +kernel
theorem d_X_seed_14 : decode b_X_seed 14 = .ok (.aload_n 0, 1) := by decide +kernel
theorem d_X_seed_15 : decode b_X_seed 15 = .ok (.getfield 40, 3) := by decide +kernel
theorem d_X_seed_18 : decode b_X_seed 18 = .ok (.getfield 141, 3) := by decide +kernel
theorem d_X_seed_21 : decode b_X_seed 21 = .ok (.l2i, 1) := by decide +kernel
theorem d_X_seed_22 : decode b_X_seed 22 = .ok (.istore_n 2, 1) := by decide +kernel
theorem d_X_seed_23 : decode b_X_seed 23 = .ok (.aload_n 0, 1) := by decide +kernel
theorem d_X_seed_24 : decode b_X_seed 24 = .ok (.getfield 40, 3) := by decide +kernel
theorem d_X_seed_27 : decode b_X_seed 27 = .ok (.iload_n 1, 1) := by decide +kernel
theorem d_X_seed_28 : decode b_X_seed 28 = .ok (.i2l, 1) := by decide +kernel
theorem d_X_seed_29 : decode b_X_seed 29 = .ok (.putfield 141, 3) := by decide +kernel
theorem d_X_seed_32 : decode b_X_seed 32 = .ok (.iload_n 2, 1) := by decide +kernel
theorem d_X_seed_33 : decode b_X_seed 33 = .ok (.ireturn, 1) := by decide +kernel
theorem d_X_clear_0 : decode b_X_clear 0 = .ok (.iload_n 1, 1) := by decide +kernel
theorem d_X_clear_1 : decode b_X_clear 1 = .ok (.invokestatic 145, 3) := by decide +kernel
theorem d_X_clear_4 : decode b_X_clear 4 = .ok (.ifCond .eq 10, 3) := by decide +kernel
theorem d_X_clear_7 : decode b_X_clear 7 = .ok (.iload_n 2, 1) := by decide +kernel
theorem d_X_clear_8 : decode b_X_clear 8 = .ok (.invokestatic 58, 3) := by decide +kernel
theorem d_X_clear_11 : decode b_X_clear 11 = .ok (.ifCond .ne 6, 3) := by decide +kernel
theorem d_X_clear_14 : decode b_X_clear 14 = .ok (.bipush (-2), 2) := by decide +kernel
theorem d_X_clear_16 : decode b_X_clear 16 = .ok (.ireturn, 1) := by decide +kernel
theorem d_X_clear_17 : decode b_X_clear 17 = .ok (.aload_n 0, 1) := by decide +kernel
theorem d_X_clear_18 : decode b_X_clear 18 = .ok (.iload_n 1, 1) := by decide +kernel
theorem d_X_clear_19 : decode b_X_clear 19 = .ok (.invokevirtual 148, 3) := by decide +kernel
theorem d_X_clear_22 : decode b_X_clear 22 = .ok (.astore_n 3, 1) := by decide +kernel
theorem d_X_clear_23 : decode b_X_clear 23 = .ok (.aload_n 3, 1) := by decide +kernel
theorem d_X_clear_24 : decode b_X_clear 24 = .ok (.getfield 152, 3) := by decide +kernel
theorem d_X_clear_27 : decode b_X_clear 27 = .ok (.istore 4, 2) := by decide +kernel
theorem d_X_clear_29 : decode b_X_clear 29 = .ok (.aload_n 3, 1) := by decide +kernel
theorem d_X_clear_30 : decode b_X_clear 30 = .ok (.iconst 0, 1) := by decide +kernel
theorem d_X_clear_31 : decode b_X_clear 31 = .ok (.putfield 152, 3) := by decide +kernel
theorem d_X_clear_34 : decode b_X_clear 34 = .ok (.aload_n 3, 1) := by decide +kernel
theorem d_X_clear_35 : decode b_X_clear 35 = .ok (.iload_n 2, 1) := by decide +kernel
theorem d_X_clear_36 : decode b_X_clear 36 = .ok (.putfield 155, 3) := by decide +kernel
theorem d_X_clear_39 : decode b_X_clear 39 = .ok (.iload 4, 2) := by decide +kernel
theorem d_X_clear_41 : decode b_X_clear 41 = .ok (.ireturn, 1) := by decide +kernel
theorem d_X_push_0 : decode b_X_push 0 = .ok (.iload_n 1, 1) := by decide +kernel
theorem d_X_push_1 : decode b_X_push 1 = .ok (.invokestatic 145, 3) := by decide +kernel
theorem d_X_push_4 : decode b_X_push 4 = .ok (.ifCond .eq 19, 3) := by decide +kernel
theorem d_X_push_7 : decode b_X_push 7 = .ok (.aload_n 0, 1) := by decide +kernel
theorem d_X_push_8 : decode b_X_push 8 = .ok (.aload_n 0, 1) := by decide +kernel
theorem d_X_push_9 : decode b_X_push 9 = .ok (.iload_n 1, 1) := by decide +kernel
theorem d_X_push_10 : decode b_X_push 10 = .ok (.invokevirtual 148, 3) := by decide +kernel
theorem d_X_push_13 : decode b_X_push 13 = .ok (.getfield 155, 3) := by decide +kernel
theorem d_X_push_16 : decode b_X_push 16 = .ok (.iload_n 2, 1) := by decide +kernel
theorem d_X_push_17 : decode b_X_push 17 = .ok (.invokevirtual 83, 3) := by decide +kernel
theorem d_X_push_20 : decode b_X_push 20 = .ok (.ifCond .ne 6, 3) := by decide +kernel
theorem d_X_push_23 : decode b_X_push 23 = .ok (.bipush (-2), 2) := by decide +kernel
theorem d_X_push_25 : decode b_X_push 25 = .ok (.ireturn, 1) := by decide +kernel
theorem d_X_push_26 : decode b_X_push 26 = .ok (.aload_n 0, 1) := by decide +kernel
theorem d_X_push_27 : decode b_X_push 27 = .ok (.iload_n 1, 1) := by decide +kernel
theorem d_X_push_28 : decode b_X_push 28 = .ok (.invokevirtual 148, 3) := by decide +kernel
theorem d_X_push_31 : decode b_X_push 31 = .ok (.astore_n 3, 1) := by decide +kernel
theorem d_X_push_32 : decode b_X_push 32 = .ok (.aload_n 3, 1) := by decide +kernel
theorem d_X_push_33 : decode b_X_push 33 = .ok (.getfield 152, 3) := by decide +kernel
theorem d_X_push_36 : decode b_X_push 36 = .ok (.bipush 32, 2) := by decide +kernel
theorem d_X_push_38 : decode b_X_push 38 = .ok (.if_icmp .lt 6, 3) := by decide +kernel
theorem d_X_push_41 : decode b_X_push 41 = .ok (.bipush (-3), 2) := by decide +kernel
theorem d_X_push_43 : decode b_X_push 43 = .ok (.ireturn, 1) := by decide +kernel
theorem d_X_push_44 : decode b_X_push 44 = .ok (.aload_n 3, 1) := by decide +kernel
theorem d_X_push_45 : decode b_X_push 45 = .ok (.getfield 158, 3) := by decide +kernel
theorem d_X_push_48 : decode b_X_push 48 = .ok (.aload_n 3, 1) := by decide +kernel
theorem d_X_push_49 : decode b_X_push 49 = .ok (.getfield 152, 3) := by decide +kernel
theorem d_X_push_52 : decode b_X_push 52 = .ok (.iload_n 2, 1) := by decide +kernel
theorem d_X_push_53 : decode b_X_push 53 = .ok (.iastore, 1) := by decide +kernel
theorem d_X_push_54 : decode b_X_push 54 = .ok (.aload_n 3, 1) := by decide +kernel
theorem d_X_push_55 : decode b_X_push 55 = .ok (.dup, 1) := by decide +kernel
theorem d_X_push_56 : decode b_X_push 56 = .ok (.getfield 152, 3) := by decide +kernel
theorem d_X_push_59 : decode b_X_push 59 = .ok (.iconst 1, 1) := by decide +kernel
theorem d_X_push_60 : decode b_X_push 60 = .ok (.iadd, 1) := by decide +kernel
theorem d_X_push_61 : decode b_X_push 61 = .ok (.putfield 152, 3) := by decide +kernel
theorem d_X_push_64 : decode b_X_push 64 = .ok (.aload_n 3, 1) := by decide +kernel
theorem d_X_push_65 : decode b_X_push 65 = .ok (.getfield 152, 3) := by decide +kernel
theorem d_X_push_68 : decode b_X_push 68 = .ok (.ireturn, 1) := by decide +kernel
theorem d_X_at_0 : decode b_X_at 0 = .ok (.iload_n 1, 1) := by decide +kernel
theorem d_X_at_1 : decode b_X_at 1 = .ok (.invokestatic 145, 3) := by decide +kernel
theorem d_X_at_4 : decode b_X_at 4 = .ok (.ifCond .eq 15, 3) := by decide +kernel
theorem d_X_at_7 : decode b_X_at 7 = .ok (.aload_n 0, 1) := by decide +kernel
theorem d_X_at_8 : decode b_X_at 8 = .ok (.iload_n 1, 1) := by decide +kernel
theorem d_X_at_9 : decode b_X_at 9 = .ok (.invokevirtual 148, 3) := by decide +kernel
theorem d_X_at_12 : decode b_X_at 12 = .ok (.iload_n 2, 1) := by decide +kernel
theorem d_X_at_13 : decode b_X_at 13 = .ok (.invokevirtual 161, 3) := by decide +kernel
theorem d_X_at_16 : decode b_X_at 16 = .ok (.ifCond .ne 7, 3) := by decide +kernel
theorem d_X_at_19 : decode b_X_at 19 = .ok (.ldc2_w 105, 3) := by decide +kernel
theorem d_X_at_22 : decode b_X_at 22 = .ok (.lreturn, 1) := by decide +kernel
theorem d_X_at_23 : decode b_X_at 23 = .ok (.aload_n 0, 1) := by decide +kernel
theorem d_X_at_24 : decode b_X_at 24 = .ok (.iload_n 1, 1) := by decide +kernel
theorem d_X_at_25 : decode b_X_at 25 = .ok (.invokevirtual 148, 3) := by decide +kernel
theorem d_X_at_28 : decode b_X_at 28 = .ok (.getfield 158, 3) := by decide +kernel
theorem d_X_at_31 : decode b_X_at 31 = .ok (.iload_n 2, 1) := by decide +kernel
theorem d_X_at_32 : decode b_X_at 32 = .ok (.iaload, 1) := by decide +kernel
theorem d_X_at_33 : decode b_X_at 33 = .ok (.invokestatic 111, 3) := by decide +kernel
theorem d_X_at_36 : decode b_X_at 36 = .ok (.lreturn, 1) := by decide +kernel
theorem d_X_count_0 : decode b_X_count 0 = .ok (.iload_n 1, 1) := by decide +kernel
theorem d_X_count_1 : decode b_X_count 1 = .ok (.tableswitch 90 0 6 #[43, 51, 59, 67, 75, 80, 85], 43) := by decide +kernel
theorem d_X_count_44 : decode b_X_count 44 = .ok (.aload_n 0, 1) := by decide +kernel
theorem d_X_count_45 : decode b_X_count 45 = .ok (.getfield 23, 3) := by decide +kernel
theorem d_X_count_48 : decode b_X_count 48 = .ok (.getfield 152, 3) := by decide +kernel
theorem d_X_count_51 : decode b_X_count 51 = .ok (.ireturn, 1) := by decide +kernel
theorem d_X_count_52 : decode b_X_count 52 = .ok (.aload_n 0, 1) := by decide +kernel
theorem d_X_count_53 : decode b_X_count 53 = .ok (.getfield 27, 3) := by decide +kernel
theorem d_X_count_56 : decode b_X_count 56 = .ok (.getfield 152, 3) := by decide +kernel
theorem d_X_count_59 : decode b_X_count 59 = .ok (.ireturn, 1) := by decide +kernel
theorem d_X_count_60 : decode b_X_count 60 = .ok (.aload_n 0, 1) := by decide +kernel
theorem d_X_count_61 : decode b_X_count 61 = .ok (.getfield 23, 3) := by decide +kernel
theorem d_X_count_64 : decode b_X_count 64 = .ok (.getfield 155, 3) := by decide +kernel
theorem d_X_count_67 : decode b_X_count 67 = .ok (.ireturn, 1) := by decide +kernel
theorem d_X_count_68 : decode b_X_count 68 = .ok (.aload_n 0, 1) := by decide +kernel
theorem d_X_count_69 : decode b_X_count 69 = .ok (.getfield 27, 3) := by decide +kernel
theorem d_X_count_72 : decode b_X_count 72 = .ok (.getfield 155, 3) := by decide +kernel
theorem d_X_count_75 : decode b_X_count 75 = .ok (.ireturn, 1) := by decide +kernel
theorem d_X_count_76 : decode b_X_count 76 = .ok (.aload_n 0, 1) := by decide +kernel
theorem d_X_count_77 : decode b_X_count 77 = .ok (.getfield 48, 3) := by decide +kernel
theorem d_X_count_80 : decode b_X_count 80 = .ok (.ireturn, 1) := by decide +kernel
theorem d_X_count_81 : decode b_X_count 81 = .ok (.aload_n 0, 1) := by decide +kernel
theorem d_X_count_82 : decode b_X_count 82 = .ok (.getfield 52, 3) := by decide +kernel
theorem d_X_count_85 : decode b_X_count 85 = .ok (.ireturn, 1) := by decide +kernel
theorem d_X_count_86 : decode b_X_count 86 = .ok (.aload_n 0, 1) := by decide +kernel
theorem d_X_count_87 : decode b_X_count 87 = .ok (.getfield 55, 3) := by decide +kernel
theorem d_X_count_90 : decode b_X_count 90 = .ok (.ireturn, 1) := by decide +kernel
theorem d_X_count_91 : decode b_X_count 91 = .ok (.ldc 87, 2) := by decide +kernel
theorem d_X_count_93 : decode b_X_count 93 = .ok (.ireturn, 1) := by decide +kernel
theorem d_X_sum_0 : decode b_X_sum 0 = .ok (.iload_n 1, 1) := by decide +kernel
theorem d_X_sum_1 : decode b_X_sum 1 = .ok (.invokestatic 145, 3) := by decide +kernel
theorem d_X_sum_4 : decode b_X_sum 4 = .ok (.ifCond .eq 27, 3) := by decide +kernel
theorem d_X_sum_7 : decode b_X_sum 7 = .ok (.iload_n 2, 1) := by decide +kernel
theorem d_X_sum_8 : decode b_X_sum 8 = .ok (.ifCond .lt 23, 3) := by decide +kernel
theorem d_X_sum_11 : decode b_X_sum 11 = .ok (.iload_n 2, 1) := by decide +kernel
theorem d_X_sum_12 : decode b_X_sum 12 = .ok (.iconst 2, 1) := by decide +kernel
theorem d_X_sum_13 : decode b_X_sum 13 = .ok (.if_icmp .gt 18, 3) := by decide +kernel
theorem d_X_sum_16 : decode b_X_sum 16 = .ok (.iload_n 3, 1) := by decide +kernel
theorem d_X_sum_17 : decode b_X_sum 17 = .ok (.invokestatic 58, 3) := by decide +kernel
theorem d_X_sum_20 : decode b_X_sum 20 = .ok (.ifCond .eq 11, 3) := by decide +kernel
theorem d_X_sum_23 : decode b_X_sum 23 = .ok (.iload 4, 2) := by decide +kernel
theorem d_X_sum_25 : decode b_X_sum 25 = .ok (.invokestatic 102, 3) := by decide +kernel
theorem d_X_sum_28 : decode b_X_sum 28 = .ok (.ifCond .ne 7, 3) := by decide +kernel
theorem d_X_sum_31 : decode b_X_sum 31 = .ok (.ldc2_w 105, 3) := by decide +kernel
theorem d_X_sum_34 : decode b_X_sum 34 = .ok (.lreturn, 1) := by decide +kernel
theorem d_X_sum_35 : decode b_X_sum 35 = .ok (.aload_n 0, 1) := by decide +kernel
theorem d_X_sum_36 : decode b_X_sum 36 = .ok (.iload_n 1, 1) := by decide +kernel
theorem d_X_sum_37 : decode b_X_sum 37 = .ok (.invokevirtual 148, 3) := by decide +kernel
theorem d_X_sum_40 : decode b_X_sum 40 = .ok (.astore 5, 2) := by decide +kernel
theorem d_X_sum_42 : decode b_X_sum 42 = .ok (.aload_n 0, 1) := by decide +kernel
theorem d_X_sum_43 : decode b_X_sum 43 = .ok (.getfield 12, 3) := by decide +kernel
theorem d_X_sum_46 : decode b_X_sum 46 = .ok (.iload_n 3, 1) := by decide +kernel
theorem d_X_sum_47 : decode b_X_sum 47 = .ok (.aaload, 1) := by decide +kernel
theorem d_X_sum_48 : decode b_X_sum 48 = .ok (.astore 6, 2) := by decide +kernel
theorem d_X_sum_50 : decode b_X_sum 50 = .ok (.iload_n 2, 1) := by decide +kernel
theorem d_X_sum_51 : decode b_X_sum 51 = .ok (.ifCond .ne 17, 3) := by decide +kernel
theorem d_X_sum_54 : decode b_X_sum 54 = .ok (.aload_n 0, 1) := by decide +kernel
theorem d_X_sum_55 : decode b_X_sum 55 = .ok (.aload 5, 2) := by decide +kernel
theorem d_X_sum_57 : decode b_X_sum 57 = .ok (.aload 6, 2) := by decide +kernel
theorem d_X_sum_59 : decode b_X_sum 59 = .ok (.iload 4, 2) := by decide +kernel
theorem d_X_sum_61 : decode b_X_sum 61 = .ok (.invokevirtual 164, 3) := by decide +kernel
theorem d_X_sum_64 : decode b_X_sum 64 = .ok (.invokestatic 111, 3) := by decide +kernel
theorem d_X_sum_67 : decode b_X_sum 67 = .ok (.lreturn, 1) := by decide +kernel
theorem d_X_sum_68 : decode b_X_sum 68 = .ok (.iload_n 2, 1) := by decide +kernel
theorem d_X_sum_69 : decode b_X_sum 69 = .ok (.iconst 1, 1) := by decide +kernel
theorem d_X_sum_70 : decode b_X_sum 70 = .ok (.if_icmp .ne 16, 3) := by decide +kernel
theorem d_X_sum_73 : decode b_X_sum 73 = .ok (.aload_n 0, 1) := by decide +kernel
theorem d_X_sum_74 : decode b_X_sum 74 = .ok (.aload 5, 2) := by decide +kernel
theorem d_X_sum_76 : decode b_X_sum 76 = .ok (.aload 6, 2) := by decide +kernel
theorem d_X_sum_78 : decode b_X_sum 78 = .ok (.iload 4, 2) := by decide +kernel
theorem d_X_sum_80 : decode b_X_sum 80 = .ok (.invokevirtual 168, 3) := by decide +kernel
theorem d_X_sum_83 : decode b_X_sum 83 = .ok (.goto 13, 3) := by decide +kernel
theorem d_X_sum_86 : decode b_X_sum 86 = .ok (.aload_n 0, 1) := by decide +kernel
theorem d_X_sum_87 : decode b_X_sum 87 = .ok (.aload 5, 2) := by decide +kernel
theorem d_X_sum_89 : decode b_X_sum 89 = .ok (.aload 6, 2) := by decide +kernel
theorem d_X_sum_91 : decode b_X_sum 91 = .ok (.iload 4, 2) := by decide +kernel
theorem d_X_sum_93 : decode b_X_sum 93 = .ok (.invokevirtual 171, 3) := by decide +kernel
theorem d_X_sum_96 : decode b_X_sum 96 = .ok (.invokestatic 111, 3) := by decide +kernel
theorem d_X_sum_99 : decode b_X_sum 99 = .ok (.lreturn, 1) := by decide +kernel
theorem d_X_dot_0 : decode b_X_dot 0 = .ok (.iload_n 1, 1) := by decide +kernel
theorem d_X_dot_1 : decode b_X_dot 1 = .ok (.ifCond .lt 31, 3) := by decide +kernel
theorem d_X_dot_4 : decode b_X_dot 4 = .ok (.iload_n 1, 1) := by decide +kernel
theorem d_X_dot_5 : decode b_X_dot 5 = .ok (.bipush 32, 2) := by decide +kernel
theorem d_X_dot_7 : decode b_X_dot 7 = .ok (.if_icmp .gt 25, 3) := by decide +kernel
theorem d_X_dot_10 : decode b_X_dot 10 = .ok (.iload_n 2, 1) := by decide +kernel
theorem d_X_dot_11 : decode b_X_dot 11 = .ok (.invokestatic 58, 3) := by decide +kernel
theorem d_X_dot_14 : decode b_X_dot 14 = .ok (.ifCond .eq 18, 3) := by decide +kernel
theorem d_X_dot_17 : decode b_X_dot 17 = .ok (.iload_n 3, 1) := by decide +kernel
theorem d_X_dot_18 : decode b_X_dot 18 = .ok (.invokestatic 58, 3) := by decide +kernel
theorem d_X_dot_21 : decode b_X_dot 21 = .ok (.ifCond .eq 11, 3) := by decide +kernel
theorem d_X_dot_24 : decode b_X_dot 24 = .ok (.iload 4, 2) := by decide +kernel
theorem d_X_dot_26 : decode b_X_dot 26 = .ok (.invokestatic 102, 3) := by decide +kernel
theorem d_X_dot_29 : decode b_X_dot 29 = .ok (.ifCond .ne 7, 3) := by decide +kernel
theorem d_X_dot_32 : decode b_X_dot 32 = .ok (.ldc2_w 105, 3) := by decide +kernel
theorem d_X_dot_35 : decode b_X_dot 35 = .ok (.lreturn, 1) := by decide +kernel
theorem d_X_dot_36 : decode b_X_dot 36 = .ok (.iload_n 1, 1) := by decide +kernel
theorem d_X_dot_37 : decode b_X_dot 37 = .ok (.ifCond .ne 19, 3) := by decide +kernel
theorem d_X_dot_40 : decode b_X_dot 40 = .ok (.aload_n 0, 1) := by decide +kernel
theorem d_X_dot_41 : decode b_X_dot 41 = .ok (.aload_n 0, 1) := by decide +kernel
theorem d_X_dot_42 : decode b_X_dot 42 = .ok (.getfield 12, 3) := by decide +kernel
theorem d_X_dot_45 : decode b_X_dot 45 = .ok (.iload_n 3, 1) := by decide +kernel
theorem d_X_dot_46 : decode b_X_dot 46 = .ok (.aaload, 1) := by decide +kernel
theorem d_X_dot_47 : decode b_X_dot 47 = .ok (.iload 4, 2) := by decide +kernel
theorem d_X_dot_49 : decode b_X_dot 49 = .ok (.invokevirtual 174, 3) := by decide +kernel
theorem d_X_dot_52 : decode b_X_dot 52 = .ok (.invokestatic 111, 3) := by decide +kernel
theorem d_X_dot_55 : decode b_X_dot 55 = .ok (.lreturn, 1) := by decide +kernel
theorem d_X_dot_56 : decode b_X_dot 56 = .ok (.aload_n 0, 1) := by decide +kernel
theorem d_X_dot_57 : decode b_X_dot 57 = .ok (.iload_n 1, 1) := by decide +kernel
theorem d_X_dot_58 : decode b_X_dot 58 = .ok (.aload_n 0, 1) := by decide +kernel
theorem d_X_dot_59 : decode b_X_dot 59 = .ok (.getfield 12, 3) := by decide +kernel
theorem d_X_dot_62 : decode b_X_dot 62 = .ok (.iload_n 2, 1) := by decide +kernel
theorem d_X_dot_63 : decode b_X_dot 63 = .ok (.aaload, 1) := by decide +kernel
theorem d_X_dot_64 : decode b_X_dot 64 = .ok (.aload_n 0, 1) := by decide +kernel
theorem d_X_dot_65 : decode b_X_dot 65 = .ok (.getfield 12, 3) := by decide +kernel
theorem d_X_dot_68 : decode b_X_dot 68 = .ok (.iload_n 3, 1) := by decide +kernel
theorem d_X_dot_69 : decode b_X_dot 69 = .ok (.aaload, 1) := by decide +kernel
theorem d_X_dot_70 : decode b_X_dot 70 = .ok (.iload 4, 2) := by decide +kernel
theorem d_X_dot_72 : decode b_X_dot 72 = .ok (.invokevirtual 178, 3) := by decide +kernel
theorem d_X_dot_75 : decode b_X_dot 75 = .ok (.invokestatic 111, 3) := by decide +kernel
theorem d_X_dot_78 : decode b_X_dot 78 = .ok (.lreturn, 1) := by decide +kernel
theorem d_X_scale_0 : decode b_X_scale 0 = .ok (.iload_n 1, 1) := by decide +kernel
theorem d_X_scale_1 : decode b_X_scale 1 = .ok (.invokestatic 58, 3) := by decide +kernel
theorem d_X_scale_4 : decode b_X_scale 4 = .ok (.ifCond .eq 16, 3) := by decide +kernel
theorem d_X_scale_7 : decode b_X_scale 7 = .ok (.aload_n 0, 1) := by decide +kernel
theorem d_X_scale_8 : decode b_X_scale 8 = .ok (.aload_n 0, 1) := by decide +kernel
theorem d_X_scale_9 : decode b_X_scale 9 = .ok (.getfield 12, 3) := by decide +kernel
theorem d_X_scale_12 : decode b_X_scale 12 = .ok (.iload_n 1, 1) := by decide +kernel
theorem d_X_scale_13 : decode b_X_scale 13 = .ok (.aaload, 1) := by decide +kernel
theorem d_X_scale_14 : decode b_X_scale 14 = .ok (.invokevirtual 182, 3) := by decide +kernel
theorem d_X_scale_17 : decode b_X_scale 17 = .ok (.goto 5, 3) := by decide +kernel
theorem d_X_scale_20 : decode b_X_scale 20 = .ok (.ldc 87, 2) := by decide +kernel
theorem d_X_scale_22 : decode b_X_scale 22 = .ok (.ireturn, 1) := by decide +kernel
theorem d_X_element_0 : decode b_X_element 0 = .ok (.iload_n 1, 1) := by decide +kernel
theorem d_X_element_1 : decode b_X_element 1 = .ok (.invokestatic 58, 3) := by decide +kernel
theorem d_X_element_4 : decode b_X_element 4 = .ok (.ifCond .eq 14, 3) := by decide +kernel
theorem d_X_element_7 : decode b_X_element 7 = .ok (.aload_n 0, 1) := by decide +kernel
theorem d_X_element_8 : decode b_X_element 8 = .ok (.getfield 23, 3) := by decide +kernel
theorem d_X_element_11 : decode b_X_element 11 = .ok (.iload_n 2, 1) := by decide +kernel
theorem d_X_element_12 : decode b_X_element 12 = .ok (.invokevirtual 161, 3) := by decide +kernel
theorem d_X_element_15 : decode b_X_element 15 = .ok (.ifCond .ne 7, 3) := by decide +kernel
theorem d_X_element_18 : decode b_X_element 18 = .ok (.ldc2_w 105, 3) := by decide +kernel
theorem d_X_element_21 : decode b_X_element 21 = .ok (.lreturn, 1) := by decide +kernel
theorem d_X_element_22 : decode b_X_element 22 = .ok (.aload_n 0, 1) := by decide +kernel
theorem d_X_element_23 : decode b_X_element 23 = .ok (.aload_n 0, 1) := by decide +kernel
theorem d_X_element_24 : decode b_X_element 24 = .ok (.getfield 12, 3) := by decide +kernel
theorem d_X_element_27 : decode b_X_element 27 = .ok (.iload_n 1, 1) := by decide +kernel
theorem d_X_element_28 : decode b_X_element 28 = .ok (.aaload, 1) := by decide +kernel
theorem d_X_element_29 : decode b_X_element 29 = .ok (.invokevirtual 182, 3) := by decide +kernel
theorem d_X_element_32 : decode b_X_element 32 = .ok (.ineg, 1) := by decide +kernel
theorem d_X_element_33 : decode b_X_element 33 = .ok (.istore_n 3, 1) := by decide +kernel
theorem d_X_element_34 : decode b_X_element 34 = .ok (.aload_n 0, 1) := by decide +kernel
theorem d_X_element_35 : decode b_X_element 35 = .ok (.getfield 40, 3) := by decide +kernel
theorem d_X_element_38 : decode b_X_element 38 = .ok (.aload_n 0, 1) := by decide +kernel
theorem d_X_element_39 : decode b_X_element 39 = .ok (.getfield 12, 3) := by decide +kernel
theorem d_X_element_42 : decode b_X_element 42 = .ok (.aload_n 0, 1) := by decide +kernel
theorem d_X_element_43 : decode b_X_element 43 = .ok (.getfield 23, 3) := by decide +kernel
theorem d_X_element_46 : decode b_X_element 46 = .ok (.getfield 155, 3) := by decide +kernel
theorem d_X_element_49 : decode b_X_element 49 = .ok (.aaload, 1) := by decide +kernel
theorem d_X_element_50 : decode b_X_element 50 = .ok (.aload_n 0, 1) := by decide +kernel
theorem d_X_element_51 : decode b_X_element 51 = .ok (.getfield 23, 3) := by decide +kernel
theorem d_X_element_54 : decode b_X_element 54 = .ok (.getfield 158, 3) := by decide +kernel
theorem d_X_element_57 : decode b_X_element 57 = .ok (.iload_n 2, 1) := by decide +kernel
theorem d_X_element_58 : decode b_X_element 58 = .ok (.iaload, 1) := by decide +kernel
theorem d_X_element_59 : decode b_X_element 59 = .ok (.iload_n 3, 1) := by decide +kernel
theorem d_X_element_60 : decode b_X_element 60 = .ok (.aload_n 0, 1) := by decide +kernel
theorem d_X_element_61 : decode b_X_element 61 = .ok (.getfield 12, 3) := by decide +kernel
theorem d_X_element_64 : decode b_X_element 64 = .ok (.iload_n 1, 1) := by decide +kernel
theorem d_X_element_65 : decode b_X_element 65 = .ok (.aaload, 1) := by decide +kernel
theorem d_X_element_66 : decode b_X_element 66 = .ok (.iconst 0, 1) := by decide +kernel
theorem d_X_element_67 : decode b_X_element 67 = .ok (.invokevirtual 107, 3) := by decide +kernel
theorem d_X_element_70 : decode b_X_element 70 = .ok (.invokestatic 111, 3) := by decide +kernel
theorem d_X_element_73 : decode b_X_element 73 = .ok (.lreturn, 1) := by decide +kernel
theorem d_X_scaler_0 : decode b_X_scaler 0 = .ok (.iload_n 1, 1) := by decide +kernel
theorem d_X_scaler_1 : decode b_X_scaler 1 = .ok (.bipush (-60), 2) := by decide +kernel
theorem d_X_scaler_3 : decode b_X_scaler 3 = .ok (.if_icmp .lt 20, 3) := by decide +kernel
theorem d_X_scaler_6 : decode b_X_scaler 6 = .ok (.iload_n 1, 1) := by decide +kernel
theorem d_X_scaler_7 : decode b_X_scaler 7 = .ok (.bipush 60, 2) := by decide +kernel
theorem d_X_scaler_9 : decode b_X_scaler 9 = .ok (.if_icmp .gt 14, 3) := by decide +kernel
theorem d_X_scaler_12 : decode b_X_scaler 12 = .ok (.iload_n 2, 1) := by decide +kernel
theorem d_X_scaler_13 : decode b_X_scaler 13 = .ok (.iconst 1, 1) := by decide +kernel
theorem d_X_scaler_14 : decode b_X_scaler 14 = .ok (.if_icmp .lt 9, 3) := by decide +kernel
theorem d_X_scaler_17 : decode b_X_scaler 17 = .ok (.iload_n 2, 1) := by decide +kernel
theorem d_X_scaler_18 : decode b_X_scaler 18 = .ok (.bipush 100, 2) := by decide +kernel
theorem d_X_scaler_20 : decode b_X_scaler 20 = .ok (.if_icmp .le 6, 3) := by decide +kernel
theorem d_X_scaler_23 : decode b_X_scaler 23 = .ok (.bipush (-2), 2) := by decide +kernel
theorem d_X_scaler_25 : decode b_X_scaler 25 = .ok (.ireturn, 1) := by decide +kernel
theorem d_X_scaler_26 : decode b_X_scaler 26 = .ok (.aload_n 0, 1) := by decide +kernel
theorem d_X_scaler_27 : decode b_X_scaler 27 = .ok (.iload_n 1, 1) := by decide +kernel
theorem d_X_scaler_28 : decode b_X_scaler 28 = .ok (.putfield 48, 3) := by decide +kernel
theorem d_X_scaler_31 : decode b_X_scaler 31 = .ok (.aload_n 0, 1) := by decide +kernel
theorem d_X_scaler_32 : decode b_X_scaler 32 = .ok (.iload_n 2, 1) := by decide +kernel
theorem d_X_scaler_33 : decode b_X_scaler 33 = .ok (.putfield 55, 3) := by decide +kernel
theorem d_X_scaler_36 : decode b_X_scaler 36 = .ok (.aload_n 0, 1) := by decide +kernel
theorem d_X_scaler_37 : decode b_X_scaler 37 = .ok (.iconst 0, 1) := by decide +kernel
theorem d_X_scaler_38 : decode b_X_scaler 38 = .ok (.putfield 52, 3) := by decide +kernel
theorem d_X_scaler_41 : decode b_X_scaler 41 = .ok (.iconst 1, 1) := by decide +kernel
theorem d_X_scaler_42 : decode b_X_scaler 42 = .ok (.ireturn, 1) := by decide +kernel
theorem d_X_step_0 : decode b_X_step 0 = .ok (.aload_n 0, 1) := by decide +kernel
theorem d_X_step_1 : decode b_X_step 1 = .ok (.aload_n 0, 1) := by decide +kernel
theorem d_X_step_2 : decode b_X_step 2 = .ok (.getfield 27, 3) := by decide +kernel
theorem d_X_step_5 : decode b_X_step 5 = .ok (.getfield 155, 3) := by decide +kernel
theorem d_X_step_8 : decode b_X_step 8 = .ok (.iload_n 1, 1) := by decide +kernel
theorem d_X_step_9 : decode b_X_step 9 = .ok (.invokevirtual 83, 3) := by decide +kernel
theorem d_X_step_12 : decode b_X_step 12 = .ok (.ifCond .ne 6, 3) := by decide +kernel
theorem d_X_step_15 : decode b_X_step 15 = .ok (.bipush (-2), 2) := by decide +kernel
theorem d_X_step_17 : decode b_X_step 17 = .ok (.ireturn, 1) := by decide +kernel
theorem d_X_step_18 : decode b_X_step 18 = .ok (.aload_n 0, 1) := by decide +kernel
theorem d_X_step_19 : decode b_X_step 19 = .ok (.invokevirtual 186, 3) := by decide +kernel
theorem d_X_step_22 : decode b_X_step 22 = .ok (.ifCond .eq 25, 3) := by decide +kernel
theorem d_X_step_25 : decode b_X_step 25 = .ok (.aload_n 0, 1) := by decide +kernel
theorem d_X_step_26 : decode b_X_step 26 = .ok (.aload_n 0, 1) := by decide +kernel
theorem d_X_step_27 : decode b_X_step 27 = .ok (.getfield 48, 3) := by decide +kernel
theorem d_X_step_30 : decode b_X_step 30 = .ok (.iconst 1, 1) := by decide +kernel
theorem d_X_step_31 : decode b_X_step 31 = .ok (.isub, 1) := by decide +kernel
theorem d_X_step_32 : decode b_X_step 32 = .ok (.bipush (-60), 2) := by decide +kernel
theorem d_X_step_34 : decode b_X_step 34 = .ok (.invokestatic 190, 3) := by decide +kernel
theorem d_X_step_37 : decode b_X_step 37 = .ok (.putfield 48, 3) := by decide +kernel
theorem d_X_step_40 : decode b_X_step 40 = .ok (.aload_n 0, 1) := by decide +kernel
theorem d_X_step_41 : decode b_X_step 41 = .ok (.iconst 0, 1) := by decide +kernel
theorem d_X_step_42 : decode b_X_step 42 = .ok (.putfield 52, 3) := by decide +kernel
theorem d_X_step_45 : decode b_X_step 45 = .ok (.iconst 0, 1) := by decide +kernel
theorem d_X_step_46 : decode b_X_step 46 = .ok (.ireturn, 1) := by decide +kernel
theorem d_X_step_47 : decode b_X_step 47 = .ok (.aload_n 0, 1) := by decide +kernel
theorem d_X_step_48 : decode b_X_step 48 = .ok (.getfield 23, 3) := by decide +kernel
theorem d_X_step_51 : decode b_X_step 51 = .ok (.getfield 152, 3) := by decide +kernel
theorem d_X_step_54 : decode b_X_step 54 = .ok (.aload_n 0, 1) := by decide +kernel
theorem d_X_step_55 : decode b_X_step 55 = .ok (.getfield 27, 3) := by decide +kernel
theorem d_X_step_58 : decode b_X_step 58 = .ok (.getfield 152, 3) := by decide +kernel
theorem d_X_step_61 : decode b_X_step 61 = .ok (.invokestatic 196, 3) := by decide +kernel
theorem d_X_step_64 : decode b_X_step 64 = .ok (.istore_n 2, 1) := by decide +kernel
theorem d_X_step_65 : decode b_X_step 65 = .ok (.iconst 0, 1) := by decide +kernel
theorem d_X_step_66 : decode b_X_step 66 = .ok (.istore_n 3, 1) := by decide +kernel
theorem d_X_step_67 : decode b_X_step 67 = .ok (.iload_n 3, 1) := by decide +kernel
theorem d_X_step_68 : decode b_X_step 68 = .ok (.iload_n 2, 1) := by decide +kernel
theorem d_X_step_69 : decode b_X_step 69 = .ok (.if_icmp .ge 41, 3) := by decide +kernel
theorem d_X_step_72 : decode b_X_step 72 = .ok (.aload_n 0, 1) := by decide +kernel
theorem d_X_step_73 : decode b_X_step 73 = .ok (.getfield 27, 3) := by decide +kernel
theorem d_X_step_76 : decode b_X_step 76 = .ok (.getfield 158, 3) := by decide +kernel
theorem d_X_step_79 : decode b_X_step 79 = .ok (.iload_n 3, 1) := by decide +kernel
theorem d_X_step_80 : decode b_X_step 80 = .ok (.aload_n 0, 1) := by decide +kernel
theorem d_X_step_81 : decode b_X_step 81 = .ok (.aload_n 0, 1) := by decide +kernel
theorem d_X_step_82 : decode b_X_step 82 = .ok (.getfield 27, 3) := by decide +kernel
theorem d_X_step_85 : decode b_X_step 85 = .ok (.getfield 158, 3) := by decide +kernel
theorem d_X_step_88 : decode b_X_step 88 = .ok (.iload_n 3, 1) := by decide +kernel
theorem d_X_step_89 : decode b_X_step 89 = .ok (.iaload, 1) := by decide +kernel
theorem d_X_step_90 : decode b_X_step 90 = .ok (.iload_n 1, 1) := by decide +kernel
theorem d_X_step_91 : decode b_X_step 91 = .ok (.aload_n 0, 1) := by decide +kernel
theorem d_X_step_92 : decode b_X_step 92 = .ok (.getfield 23, 3) := by decide +kernel
theorem d_X_step_95 : decode b_X_step 95 = .ok (.getfield 158, 3) := by decide +kernel
theorem d_X_step_98 : decode b_X_step 98 = .ok (.iload_n 3, 1) := by decide +kernel
theorem d_X_step_99 : decode b_X_step 99 = .ok (.iaload, 1) := by decide +kernel
theorem d_X_step_100 : decode b_X_step 100 = .ok (.invokevirtual 199, 3) := by decide +kernel
theorem d_X_step_103 : decode b_X_step 103 = .ok (.iastore, 1) := by decide +kernel
theorem d_X_step_104 : decode b_X_step 104 = .ok (.iinc 3 1, 3) := by decide +kernel
theorem d_X_step_107 : decode b_X_step 107 = .ok (.goto (-40), 3) := by decide +kernel
theorem d_X_step_110 : decode b_X_step 110 = .ok (.aload_n 0, 1) := by decide +kernel
theorem d_X_step_111 : decode b_X_step 111 = .ok (.dup, 1) := by decide +kernel
theorem d_X_step_112 : decode b_X_step 112 = .ok (.getfield 52, 3) := by decide +kernel
theorem d_X_step_115 : decode b_X_step 115 = .ok (.iconst 1, 1) := by decide +kernel
theorem d_X_step_116 : decode b_X_step 116 = .ok (.iadd, 1) := by decide +kernel
theorem d_X_step_117 : decode b_X_step 117 = .ok (.putfield 52, 3) := by decide +kernel
theorem d_X_step_120 : decode b_X_step 120 = .ok (.aload_n 0, 1) := by decide +kernel
theorem d_X_step_121 : decode b_X_step 121 = .ok (.getfield 52, 3) := by decide +kernel
theorem d_X_step_124 : decode b_X_step 124 = .ok (.aload_n 0, 1) := by decide +kernel
theorem d_X_step_125 : decode b_X_step 125 = .ok (.getfield 55, 3) := by decide +kernel
theorem d_X_step_128 : decode b_X_step 128 = .ok (.if_icmp .lt 23, 3) := by decide +kernel
theorem d_X_step_131 : decode b_X_step 131 = .ok (.aload_n 0, 1) := by decide +kernel
theorem d_X_step_132 : decode b_X_step 132 = .ok (.aload_n 0, 1) := by decide +kernel
theorem d_X_step_133 : decode b_X_step 133 = .ok (.getfield 48, 3) := by decide +kernel
theorem d_X_step_136 : decode b_X_step 136 = .ok (.iconst 1, 1) := by decide +kernel
theorem d_X_step_137 : decode b_X_step 137 = .ok (.iadd, 1) := by decide +kernel
theorem d_X_step_138 : decode b_X_step 138 = .ok (.bipush 60, 2) := by decide +kernel
theorem d_X_step_140 : decode b_X_step 140 = .ok (.invokestatic 196, 3) := by decide +kernel
theorem d_X_step_143 : decode b_X_step 143 = .ok (.putfield 48, 3) := by decide +kernel
theorem d_X_step_146 : decode b_X_step 146 = .ok (.aload_n 0, 1) := by decide +kernel
theorem d_X_step_147 : decode b_X_step 147 = .ok (.iconst 0, 1) := by decide +kernel
theorem d_X_step_148 : decode b_X_step 148 = .ok (.putfield 52, 3) := by decide +kernel
theorem d_X_step_151 : decode b_X_step 151 = .ok (.iconst 1, 1) := by decide +kernel
theorem d_X_step_152 : decode b_X_step 152 = .ok (.ireturn, 1) := by decide +kernel
theorem d_X_kept_0 : decode b_X_kept 0 = .ok (.iload_n 1, 1) := by decide +kernel
theorem d_X_kept_1 : decode b_X_kept 1 = .ok (.invokestatic 58, 3) := by decide +kernel
theorem d_X_kept_4 : decode b_X_kept 4 = .ok (.ifCond .eq 19, 3) := by decide +kernel
theorem d_X_kept_7 : decode b_X_kept 7 = .ok (.iload_n 2, 1) := by decide +kernel
theorem d_X_kept_8 : decode b_X_kept 8 = .ok (.invokestatic 58, 3) := by decide +kernel
theorem d_X_kept_11 : decode b_X_kept 11 = .ok (.ifCond .eq 12, 3) := by decide +kernel
theorem d_X_kept_14 : decode b_X_kept 14 = .ok (.iload_n 3, 1) := by decide +kernel
theorem d_X_kept_15 : decode b_X_kept 15 = .ok (.ifCond .lt 8, 3) := by decide +kernel
theorem d_X_kept_18 : decode b_X_kept 18 = .ok (.iload_n 3, 1) := by decide +kernel
theorem d_X_kept_19 : decode b_X_kept 19 = .ok (.iconst 5, 1) := by decide +kernel
theorem d_X_kept_20 : decode b_X_kept 20 = .ok (.if_icmp .lt 6, 3) := by decide +kernel
theorem d_X_kept_23 : decode b_X_kept 23 = .ok (.bipush (-2), 2) := by decide +kernel
theorem d_X_kept_25 : decode b_X_kept 25 = .ok (.ireturn, 1) := by decide +kernel
theorem d_X_kept_26 : decode b_X_kept 26 = .ok (.aload_n 0, 1) := by decide +kernel
theorem d_X_kept_27 : decode b_X_kept 27 = .ok (.getfield 12, 3) := by decide +kernel
theorem d_X_kept_30 : decode b_X_kept 30 = .ok (.iload_n 1, 1) := by decide +kernel
theorem d_X_kept_31 : decode b_X_kept 31 = .ok (.aaload, 1) := by decide +kernel
theorem d_X_kept_32 : decode b_X_kept 32 = .ok (.getfield 203, 3) := by decide +kernel
theorem d_X_kept_35 : decode b_X_kept 35 = .ok (.bipush 11, 2) := by decide +kernel
theorem d_X_kept_37 : decode b_X_kept 37 = .ok (.if_icmp .le 6, 3) := by decide +kernel
theorem d_X_kept_40 : decode b_X_kept 40 = .ok (.bipush (-2), 2) := by decide +kernel
theorem d_X_kept_42 : decode b_X_kept 42 = .ok (.ireturn, 1) := by decide +kernel
theorem d_X_kept_43 : decode b_X_kept 43 = .ok (.aload_n 0, 1) := by decide +kernel
theorem d_X_kept_44 : decode b_X_kept 44 = .ok (.getfield 40, 3) := by decide +kernel
theorem d_X_kept_47 : decode b_X_kept 47 = .ok (.getfield 137, 3) := by decide +kernel
theorem d_X_kept_50 : decode b_X_kept 50 = .ok (.istore 4, 2) := by decide +kernel
theorem d_X_kept_52 : decode b_X_kept 52 = .ok (.iconst 2, 1) := by decide +kernel
theorem d_X_kept_53 : decode b_X_kept 53 = .ok (.aload_n 0, 1) := by decide +kernel
theorem d_X_kept_54 : decode b_X_kept 54 = .ok (.getfield 12, 3) := by decide +kernel
theorem d_X_kept_57 : decode b_X_kept 57 = .ok (.iload_n 1, 1) := by decide +kernel
theorem d_X_kept_58 : decode b_X_kept 58 = .ok (.aaload, 1) := by decide +kernel
theorem d_X_kept_59 : decode b_X_kept 59 = .ok (.getfield 203, 3) := by decide +kernel
theorem d_X_kept_62 : decode b_X_kept 62 = .ok (.ishl, 1) := by decide +kernel
theorem d_X_kept_63 : decode b_X_kept 63 = .ok (.istore 5, 2) := by decide +kernel
theorem d_X_kept_65 : decode b_X_kept 65 = .ok (.iconst 0, 1) := by decide +kernel
theorem d_X_kept_66 : decode b_X_kept 66 = .ok (.istore 6, 2) := by decide +kernel
theorem d_X_kept_68 : decode b_X_kept 68 = .ok (.iconst 0, 1) := by decide +kernel
theorem d_X_kept_69 : decode b_X_kept 69 = .ok (.istore 7, 2) := by decide +kernel
theorem d_X_kept_71 : decode b_X_kept 71 = .ok (.iload 7, 2) := by decide +kernel
theorem d_X_kept_73 : decode b_X_kept 73 = .ok (.iload 5, 2) := by decide +kernel
theorem d_X_kept_75 : decode b_X_kept 75 = .ok (.if_icmp .ge 34, 3) := by decide +kernel
theorem d_X_kept_78 : decode b_X_kept 78 = .ok (.aload_n 0, 1) := by decide +kernel
theorem d_X_kept_79 : decode b_X_kept 79 = .ok (.aload_n 0, 1) := by decide +kernel
theorem d_X_kept_80 : decode b_X_kept 80 = .ok (.getfield 12, 3) := by decide +kernel
theorem d_X_kept_83 : decode b_X_kept 83 = .ok (.iload_n 1, 1) := by decide +kernel
theorem d_X_kept_84 : decode b_X_kept 84 = .ok (.aaload, 1) := by decide +kernel
theorem d_X_kept_85 : decode b_X_kept 85 = .ok (.iload 7, 2) := by decide +kernel
theorem d_X_kept_87 : decode b_X_kept 87 = .ok (.aload_n 0, 1) := by decide +kernel
theorem d_X_kept_88 : decode b_X_kept 88 = .ok (.getfield 12, 3) := by decide +kernel
theorem d_X_kept_91 : decode b_X_kept 91 = .ok (.iload_n 2, 1) := by decide +kernel
theorem d_X_kept_92 : decode b_X_kept 92 = .ok (.aaload, 1) := by decide +kernel
theorem d_X_kept_93 : decode b_X_kept 93 = .ok (.iload_n 3, 1) := by decide +kernel
theorem d_X_kept_94 : decode b_X_kept 94 = .ok (.invokevirtual 206, 3) := by decide +kernel
theorem d_X_kept_97 : decode b_X_kept 97 = .ok (.ifCond .eq 6, 3) := by decide +kernel
theorem d_X_kept_100 : decode b_X_kept 100 = .ok (.iinc 6 1, 3) := by decide +kernel
theorem d_X_kept_103 : decode b_X_kept 103 = .ok (.iinc 7 1, 3) := by decide +kernel
theorem d_X_kept_106 : decode b_X_kept 106 = .ok (.goto (-35), 3) := by decide +kernel
theorem d_X_kept_109 : decode b_X_kept 109 = .ok (.aload_n 0, 1) := by decide +kernel
theorem d_X_kept_110 : decode b_X_kept 110 = .ok (.getfield 40, 3) := by decide +kernel
theorem d_X_kept_113 : decode b_X_kept 113 = .ok (.iload 4, 2) := by decide +kernel
theorem d_X_kept_115 : decode b_X_kept 115 = .ok (.putfield 137, 3) := by decide +kernel
theorem d_X_kept_118 : decode b_X_kept 118 = .ok (.iload 6, 2) := by decide +kernel
theorem d_X_kept_120 : decode b_X_kept 120 = .ok (.ireturn, 1) := by decide +kernel
theorem d_X_isFormat_0 : decode b_X_isFormat 0 = .ok (.iload_n 0, 1) := by decide +kernel
theorem d_X_isFormat_1 : decode b_X_isFormat 1 = .ok (.ifCond .lt 12, 3) := by decide +kernel
theorem d_X_isFormat_4 : decode b_X_isFormat 4 = .ok (.iload_n 0, 1) := by decide +kernel
theorem d_X_isFormat_5 : decode b_X_isFormat 5 = .ok (.iconst 4, 1) := by decide +kernel
theorem d_X_isFormat_6 : decode b_X_isFormat 6 = .ok (.if_icmp .ge 7, 3) := by decide +kernel
theorem d_X_isFormat_9 : decode b_X_isFormat 9 = .ok (.iconst 1, 1) := by decide +kernel
theorem d_X_isFormat_10 : decode b_X_isFormat 10 = .ok (.goto 4, 3) := by decide +kernel
theorem d_X_isFormat_13 : decode b_X_isFormat 13 = .ok (.iconst 0, 1) := by decide +kernel
theorem d_X_isFormat_14 : decode b_X_isFormat 14 = .ok (.ireturn, 1) := by decide +kernel
theorem d_X_isRow_0 : decode b_X_isRow 0 = .ok (.iload_n 0, 1) := by decide +kernel
theorem d_X_isRow_1 : decode b_X_isRow 1 = .ok (.ifCond .lt 12, 3) := by decide +kernel
theorem d_X_isRow_4 : decode b_X_isRow 4 = .ok (.iload_n 0, 1) := by decide +kernel
theorem d_X_isRow_5 : decode b_X_isRow 5 = .ok (.iconst 2, 1) := by decide +kernel
theorem d_X_isRow_6 : decode b_X_isRow 6 = .ok (.if_icmp .ge 7, 3) := by decide +kernel
theorem d_X_isRow_9 : decode b_X_isRow 9 = .ok (.iconst 1, 1) := by decide +kernel
theorem d_X_isRow_10 : decode b_X_isRow 10 = .ok (.goto 4, 3) := by decide +kernel
theorem d_X_isRow_13 : decode b_X_isRow 13 = .ok (.iconst 0, 1) := by decide +kernel
theorem d_X_isRow_14 : decode b_X_isRow 14 = .ok (.ireturn, 1) := by decide +kernel
theorem d_X_isWay_0 : decode b_X_isWay 0 = .ok (.iload_n 0, 1) := by decide +kernel
theorem d_X_isWay_1 : decode b_X_isWay 1 = .ok (.ifCond .lt 12, 3) := by decide +kernel
theorem d_X_isWay_4 : decode b_X_isWay 4 = .ok (.iload_n 0, 1) := by decide +kernel
theorem d_X_isWay_5 : decode b_X_isWay 5 = .ok (.iconst 5, 1) := by decide +kernel
theorem d_X_isWay_6 : decode b_X_isWay 6 = .ok (.if_icmp .gt 7, 3) := by decide +kernel
theorem d_X_isWay_9 : decode b_X_isWay 9 = .ok (.iconst 1, 1) := by decide +kernel
theorem d_X_isWay_10 : decode b_X_isWay 10 = .ok (.goto 4, 3) := by decide +kernel
theorem d_X_isWay_13 : decode b_X_isWay 13 = .ok (.iconst 0, 1) := by decide +kernel
theorem d_X_isWay_14 : decode b_X_isWay 14 = .ok (.ireturn, 1) := by decide +kernel
theorem d_X_isPattern_0 : decode b_X_isPattern 0 = .ok (.iload_n 1, 1) := by decide +kernel
theorem d_X_isPattern_1 : decode b_X_isPattern 1 = .ok (.invokestatic 58, 3) := by decide +kernel
theorem d_X_isPattern_4 : decode b_X_isPattern 4 = .ok (.ifCond .eq 20, 3) := by decide +kernel
theorem d_X_isPattern_7 : decode b_X_isPattern 7 = .ok (.aload_n 0, 1) := by decide +kernel
theorem d_X_isPattern_8 : decode b_X_isPattern 8 = .ok (.getfield 12, 3) := by decide +kernel
theorem d_X_isPattern_11 : decode b_X_isPattern 11 = .ok (.iload_n 1, 1) := by decide +kernel
theorem d_X_isPattern_12 : decode b_X_isPattern 12 = .ok (.aaload, 1) := by decide +kernel
theorem d_X_isPattern_13 : decode b_X_isPattern 13 = .ok (.iload_n 2, 1) := by decide +kernel
theorem d_X_isPattern_14 : decode b_X_isPattern 14 = .ok (.invokevirtual 210, 3) := by decide +kernel
theorem d_X_isPattern_17 : decode b_X_isPattern 17 = .ok (.ifCond .eq 7, 3) := by decide +kernel
theorem d_X_isPattern_20 : decode b_X_isPattern 20 = .ok (.iconst 1, 1) := by decide +kernel
theorem d_X_isPattern_21 : decode b_X_isPattern 21 = .ok (.goto 4, 3) := by decide +kernel
theorem d_X_isPattern_24 : decode b_X_isPattern 24 = .ok (.iconst 0, 1) := by decide +kernel
theorem d_X_isPattern_25 : decode b_X_isPattern 25 = .ok (.ireturn, 1) := by decide +kernel
theorem d_X_rowOf_0 : decode b_X_rowOf 0 = .ok (.iload_n 1, 1) := by decide +kernel
theorem d_X_rowOf_1 : decode b_X_rowOf 1 = .ok (.ifCond .ne 10, 3) := by decide +kernel
theorem d_X_rowOf_4 : decode b_X_rowOf 4 = .ok (.aload_n 0, 1) := by decide +kernel
theorem d_X_rowOf_5 : decode b_X_rowOf 5 = .ok (.getfield 23, 3) := by decide +kernel
theorem d_X_rowOf_8 : decode b_X_rowOf 8 = .ok (.goto 7, 3) := by decide +kernel
theorem d_X_rowOf_11 : decode b_X_rowOf 11 = .ok (.aload_n 0, 1) := by decide +kernel
theorem d_X_rowOf_12 : decode b_X_rowOf 12 = .ok (.getfield 27, 3) := by decide +kernel
theorem d_X_rowOf_15 : decode b_X_rowOf 15 = .ok (.areturn, 1) := by decide +kernel
theorem d_X_bits_0 : decode b_X_bits 0 = .ok (.iload_n 0, 1) := by decide +kernel
theorem d_X_bits_1 : decode b_X_bits 1 = .ok (.i2l, 1) := by decide +kernel
theorem d_X_bits_2 : decode b_X_bits 2 = .ok (.ldc2_w 213, 3) := by decide +kernel
theorem d_X_bits_5 : decode b_X_bits 5 = .ok (.land, 1) := by decide +kernel
theorem d_X_bits_6 : decode b_X_bits 6 = .ok (.lreturn, 1) := by decide +kernel
theorem d_X_plus_0 : decode b_X_plus 0 = .ok (.aload_n 0, 1) := by decide +kernel
theorem d_X_plus_1 : decode b_X_plus 1 = .ok (.getfield 33, 3) := by decide +kernel
theorem d_X_plus_4 : decode b_X_plus 4 = .ok (.invokevirtual 114, 3) := by decide +kernel
theorem d_X_plus_7 : decode b_X_plus 7 = .ok (.aload_n 0, 1) := by decide +kernel
theorem d_X_plus_8 : decode b_X_plus 8 = .ok (.getfield 33, 3) := by decide +kernel
theorem d_X_plus_11 : decode b_X_plus 11 = .ok (.aload_n 1, 1) := by decide +kernel
theorem d_X_plus_12 : decode b_X_plus 12 = .ok (.iload_n 2, 1) := by decide +kernel
theorem d_X_plus_13 : decode b_X_plus 13 = .ok (.iconst 0, 1) := by decide +kernel
theorem d_X_plus_14 : decode b_X_plus 14 = .ok (.invokevirtual 121, 3) := by decide +kernel
theorem d_X_plus_17 : decode b_X_plus 17 = .ok (.aload_n 0, 1) := by decide +kernel
theorem d_X_plus_18 : decode b_X_plus 18 = .ok (.getfield 33, 3) := by decide +kernel
theorem d_X_plus_21 : decode b_X_plus 21 = .ok (.aload_n 3, 1) := by decide +kernel
theorem d_X_plus_22 : decode b_X_plus 22 = .ok (.iload 4, 2) := by decide +kernel
theorem d_X_plus_24 : decode b_X_plus 24 = .ok (.iconst 0, 1) := by decide +kernel
theorem d_X_plus_25 : decode b_X_plus 25 = .ok (.invokevirtual 121, 3) := by decide +kernel
theorem d_X_plus_28 : decode b_X_plus 28 = .ok (.aload_n 0, 1) := by decide +kernel
theorem d_X_plus_29 : decode b_X_plus 29 = .ok (.getfield 40, 3) := by decide +kernel
theorem d_X_plus_32 : decode b_X_plus 32 = .ok (.aload_n 0, 1) := by decide +kernel
theorem d_X_plus_33 : decode b_X_plus 33 = .ok (.getfield 33, 3) := by decide +kernel
theorem d_X_plus_36 : decode b_X_plus 36 = .ok (.aload_n 3, 1) := by decide +kernel
theorem d_X_plus_37 : decode b_X_plus 37 = .ok (.iload 5, 2) := by decide +kernel
theorem d_X_plus_39 : decode b_X_plus 39 = .ok (.invokevirtual 125, 3) := by decide +kernel
theorem d_X_plus_42 : decode b_X_plus 42 = .ok (.ireturn, 1) := by decide +kernel
theorem d_X_sumFromLeft_0 : decode b_X_sumFromLeft 0 = .ok (.aload_n 1, 1) := by decide +kernel
theorem d_X_sumFromLeft_1 : decode b_X_sumFromLeft 1 = .ok (.getfield 152, 3) := by decide +kernel
theorem d_X_sumFromLeft_4 : decode b_X_sumFromLeft 4 = .ok (.ifCond .ne 5, 3) := by decide +kernel
theorem d_X_sumFromLeft_7 : decode b_X_sumFromLeft 7 = .ok (.iconst 0, 1) := by decide +kernel
theorem d_X_sumFromLeft_8 : decode b_X_sumFromLeft 8 = .ok (.ireturn, 1) := by decide +kernel
theorem d_X_sumFromLeft_9 : decode b_X_sumFromLeft 9 = .ok (.aload_n 0, 1) := by decide +kernel
theorem d_X_sumFromLeft_10 : decode b_X_sumFromLeft 10 = .ok (.getfield 12, 3) := by decide +kernel
theorem d_X_sumFromLeft_13 : decode b_X_sumFromLeft 13 = .ok (.aload_n 1, 1) := by decide +kernel
theorem d_X_sumFromLeft_14 : decode b_X_sumFromLeft 14 = .ok (.getfield 155, 3) := by decide +kernel
theorem d_X_sumFromLeft_17 : decode b_X_sumFromLeft 17 = .ok (.aaload, 1) := by decide +kernel
theorem d_X_sumFromLeft_18 : decode b_X_sumFromLeft 18 = .ok (.astore 4, 2) := by decide +kernel
theorem d_X_sumFromLeft_20 : decode b_X_sumFromLeft 20 = .ok (.aload_n 0, 1) := by decide +kernel
theorem d_X_sumFromLeft_21 : decode b_X_sumFromLeft 21 = .ok (.getfield 40, 3) := by decide +kernel
theorem d_X_sumFromLeft_24 : decode b_X_sumFromLeft 24 = .ok (.aload 4, 2) := by decide +kernel
theorem d_X_sumFromLeft_26 : decode b_X_sumFromLeft 26 = .ok (.aload_n 1, 1) := by decide +kernel
theorem d_X_sumFromLeft_27 : decode b_X_sumFromLeft 27 = .ok (.getfield 158, 3) := by decide +kernel
theorem d_X_sumFromLeft_30 : decode b_X_sumFromLeft 30 = .ok (.iconst 0, 1) := by decide +kernel
theorem d_X_sumFromLeft_31 : decode b_X_sumFromLeft 31 = .ok (.iaload, 1) := by decide +kernel
theorem d_X_sumFromLeft_32 : decode b_X_sumFromLeft 32 = .ok (.iconst 0, 1) := by decide +kernel
theorem d_X_sumFromLeft_33 : decode b_X_sumFromLeft 33 = .ok (.aload_n 2, 1) := by decide +kernel
theorem d_X_sumFromLeft_34 : decode b_X_sumFromLeft 34 = .ok (.iload_n 3, 1) := by decide +kernel
theorem d_X_sumFromLeft_35 : decode b_X_sumFromLeft 35 = .ok (.invokevirtual 107, 3) := by decide +kernel
theorem d_X_sumFromLeft_38 : decode b_X_sumFromLeft 38 = .ok (.istore 5, 2) := by decide +kernel
theorem d_X_sumFromLeft_40 : decode b_X_sumFromLeft 40 = .ok (.iconst 1, 1) := by decide +kernel
theorem d_X_sumFromLeft_41 : decode b_X_sumFromLeft 41 = .ok (.istore 6, 2) := by decide +kernel
theorem d_X_sumFromLeft_43 : decode b_X_sumFromLeft 43 = .ok (.iload 6, 2) := by decide +kernel
theorem d_X_sumFromLeft_45 : decode b_X_sumFromLeft 45 = .ok (.aload_n 1, 1) := by decide +kernel
theorem d_X_sumFromLeft_46 : decode b_X_sumFromLeft 46 = .ok (.getfield 152, 3) := by decide +kernel
theorem d_X_sumFromLeft_49 : decode b_X_sumFromLeft 49 = .ok (.if_icmp .ge 28, 3) := by decide +kernel
theorem d_X_sumFromLeft_52 : decode b_X_sumFromLeft 52 = .ok (.aload_n 0, 1) := by decide +kernel
theorem d_X_sumFromLeft_53 : decode b_X_sumFromLeft 53 = .ok (.aload 4, 2) := by decide +kernel
theorem d_X_sumFromLeft_55 : decode b_X_sumFromLeft 55 = .ok (.aload_n 1, 1) := by decide +kernel
theorem d_X_sumFromLeft_56 : decode b_X_sumFromLeft 56 = .ok (.getfield 158, 3) := by decide +kernel
theorem d_X_sumFromLeft_59 : decode b_X_sumFromLeft 59 = .ok (.iload 6, 2) := by decide +kernel
theorem d_X_sumFromLeft_61 : decode b_X_sumFromLeft 61 = .ok (.iaload, 1) := by decide +kernel
theorem d_X_sumFromLeft_62 : decode b_X_sumFromLeft 62 = .ok (.aload_n 2, 1) := by decide +kernel
theorem d_X_sumFromLeft_63 : decode b_X_sumFromLeft 63 = .ok (.iload 5, 2) := by decide +kernel
theorem d_X_sumFromLeft_65 : decode b_X_sumFromLeft 65 = .ok (.iload_n 3, 1) := by decide +kernel
theorem d_X_sumFromLeft_66 : decode b_X_sumFromLeft 66 = .ok (.invokevirtual 215, 3) := by decide +kernel
theorem d_X_sumFromLeft_69 : decode b_X_sumFromLeft 69 = .ok (.istore 5, 2) := by decide +kernel
theorem d_X_sumFromLeft_71 : decode b_X_sumFromLeft 71 = .ok (.iinc 6 1, 3) := by decide +kernel
theorem d_X_sumFromLeft_74 : decode b_X_sumFromLeft 74 = .ok (.goto (-31), 3) := by decide +kernel
theorem d_X_sumFromLeft_77 : decode b_X_sumFromLeft 77 = .ok (.iload 5, 2) := by decide +kernel
theorem d_X_sumFromLeft_79 : decode b_X_sumFromLeft 79 = .ok (.ireturn, 1) := by decide +kernel
theorem d_X_sumAsTree_0 : decode b_X_sumAsTree 0 = .ok (.aload_n 1, 1) := by decide +kernel
theorem d_X_sumAsTree_1 : decode b_X_sumAsTree 1 = .ok (.getfield 152, 3) := by decide +kernel
theorem d_X_sumAsTree_4 : decode b_X_sumAsTree 4 = .ok (.ifCond .ne 5, 3) := by decide +kernel
theorem d_X_sumAsTree_7 : decode b_X_sumAsTree 7 = .ok (.iconst 0, 1) := by decide +kernel
theorem d_X_sumAsTree_8 : decode b_X_sumAsTree 8 = .ok (.ireturn, 1) := by decide +kernel
theorem d_X_sumAsTree_9 : decode b_X_sumAsTree 9 = .ok (.iconst 0, 1) := by decide +kernel
theorem d_X_sumAsTree_10 : decode b_X_sumAsTree 10 = .ok (.istore 4, 2) := by decide +kernel
theorem d_X_sumAsTree_12 : decode b_X_sumAsTree 12 = .ok (.iload 4, 2) := by decide +kernel
theorem d_X_sumAsTree_14 : decode b_X_sumAsTree 14 = .ok (.aload_n 1, 1) := by decide +kernel
theorem d_X_sumAsTree_15 : decode b_X_sumAsTree 15 = .ok (.getfield 152, 3) := by decide +kernel
theorem d_X_sumAsTree_18 : decode b_X_sumAsTree 18 = .ok (.if_icmp .ge 42, 3) := by decide +kernel
theorem d_X_sumAsTree_21 : decode b_X_sumAsTree 21 = .ok (.aload_n 0, 1) := by decide +kernel
theorem d_X_sumAsTree_22 : decode b_X_sumAsTree 22 = .ok (.getfield 44, 3) := by decide +kernel
theorem d_X_sumAsTree_25 : decode b_X_sumAsTree 25 = .ok (.iload 4, 2) := by decide +kernel
theorem d_X_sumAsTree_27 : decode b_X_sumAsTree 27 = .ok (.aload_n 0, 1) := by decide +kernel
theorem d_X_sumAsTree_28 : decode b_X_sumAsTree 28 = .ok (.getfield 40, 3) := by decide +kernel
theorem d_X_sumAsTree_31 : decode b_X_sumAsTree 31 = .ok (.aload_n 0, 1) := by decide +kernel
theorem d_X_sumAsTree_32 : decode b_X_sumAsTree 32 = .ok (.getfield 12, 3) := by decide +kernel
theorem d_X_sumAsTree_35 : decode b_X_sumAsTree 35 = .ok (.aload_n 1, 1) := by decide +kernel
theorem d_X_sumAsTree_36 : decode b_X_sumAsTree 36 = .ok (.getfield 155, 3) := by decide +kernel
theorem d_X_sumAsTree_39 : decode b_X_sumAsTree 39 = .ok (.aaload, 1) := by decide +kernel
theorem d_X_sumAsTree_40 : decode b_X_sumAsTree 40 = .ok (.aload_n 1, 1) := by decide +kernel
theorem d_X_sumAsTree_41 : decode b_X_sumAsTree 41 = .ok (.getfield 158, 3) := by decide +kernel
theorem d_X_sumAsTree_44 : decode b_X_sumAsTree 44 = .ok (.iload 4, 2) := by decide +kernel
theorem d_X_sumAsTree_46 : decode b_X_sumAsTree 46 = .ok (.iaload, 1) := by decide +kernel
theorem d_X_sumAsTree_47 : decode b_X_sumAsTree 47 = .ok (.iconst 0, 1) := by decide +kernel
theorem d_X_sumAsTree_48 : decode b_X_sumAsTree 48 = .ok (.aload_n 2, 1) := by decide +kernel
theorem d_X_sumAsTree_49 : decode b_X_sumAsTree 49 = .ok (.iload_n 3, 1) := by decide +kernel
theorem d_X_sumAsTree_50 : decode b_X_sumAsTree 50 = .ok (.invokevirtual 107, 3) := by decide +kernel
theorem d_X_sumAsTree_53 : decode b_X_sumAsTree 53 = .ok (.iastore, 1) := by decide +kernel
theorem d_X_sumAsTree_54 : decode b_X_sumAsTree 54 = .ok (.iinc 4 1, 3) := by decide +kernel
theorem d_X_sumAsTree_57 : decode b_X_sumAsTree 57 = .ok (.goto (-45), 3) := by decide +kernel
theorem d_X_sumAsTree_60 : decode b_X_sumAsTree 60 = .ok (.aload_n 1, 1) := by decide +kernel
theorem d_X_sumAsTree_61 : decode b_X_sumAsTree 61 = .ok (.getfield 152, 3) := by decide +kernel
theorem d_X_sumAsTree_64 : decode b_X_sumAsTree 64 = .ok (.istore 4, 2) := by decide +kernel
theorem d_X_sumAsTree_66 : decode b_X_sumAsTree 66 = .ok (.iload 4, 2) := by decide +kernel
theorem d_X_sumAsTree_68 : decode b_X_sumAsTree 68 = .ok (.iconst 1, 1) := by decide +kernel
theorem d_X_sumAsTree_69 : decode b_X_sumAsTree 69 = .ok (.if_icmp .le 22, 3) := by decide +kernel
theorem d_X_sumAsTree_72 : decode b_X_sumAsTree 72 = .ok (.aload_n 0, 1) := by decide +kernel
theorem d_X_sumAsTree_73 : decode b_X_sumAsTree 73 = .ok (.iload 4, 2) := by decide +kernel
theorem d_X_sumAsTree_75 : decode b_X_sumAsTree 75 = .ok (.aload_n 2, 1) := by decide +kernel
theorem d_X_sumAsTree_76 : decode b_X_sumAsTree 76 = .ok (.iload_n 3, 1) := by decide +kernel
theorem d_X_sumAsTree_77 : decode b_X_sumAsTree 77 = .ok (.invokevirtual 219, 3) := by decide +kernel
theorem d_X_sumAsTree_80 : decode b_X_sumAsTree 80 = .ok (.iload 4, 2) := by decide +kernel
theorem d_X_sumAsTree_82 : decode b_X_sumAsTree 82 = .ok (.iconst 1, 1) := by decide +kernel
theorem d_X_sumAsTree_83 : decode b_X_sumAsTree 83 = .ok (.iadd, 1) := by decide +kernel
theorem d_X_sumAsTree_84 : decode b_X_sumAsTree 84 = .ok (.iconst 2, 1) := by decide +kernel
theorem d_X_sumAsTree_85 : decode b_X_sumAsTree 85 = .ok (.idiv, 1) := by decide +kernel
theorem d_X_sumAsTree_86 : decode b_X_sumAsTree 86 = .ok (.istore 4, 2) := by decide +kernel
theorem d_X_sumAsTree_88 : decode b_X_sumAsTree 88 = .ok (.goto (-22), 3) := by decide +kernel
theorem d_X_sumAsTree_91 : decode b_X_sumAsTree 91 = .ok (.aload_n 0, 1) := by decide +kernel
theorem d_X_sumAsTree_92 : decode b_X_sumAsTree 92 = .ok (.getfield 44, 3) := by decide +kernel
theorem d_X_sumAsTree_95 : decode b_X_sumAsTree 95 = .ok (.iconst 0, 1) := by decide +kernel
theorem d_X_sumAsTree_96 : decode b_X_sumAsTree 96 = .ok (.iaload, 1) := by decide +kernel
theorem d_X_sumAsTree_97 : decode b_X_sumAsTree 97 = .ok (.ireturn, 1) := by decide +kernel
theorem d_X_pairUp_0 : decode b_X_pairUp 0 = .ok (.iconst 0, 1) := by decide +kernel
theorem d_X_pairUp_1 : decode b_X_pairUp 1 = .ok (.istore 4, 2) := by decide +kernel
theorem d_X_pairUp_3 : decode b_X_pairUp 3 = .ok (.iload 4, 2) := by decide +kernel
theorem d_X_pairUp_5 : decode b_X_pairUp 5 = .ok (.iconst 1, 1) := by decide +kernel
theorem d_X_pairUp_6 : decode b_X_pairUp 6 = .ok (.iadd, 1) := by decide +kernel
theorem d_X_pairUp_7 : decode b_X_pairUp 7 = .ok (.iload_n 1, 1) := by decide +kernel
theorem d_X_pairUp_8 : decode b_X_pairUp 8 = .ok (.if_icmp .ge 41, 3) := by decide +kernel
theorem d_X_pairUp_11 : decode b_X_pairUp 11 = .ok (.aload_n 0, 1) := by decide +kernel
theorem d_X_pairUp_12 : decode b_X_pairUp 12 = .ok (.getfield 44, 3) := by decide +kernel
theorem d_X_pairUp_15 : decode b_X_pairUp 15 = .ok (.iload 4, 2) := by decide +kernel
theorem d_X_pairUp_17 : decode b_X_pairUp 17 = .ok (.iconst 2, 1) := by decide +kernel
theorem d_X_pairUp_18 : decode b_X_pairUp 18 = .ok (.idiv, 1) := by decide +kernel
theorem d_X_pairUp_19 : decode b_X_pairUp 19 = .ok (.aload_n 0, 1) := by decide +kernel
theorem d_X_pairUp_20 : decode b_X_pairUp 20 = .ok (.aload_n 2, 1) := by decide +kernel
theorem d_X_pairUp_21 : decode b_X_pairUp 21 = .ok (.aload_n 0, 1) := by decide +kernel
theorem d_X_pairUp_22 : decode b_X_pairUp 22 = .ok (.getfield 44, 3) := by decide +kernel
theorem d_X_pairUp_25 : decode b_X_pairUp 25 = .ok (.iload 4, 2) := by decide +kernel
theorem d_X_pairUp_27 : decode b_X_pairUp 27 = .ok (.iaload, 1) := by decide +kernel
theorem d_X_pairUp_28 : decode b_X_pairUp 28 = .ok (.aload_n 2, 1) := by decide +kernel
theorem d_X_pairUp_29 : decode b_X_pairUp 29 = .ok (.aload_n 0, 1) := by decide +kernel
theorem d_X_pairUp_30 : decode b_X_pairUp 30 = .ok (.getfield 44, 3) := by decide +kernel
theorem d_X_pairUp_33 : decode b_X_pairUp 33 = .ok (.iload 4, 2) := by decide +kernel
theorem d_X_pairUp_35 : decode b_X_pairUp 35 = .ok (.iconst 1, 1) := by decide +kernel
theorem d_X_pairUp_36 : decode b_X_pairUp 36 = .ok (.iadd, 1) := by decide +kernel
theorem d_X_pairUp_37 : decode b_X_pairUp 37 = .ok (.iaload, 1) := by decide +kernel
theorem d_X_pairUp_38 : decode b_X_pairUp 38 = .ok (.iload_n 3, 1) := by decide +kernel
theorem d_X_pairUp_39 : decode b_X_pairUp 39 = .ok (.invokevirtual 215, 3) := by decide +kernel
theorem d_X_pairUp_42 : decode b_X_pairUp 42 = .ok (.iastore, 1) := by decide +kernel
theorem d_X_pairUp_43 : decode b_X_pairUp 43 = .ok (.iinc 4 2, 3) := by decide +kernel
theorem d_X_pairUp_46 : decode b_X_pairUp 46 = .ok (.goto (-43), 3) := by decide +kernel
theorem d_X_pairUp_49 : decode b_X_pairUp 49 = .ok (.iload_n 1, 1) := by decide +kernel
theorem d_X_pairUp_50 : decode b_X_pairUp 50 = .ok (.iconst 2, 1) := by decide +kernel
theorem d_X_pairUp_51 : decode b_X_pairUp 51 = .ok (.irem, 1) := by decide +kernel
theorem d_X_pairUp_52 : decode b_X_pairUp 52 = .ok (.iconst 1, 1) := by decide +kernel
theorem d_X_pairUp_53 : decode b_X_pairUp 53 = .ok (.if_icmp .ne 19, 3) := by decide +kernel
theorem d_X_pairUp_56 : decode b_X_pairUp 56 = .ok (.aload_n 0, 1) := by decide +kernel
theorem d_X_pairUp_57 : decode b_X_pairUp 57 = .ok (.getfield 44, 3) := by decide +kernel
theorem d_X_pairUp_60 : decode b_X_pairUp 60 = .ok (.iload_n 1, 1) := by decide +kernel
theorem d_X_pairUp_61 : decode b_X_pairUp 61 = .ok (.iconst 2, 1) := by decide +kernel
theorem d_X_pairUp_62 : decode b_X_pairUp 62 = .ok (.idiv, 1) := by decide +kernel
theorem d_X_pairUp_63 : decode b_X_pairUp 63 = .ok (.aload_n 0, 1) := by decide +kernel
theorem d_X_pairUp_64 : decode b_X_pairUp 64 = .ok (.getfield 44, 3) := by decide +kernel
theorem d_X_pairUp_67 : decode b_X_pairUp 67 = .ok (.iload_n 1, 1) := by decide +kernel
theorem d_X_pairUp_68 : decode b_X_pairUp 68 = .ok (.iconst 1, 1) := by decide +kernel
theorem d_X_pairUp_69 : decode b_X_pairUp 69 = .ok (.isub, 1) := by decide +kernel
theorem d_X_pairUp_70 : decode b_X_pairUp 70 = .ok (.iaload, 1) := by decide +kernel
theorem d_X_pairUp_71 : decode b_X_pairUp 71 = .ok (.iastore, 1) := by decide +kernel
theorem d_X_pairUp_72 : decode b_X_pairUp 72 = .ok (.return_, 1) := by decide +kernel
theorem d_X_sumAtOnce_0 : decode b_X_sumAtOnce 0 = .ok (.aload_n 0, 1) := by decide +kernel
theorem d_X_sumAtOnce_1 : decode b_X_sumAtOnce 1 = .ok (.getfield 33, 3) := by decide +kernel
theorem d_X_sumAtOnce_4 : decode b_X_sumAtOnce 4 = .ok (.invokevirtual 114, 3) := by decide +kernel
theorem d_X_sumAtOnce_7 : decode b_X_sumAtOnce 7 = .ok (.iconst 0, 1) := by decide +kernel
theorem d_X_sumAtOnce_8 : decode b_X_sumAtOnce 8 = .ok (.istore 4, 2) := by decide +kernel
theorem d_X_sumAtOnce_10 : decode b_X_sumAtOnce 10 = .ok (.iload 4, 2) := by decide +kernel
theorem d_X_sumAtOnce_12 : decode b_X_sumAtOnce 12 = .ok (.aload_n 1, 1) := by decide +kernel
theorem d_X_sumAtOnce_13 : decode b_X_sumAtOnce 13 = .ok (.getfield 152, 3) := by decide +kernel
theorem d_X_sumAtOnce_16 : decode b_X_sumAtOnce 16 = .ok (.if_icmp .ge 33, 3) := by decide +kernel
theorem d_X_sumAtOnce_19 : decode b_X_sumAtOnce 19 = .ok (.aload_n 0, 1) := by decide +kernel
theorem d_X_sumAtOnce_20 : decode b_X_sumAtOnce 20 = .ok (.getfield 33, 3) := by decide +kernel
theorem d_X_sumAtOnce_23 : decode b_X_sumAtOnce 23 = .ok (.aload_n 0, 1) := by decide +kernel
theorem d_X_sumAtOnce_24 : decode b_X_sumAtOnce 24 = .ok (.getfield 12, 3) := by decide +kernel
theorem d_X_sumAtOnce_27 : decode b_X_sumAtOnce 27 = .ok (.aload_n 1, 1) := by decide +kernel
theorem d_X_sumAtOnce_28 : decode b_X_sumAtOnce 28 = .ok (.getfield 155, 3) := by decide +kernel
theorem d_X_sumAtOnce_31 : decode b_X_sumAtOnce 31 = .ok (.aaload, 1) := by decide +kernel
theorem d_X_sumAtOnce_32 : decode b_X_sumAtOnce 32 = .ok (.aload_n 1, 1) := by decide +kernel
theorem d_X_sumAtOnce_33 : decode b_X_sumAtOnce 33 = .ok (.getfield 158, 3) := by decide +kernel
theorem d_X_sumAtOnce_36 : decode b_X_sumAtOnce 36 = .ok (.iload 4, 2) := by decide +kernel
theorem d_X_sumAtOnce_38 : decode b_X_sumAtOnce 38 = .ok (.iaload, 1) := by decide +kernel
theorem d_X_sumAtOnce_39 : decode b_X_sumAtOnce 39 = .ok (.iconst 0, 1) := by decide +kernel
theorem d_X_sumAtOnce_40 : decode b_X_sumAtOnce 40 = .ok (.invokevirtual 121, 3) := by decide +kernel
theorem d_X_sumAtOnce_43 : decode b_X_sumAtOnce 43 = .ok (.iinc 4 1, 3) := by decide +kernel
theorem d_X_sumAtOnce_46 : decode b_X_sumAtOnce 46 = .ok (.goto (-36), 3) := by decide +kernel
theorem d_X_sumAtOnce_49 : decode b_X_sumAtOnce 49 = .ok (.aload_n 0, 1) := by decide +kernel
theorem d_X_sumAtOnce_50 : decode b_X_sumAtOnce 50 = .ok (.getfield 40, 3) := by decide +kernel
theorem d_X_sumAtOnce_53 : decode b_X_sumAtOnce 53 = .ok (.aload_n 0, 1) := by decide +kernel
theorem d_X_sumAtOnce_54 : decode b_X_sumAtOnce 54 = .ok (.getfield 33, 3) := by decide +kernel
theorem d_X_sumAtOnce_57 : decode b_X_sumAtOnce 57 = .ok (.aload_n 2, 1) := by decide +kernel
theorem d_X_sumAtOnce_58 : decode b_X_sumAtOnce 58 = .ok (.iload_n 3, 1) := by decide +kernel
theorem d_X_sumAtOnce_59 : decode b_X_sumAtOnce 59 = .ok (.invokevirtual 125, 3) := by decide +kernel
theorem d_X_sumAtOnce_62 : decode b_X_sumAtOnce 62 = .ok (.ireturn, 1) := by decide +kernel
theorem d_X_productsAtOnce_0 : decode b_X_productsAtOnce 0 = .ok (.aload_n 0, 1) := by decide +kernel
theorem d_X_productsAtOnce_1 : decode b_X_productsAtOnce 1 = .ok (.getfield 23, 3) := by decide +kernel
theorem d_X_productsAtOnce_4 : decode b_X_productsAtOnce 4 = .ok (.getfield 152, 3) := by decide +kernel
theorem d_X_productsAtOnce_7 : decode b_X_productsAtOnce 7 = .ok (.aload_n 0, 1) := by decide +kernel
theorem d_X_productsAtOnce_8 : decode b_X_productsAtOnce 8 = .ok (.getfield 27, 3) := by decide +kernel
theorem d_X_productsAtOnce_11 : decode b_X_productsAtOnce 11 = .ok (.getfield 152, 3) := by decide +kernel
theorem d_X_productsAtOnce_14 : decode b_X_productsAtOnce 14 = .ok (.invokestatic 196, 3) := by decide +kernel
theorem d_X_productsAtOnce_17 : decode b_X_productsAtOnce 17 = .ok (.istore_n 3, 1) := by decide +kernel
theorem d_X_productsAtOnce_18 : decode b_X_productsAtOnce 18 = .ok (.aload_n 0, 1) := by decide +kernel
theorem d_X_productsAtOnce_19 : decode b_X_productsAtOnce 19 = .ok (.getfield 33, 3) := by decide +kernel
theorem d_X_productsAtOnce_22 : decode b_X_productsAtOnce 22 = .ok (.invokevirtual 114, 3) := by decide +kernel
theorem d_X_productsAtOnce_25 : decode b_X_productsAtOnce 25 = .ok (.iconst 0, 1) := by decide +kernel
theorem d_X_productsAtOnce_26 : decode b_X_productsAtOnce 26 = .ok (.istore 4, 2) := by decide +kernel
theorem d_X_productsAtOnce_28 : decode b_X_productsAtOnce 28 = .ok (.iload 4, 2) := by decide +kernel
theorem d_X_productsAtOnce_30 : decode b_X_productsAtOnce 30 = .ok (.iload_n 3, 1) := by decide +kernel
theorem d_X_productsAtOnce_31 : decode b_X_productsAtOnce 31 = .ok (.if_icmp .ge 15, 3) := by decide +kernel
theorem d_X_productsAtOnce_34 : decode b_X_productsAtOnce 34 = .ok (.aload_n 0, 1) := by decide +kernel
theorem d_X_productsAtOnce_35 : decode b_X_productsAtOnce 35 = .ok (.iload 4, 2) := by decide +kernel
theorem d_X_productsAtOnce_37 : decode b_X_productsAtOnce 37 = .ok (.invokevirtual 223, 3) := by decide +kernel
theorem d_X_productsAtOnce_40 : decode b_X_productsAtOnce 40 = .ok (.iinc 4 1, 3) := by decide +kernel
theorem d_X_productsAtOnce_43 : decode b_X_productsAtOnce 43 = .ok (.goto (-15), 3) := by decide +kernel
theorem d_X_productsAtOnce_46 : decode b_X_productsAtOnce 46 = .ok (.aload_n 0, 1) := by decide +kernel
theorem d_X_productsAtOnce_47 : decode b_X_productsAtOnce 47 = .ok (.getfield 40, 3) := by decide +kernel
theorem d_X_productsAtOnce_50 : decode b_X_productsAtOnce 50 = .ok (.aload_n 0, 1) := by decide +kernel
theorem d_X_productsAtOnce_51 : decode b_X_productsAtOnce 51 = .ok (.getfield 33, 3) := by decide +kernel
theorem d_X_productsAtOnce_54 : decode b_X_productsAtOnce 54 = .ok (.aload_n 1, 1) := by decide +kernel
theorem d_X_productsAtOnce_55 : decode b_X_productsAtOnce 55 = .ok (.iload_n 2, 1) := by decide +kernel
theorem d_X_productsAtOnce_56 : decode b_X_productsAtOnce 56 = .ok (.invokevirtual 125, 3) := by decide +kernel
theorem d_X_productsAtOnce_59 : decode b_X_productsAtOnce 59 = .ok (.ireturn, 1) := by decide +kernel
theorem d_X_productsInPieces_0 : decode b_X_productsInPieces 0 = .ok (.aload_n 0, 1) := by decide +kernel
theorem d_X_productsInPieces_1 : decode b_X_productsInPieces 1 = .ok (.getfield 23, 3) := by decide +kernel
theorem d_X_productsInPieces_4 : decode b_X_productsInPieces 4 = .ok (.getfield 152, 3) := by decide +kernel
theorem d_X_productsInPieces_7 : decode b_X_productsInPieces 7 = .ok (.aload_n 0, 1) := by decide +kernel
theorem d_X_productsInPieces_8 : decode b_X_productsInPieces 8 = .ok (.getfield 27, 3) := by decide +kernel
theorem d_X_productsInPieces_11 : decode b_X_productsInPieces 11 = .ok (.getfield 152, 3) := by decide +kernel
theorem d_X_productsInPieces_14 : decode b_X_productsInPieces 14 = .ok (.invokestatic 196, 3) := by decide +kernel
theorem d_X_productsInPieces_17 : decode b_X_productsInPieces 17 = .ok (.istore 5, 2) := by decide +kernel
theorem d_X_productsInPieces_19 : decode b_X_productsInPieces 19 = .ok (.iconst 0, 1) := by decide +kernel
theorem d_X_productsInPieces_20 : decode b_X_productsInPieces 20 = .ok (.istore 6, 2) := by decide +kernel
theorem d_X_productsInPieces_22 : decode b_X_productsInPieces 22 = .ok (.iconst 0, 1) := by decide +kernel
theorem d_X_productsInPieces_23 : decode b_X_productsInPieces 23 = .ok (.istore 7, 2) := by decide +kernel
theorem d_X_productsInPieces_25 : decode b_X_productsInPieces 25 = .ok (.iconst 0, 1) := by decide +kernel
theorem d_X_productsInPieces_26 : decode b_X_productsInPieces 26 = .ok (.istore 8, 2) := by decide +kernel
theorem d_X_productsInPieces_28 : decode b_X_productsInPieces 28 = .ok (.iconst 0, 1) := by decide +kernel
theorem d_X_productsInPieces_29 : decode b_X_productsInPieces 29 = .ok (.istore 9, 2) := by decide +kernel
theorem d_X_productsInPieces_31 : decode b_X_productsInPieces 31 = .ok (.iload 9, 2) := by decide +kernel
theorem d_X_productsInPieces_33 : decode b_X_productsInPieces 33 = .ok (.iload 5, 2) := by decide +kernel
theorem d_X_productsInPieces_35 : decode b_X_productsInPieces 35 = .ok (.if_icmp .ge 87, 3) := by decide +kernel
theorem d_X_productsInPieces_38 : decode b_X_productsInPieces 38 = .ok (.aload_n 0, 1) := by decide +kernel
theorem d_X_productsInPieces_39 : decode b_X_productsInPieces 39 = .ok (.getfield 33, 3) := by decide +kernel
theorem d_X_productsInPieces_42 : decode b_X_productsInPieces 42 = .ok (.invokevirtual 114, 3) := by decide +kernel
theorem d_X_productsInPieces_45 : decode b_X_productsInPieces 45 = .ok (.aload_n 0, 1) := by decide +kernel
theorem d_X_productsInPieces_46 : decode b_X_productsInPieces 46 = .ok (.getfield 33, 3) := by decide +kernel
theorem d_X_productsInPieces_49 : decode b_X_productsInPieces 49 = .ok (.aload_n 2, 1) := by decide +kernel
theorem d_X_productsInPieces_50 : decode b_X_productsInPieces 50 = .ok (.iload 7, 2) := by decide +kernel
theorem d_X_productsInPieces_52 : decode b_X_productsInPieces 52 = .ok (.iconst 0, 1) := by decide +kernel
theorem d_X_productsInPieces_53 : decode b_X_productsInPieces 53 = .ok (.invokevirtual 121, 3) := by decide +kernel
theorem d_X_productsInPieces_56 : decode b_X_productsInPieces 56 = .ok (.aload_n 0, 1) := by decide +kernel
theorem d_X_productsInPieces_57 : decode b_X_productsInPieces 57 = .ok (.iload 9, 2) := by decide +kernel
theorem d_X_productsInPieces_59 : decode b_X_productsInPieces 59 = .ok (.invokevirtual 223, 3) := by decide +kernel
theorem d_X_productsInPieces_62 : decode b_X_productsInPieces 62 = .ok (.aload_n 0, 1) := by decide +kernel
theorem d_X_productsInPieces_63 : decode b_X_productsInPieces 63 = .ok (.getfield 40, 3) := by decide +kernel
theorem d_X_productsInPieces_66 : decode b_X_productsInPieces 66 = .ok (.aload_n 0, 1) := by decide +kernel
theorem d_X_productsInPieces_67 : decode b_X_productsInPieces 67 = .ok (.getfield 33, 3) := by decide +kernel
theorem d_X_productsInPieces_70 : decode b_X_productsInPieces 70 = .ok (.aload_n 2, 1) := by decide +kernel
theorem d_X_productsInPieces_71 : decode b_X_productsInPieces 71 = .ok (.iload 4, 2) := by decide +kernel
theorem d_X_productsInPieces_73 : decode b_X_productsInPieces 73 = .ok (.invokevirtual 125, 3) := by decide +kernel
theorem d_X_productsInPieces_76 : decode b_X_productsInPieces 76 = .ok (.istore 7, 2) := by decide +kernel
theorem d_X_productsInPieces_78 : decode b_X_productsInPieces 78 = .ok (.iinc 8 1, 3) := by decide +kernel
theorem d_X_productsInPieces_81 : decode b_X_productsInPieces 81 = .ok (.iload 8, 2) := by decide +kernel
theorem d_X_productsInPieces_83 : decode b_X_productsInPieces 83 = .ok (.iload_n 1, 1) := by decide +kernel
theorem d_X_productsInPieces_84 : decode b_X_productsInPieces 84 = .ok (.if_icmp .eq 12, 3) := by decide +kernel
theorem d_X_productsInPieces_87 : decode b_X_productsInPieces 87 = .ok (.iload 9, 2) := by decide +kernel
theorem d_X_productsInPieces_89 : decode b_X_productsInPieces 89 = .ok (.iload 5, 2) := by decide +kernel
theorem d_X_productsInPieces_91 : decode b_X_productsInPieces 91 = .ok (.iconst 1, 1) := by decide +kernel
theorem d_X_productsInPieces_92 : decode b_X_productsInPieces 92 = .ok (.isub, 1) := by decide +kernel
theorem d_X_productsInPieces_93 : decode b_X_productsInPieces 93 = .ok (.if_icmp .ne 23, 3) := by decide +kernel
theorem d_X_productsInPieces_96 : decode b_X_productsInPieces 96 = .ok (.aload_n 0, 1) := by decide +kernel
theorem d_X_productsInPieces_97 : decode b_X_productsInPieces 97 = .ok (.aload_n 2, 1) := by decide +kernel
theorem d_X_productsInPieces_98 : decode b_X_productsInPieces 98 = .ok (.iload 7, 2) := by decide +kernel
theorem d_X_productsInPieces_100 : decode b_X_productsInPieces 100 = .ok (.aload_n 3, 1) := by decide +kernel
theorem d_X_productsInPieces_101 : decode b_X_productsInPieces 101 = .ok (.iload 6, 2) := by decide +kernel
theorem d_X_productsInPieces_103 : decode b_X_productsInPieces 103 = .ok (.iload 4, 2) := by decide +kernel
theorem d_X_productsInPieces_105 : decode b_X_productsInPieces 105 = .ok (.invokevirtual 215, 3) := by decide +kernel
theorem d_X_productsInPieces_108 : decode b_X_productsInPieces 108 = .ok (.istore 6, 2) := by decide +kernel
theorem d_X_productsInPieces_110 : decode b_X_productsInPieces 110 = .ok (.iconst 0, 1) := by decide +kernel
theorem d_X_productsInPieces_111 : decode b_X_productsInPieces 111 = .ok (.istore 7, 2) := by decide +kernel
theorem d_X_productsInPieces_113 : decode b_X_productsInPieces 113 = .ok (.iconst 0, 1) := by decide +kernel
theorem d_X_productsInPieces_114 : decode b_X_productsInPieces 114 = .ok (.istore 8, 2) := by decide +kernel
theorem d_X_productsInPieces_116 : decode b_X_productsInPieces 116 = .ok (.iinc 9 1, 3) := by decide +kernel
theorem d_X_productsInPieces_119 : decode b_X_productsInPieces 119 = .ok (.goto (-88), 3) := by decide +kernel
theorem d_X_productsInPieces_122 : decode b_X_productsInPieces 122 = .ok (.iload 6, 2) := by decide +kernel
theorem d_X_productsInPieces_124 : decode b_X_productsInPieces 124 = .ok (.ireturn, 1) := by decide +kernel
theorem d_X_addProductAt_0 : decode b_X_addProductAt 0 = .ok (.aload_n 0, 1) := by decide +kernel
theorem d_X_addProductAt_1 : decode b_X_addProductAt 1 = .ok (.getfield 33, 3) := by decide +kernel
theorem d_X_addProductAt_4 : decode b_X_addProductAt 4 = .ok (.aload_n 0, 1) := by decide +kernel
theorem d_X_addProductAt_5 : decode b_X_addProductAt 5 = .ok (.getfield 12, 3) := by decide +kernel
theorem d_X_addProductAt_8 : decode b_X_addProductAt 8 = .ok (.aload_n 0, 1) := by decide +kernel
theorem d_X_addProductAt_9 : decode b_X_addProductAt 9 = .ok (.getfield 23, 3) := by decide +kernel
theorem d_X_addProductAt_12 : decode b_X_addProductAt 12 = .ok (.getfield 155, 3) := by decide +kernel
theorem d_X_addProductAt_15 : decode b_X_addProductAt 15 = .ok (.aaload, 1) := by decide +kernel
theorem d_X_addProductAt_16 : decode b_X_addProductAt 16 = .ok (.aload_n 0, 1) := by decide +kernel
theorem d_X_addProductAt_17 : decode b_X_addProductAt 17 = .ok (.getfield 23, 3) := by decide +kernel
theorem d_X_addProductAt_20 : decode b_X_addProductAt 20 = .ok (.getfield 158, 3) := by decide +kernel
theorem d_X_addProductAt_23 : decode b_X_addProductAt 23 = .ok (.iload_n 1, 1) := by decide +kernel
theorem d_X_addProductAt_24 : decode b_X_addProductAt 24 = .ok (.iaload, 1) := by decide +kernel
theorem d_X_addProductAt_25 : decode b_X_addProductAt 25 = .ok (.aload_n 0, 1) := by decide +kernel
theorem d_X_addProductAt_26 : decode b_X_addProductAt 26 = .ok (.getfield 12, 3) := by decide +kernel
theorem d_X_addProductAt_29 : decode b_X_addProductAt 29 = .ok (.aload_n 0, 1) := by decide +kernel
theorem d_X_addProductAt_30 : decode b_X_addProductAt 30 = .ok (.getfield 27, 3) := by decide +kernel
theorem d_X_addProductAt_33 : decode b_X_addProductAt 33 = .ok (.getfield 155, 3) := by decide +kernel
theorem d_X_addProductAt_36 : decode b_X_addProductAt 36 = .ok (.aaload, 1) := by decide +kernel
theorem d_X_addProductAt_37 : decode b_X_addProductAt 37 = .ok (.aload_n 0, 1) := by decide +kernel
theorem d_X_addProductAt_38 : decode b_X_addProductAt 38 = .ok (.getfield 27, 3) := by decide +kernel
theorem d_X_addProductAt_41 : decode b_X_addProductAt 41 = .ok (.getfield 158, 3) := by decide +kernel
theorem d_X_addProductAt_44 : decode b_X_addProductAt 44 = .ok (.iload_n 1, 1) := by decide +kernel
theorem d_X_addProductAt_45 : decode b_X_addProductAt 45 = .ok (.iaload, 1) := by decide +kernel
theorem d_X_addProductAt_46 : decode b_X_addProductAt 46 = .ok (.invokevirtual 117, 3) := by decide +kernel
theorem d_X_addProductAt_49 : decode b_X_addProductAt 49 = .ok (.return_, 1) := by decide +kernel
theorem d_X_blockScale_0 : decode b_X_blockScale 0 = .ok (.aload_n 0, 1) := by decide +kernel
theorem d_X_blockScale_1 : decode b_X_blockScale 1 = .ok (.getfield 12, 3) := by decide +kernel
theorem d_X_blockScale_4 : decode b_X_blockScale 4 = .ok (.aload_n 0, 1) := by decide +kernel
theorem d_X_blockScale_5 : decode b_X_blockScale 5 = .ok (.getfield 23, 3) := by decide +kernel
theorem d_X_blockScale_8 : decode b_X_blockScale 8 = .ok (.getfield 155, 3) := by decide +kernel
theorem d_X_blockScale_11 : decode b_X_blockScale 11 = .ok (.aaload, 1) := by decide +kernel
theorem d_X_blockScale_12 : decode b_X_blockScale 12 = .ok (.astore_n 2, 1) := by decide +kernel
theorem d_X_blockScale_13 : decode b_X_blockScale 13 = .ok (.iconst 0, 1) := by decide +kernel
theorem d_X_blockScale_14 : decode b_X_blockScale 14 = .ok (.istore_n 3, 1) := by decide +kernel
theorem d_X_blockScale_15 : decode b_X_blockScale 15 = .ok (.iconst 0, 1) := by decide +kernel
theorem d_X_blockScale_16 : decode b_X_blockScale 16 = .ok (.istore 4, 2) := by decide +kernel
theorem d_X_blockScale_18 : decode b_X_blockScale 18 = .ok (.iload 4, 2) := by decide +kernel
theorem d_X_blockScale_20 : decode b_X_blockScale 20 = .ok (.aload_n 0, 1) := by decide +kernel
theorem d_X_blockScale_21 : decode b_X_blockScale 21 = .ok (.getfield 23, 3) := by decide +kernel
theorem d_X_blockScale_24 : decode b_X_blockScale 24 = .ok (.getfield 152, 3) := by decide +kernel
theorem d_X_blockScale_27 : decode b_X_blockScale 27 = .ok (.if_icmp .ge 42, 3) := by decide +kernel
theorem d_X_blockScale_30 : decode b_X_blockScale 30 = .ok (.aload_n 0, 1) := by decide +kernel
theorem d_X_blockScale_31 : decode b_X_blockScale 31 = .ok (.getfield 23, 3) := by decide +kernel
theorem d_X_blockScale_34 : decode b_X_blockScale 34 = .ok (.getfield 158, 3) := by decide +kernel
theorem d_X_blockScale_37 : decode b_X_blockScale 37 = .ok (.iload 4, 2) := by decide +kernel
theorem d_X_blockScale_39 : decode b_X_blockScale 39 = .ok (.iaload, 1) := by decide +kernel
theorem d_X_blockScale_40 : decode b_X_blockScale 40 = .ok (.istore 5, 2) := by decide +kernel
theorem d_X_blockScale_42 : decode b_X_blockScale 42 = .ok (.aload_n 2, 1) := by decide +kernel
theorem d_X_blockScale_43 : decode b_X_blockScale 43 = .ok (.iload 5, 2) := by decide +kernel
theorem d_X_blockScale_45 : decode b_X_blockScale 45 = .ok (.invokevirtual 88, 3) := by decide +kernel
theorem d_X_blockScale_48 : decode b_X_blockScale 48 = .ok (.iconst 3, 1) := by decide +kernel
theorem d_X_blockScale_49 : decode b_X_blockScale 49 = .ok (.if_icmp .ge 14, 3) := by decide +kernel
theorem d_X_blockScale_52 : decode b_X_blockScale 52 = .ok (.iload_n 3, 1) := by decide +kernel
theorem d_X_blockScale_53 : decode b_X_blockScale 53 = .ok (.aload_n 2, 1) := by decide +kernel
theorem d_X_blockScale_54 : decode b_X_blockScale 54 = .ok (.iload 5, 2) := by decide +kernel
theorem d_X_blockScale_56 : decode b_X_blockScale 56 = .ok (.invokevirtual 226, 3) := by decide +kernel
theorem d_X_blockScale_59 : decode b_X_blockScale 59 = .ok (.invokestatic 190, 3) := by decide +kernel
theorem d_X_blockScale_62 : decode b_X_blockScale 62 = .ok (.istore_n 3, 1) := by decide +kernel
theorem d_X_blockScale_63 : decode b_X_blockScale 63 = .ok (.iinc 4 1, 3) := by decide +kernel
theorem d_X_blockScale_66 : decode b_X_blockScale 66 = .ok (.goto (-48), 3) := by decide +kernel
theorem d_X_blockScale_69 : decode b_X_blockScale 69 = .ok (.iload_n 3, 1) := by decide +kernel
theorem d_X_blockScale_70 : decode b_X_blockScale 70 = .ok (.ifCond .ne 7, 3) := by decide +kernel
theorem d_X_blockScale_73 : decode b_X_blockScale 73 = .ok (.iconst 0, 1) := by decide +kernel
theorem d_X_blockScale_74 : decode b_X_blockScale 74 = .ok (.goto 19, 3) := by decide +kernel
theorem d_X_blockScale_77 : decode b_X_blockScale 77 = .ok (.aload_n 2, 1) := by decide +kernel
theorem d_X_blockScale_78 : decode b_X_blockScale 78 = .ok (.iload_n 3, 1) := by decide +kernel
theorem d_X_blockScale_79 : decode b_X_blockScale 79 = .ok (.invokevirtual 229, 3) := by decide +kernel
theorem d_X_blockScale_82 : decode b_X_blockScale 82 = .ok (.aload_n 1, 1) := by decide +kernel
theorem d_X_blockScale_83 : decode b_X_blockScale 83 = .ok (.aload_n 1, 1) := by decide +kernel
theorem d_X_blockScale_84 : decode b_X_blockScale 84 = .ok (.getfield 77, 3) := by decide +kernel
theorem d_X_blockScale_87 : decode b_X_blockScale 87 = .ok (.iconst 1, 1) := by decide +kernel
theorem d_X_blockScale_88 : decode b_X_blockScale 88 = .ok (.isub, 1) := by decide +kernel
theorem d_X_blockScale_89 : decode b_X_blockScale 89 = .ok (.invokevirtual 229, 3) := by decide +kernel
theorem d_X_blockScale_92 : decode b_X_blockScale 92 = .ok (.isub, 1) := by decide +kernel
theorem d_X_blockScale_93 : decode b_X_blockScale 93 = .ok (.ireturn, 1) := by decide +kernel
theorem d_X_slopesBroke_0 : decode b_X_slopesBroke 0 = .ok (.aload_n 0, 1) := by decide +kernel
theorem d_X_slopesBroke_1 : decode b_X_slopesBroke 1 = .ok (.getfield 12, 3) := by decide +kernel
theorem d_X_slopesBroke_4 : decode b_X_slopesBroke 4 = .ok (.aload_n 0, 1) := by decide +kernel
theorem d_X_slopesBroke_5 : decode b_X_slopesBroke 5 = .ok (.getfield 23, 3) := by decide +kernel
theorem d_X_slopesBroke_8 : decode b_X_slopesBroke 8 = .ok (.getfield 155, 3) := by decide +kernel
theorem d_X_slopesBroke_11 : decode b_X_slopesBroke 11 = .ok (.aaload, 1) := by decide +kernel
theorem d_X_slopesBroke_12 : decode b_X_slopesBroke 12 = .ok (.astore_n 1, 1) := by decide +kernel
theorem d_X_slopesBroke_13 : decode b_X_slopesBroke 13 = .ok (.iconst 0, 1) := by decide +kernel
theorem d_X_slopesBroke_14 : decode b_X_slopesBroke 14 = .ok (.istore_n 2, 1) := by decide +kernel
theorem d_X_slopesBroke_15 : decode b_X_slopesBroke 15 = .ok (.iload_n 2, 1) := by decide +kernel
theorem d_X_slopesBroke_16 : decode b_X_slopesBroke 16 = .ok (.aload_n 0, 1) := by decide +kernel
theorem d_X_slopesBroke_17 : decode b_X_slopesBroke 17 = .ok (.getfield 23, 3) := by decide +kernel
theorem d_X_slopesBroke_20 : decode b_X_slopesBroke 20 = .ok (.getfield 152, 3) := by decide +kernel
theorem d_X_slopesBroke_23 : decode b_X_slopesBroke 23 = .ok (.if_icmp .ge 28, 3) := by decide +kernel
theorem d_X_slopesBroke_26 : decode b_X_slopesBroke 26 = .ok (.aload_n 1, 1) := by decide +kernel
theorem d_X_slopesBroke_27 : decode b_X_slopesBroke 27 = .ok (.aload_n 0, 1) := by decide +kernel
theorem d_X_slopesBroke_28 : decode b_X_slopesBroke 28 = .ok (.getfield 23, 3) := by decide +kernel
theorem d_X_slopesBroke_31 : decode b_X_slopesBroke 31 = .ok (.getfield 158, 3) := by decide +kernel
theorem d_X_slopesBroke_34 : decode b_X_slopesBroke 34 = .ok (.iload_n 2, 1) := by decide +kernel
theorem d_X_slopesBroke_35 : decode b_X_slopesBroke 35 = .ok (.iaload, 1) := by decide +kernel
theorem d_X_slopesBroke_36 : decode b_X_slopesBroke 36 = .ok (.invokevirtual 88, 3) := by decide +kernel
theorem d_X_slopesBroke_39 : decode b_X_slopesBroke 39 = .ok (.iconst 3, 1) := by decide +kernel
theorem d_X_slopesBroke_40 : decode b_X_slopesBroke 40 = .ok (.if_icmp .lt 5, 3) := by decide +kernel
theorem d_X_slopesBroke_43 : decode b_X_slopesBroke 43 = .ok (.iconst 1, 1) := by decide +kernel
theorem d_X_slopesBroke_44 : decode b_X_slopesBroke 44 = .ok (.ireturn, 1) := by decide +kernel
theorem d_X_slopesBroke_45 : decode b_X_slopesBroke 45 = .ok (.iinc 2 1, 3) := by decide +kernel
theorem d_X_slopesBroke_48 : decode b_X_slopesBroke 48 = .ok (.goto (-33), 3) := by decide +kernel
theorem d_X_slopesBroke_51 : decode b_X_slopesBroke 51 = .ok (.iconst 0, 1) := by decide +kernel
theorem d_X_slopesBroke_52 : decode b_X_slopesBroke 52 = .ok (.ireturn, 1) := by decide +kernel
theorem d_X_stepped_0 : decode b_X_stepped 0 = .ok (.aload_n 0, 1) := by decide +kernel
theorem d_X_stepped_1 : decode b_X_stepped 1 = .ok (.getfield 12, 3) := by decide +kernel
theorem d_X_stepped_4 : decode b_X_stepped 4 = .ok (.aload_n 0, 1) := by decide +kernel
theorem d_X_stepped_5 : decode b_X_stepped 5 = .ok (.getfield 27, 3) := by decide +kernel
theorem d_X_stepped_8 : decode b_X_stepped 8 = .ok (.getfield 155, 3) := by decide +kernel
theorem d_X_stepped_11 : decode b_X_stepped 11 = .ok (.aaload, 1) := by decide +kernel
theorem d_X_stepped_12 : decode b_X_stepped 12 = .ok (.astore 4, 2) := by decide +kernel
theorem d_X_stepped_14 : decode b_X_stepped 14 = .ok (.aload_n 0, 1) := by decide +kernel
theorem d_X_stepped_15 : decode b_X_stepped 15 = .ok (.getfield 40, 3) := by decide +kernel
theorem d_X_stepped_18 : decode b_X_stepped 18 = .ok (.aload_n 0, 1) := by decide +kernel
theorem d_X_stepped_19 : decode b_X_stepped 19 = .ok (.getfield 12, 3) := by decide +kernel
theorem d_X_stepped_22 : decode b_X_stepped 22 = .ok (.aload_n 0, 1) := by decide +kernel
theorem d_X_stepped_23 : decode b_X_stepped 23 = .ok (.getfield 23, 3) := by decide +kernel
theorem d_X_stepped_26 : decode b_X_stepped 26 = .ok (.getfield 155, 3) := by decide +kernel
theorem d_X_stepped_29 : decode b_X_stepped 29 = .ok (.aaload, 1) := by decide +kernel
theorem d_X_stepped_30 : decode b_X_stepped 30 = .ok (.iload_n 3, 1) := by decide +kernel
theorem d_X_stepped_31 : decode b_X_stepped 31 = .ok (.aload_n 0, 1) := by decide +kernel
theorem d_X_stepped_32 : decode b_X_stepped 32 = .ok (.getfield 48, 3) := by decide +kernel
theorem d_X_stepped_35 : decode b_X_stepped 35 = .ok (.ineg, 1) := by decide +kernel
theorem d_X_stepped_36 : decode b_X_stepped 36 = .ok (.aload 4, 2) := by decide +kernel
theorem d_X_stepped_38 : decode b_X_stepped 38 = .ok (.iconst 0, 1) := by decide +kernel
theorem d_X_stepped_39 : decode b_X_stepped 39 = .ok (.invokevirtual 107, 3) := by decide +kernel
theorem d_X_stepped_42 : decode b_X_stepped 42 = .ok (.istore 5, 2) := by decide +kernel
theorem d_X_stepped_44 : decode b_X_stepped 44 = .ok (.aload_n 0, 1) := by decide +kernel
theorem d_X_stepped_45 : decode b_X_stepped 45 = .ok (.getfield 33, 3) := by decide +kernel
theorem d_X_stepped_48 : decode b_X_stepped 48 = .ok (.invokevirtual 114, 3) := by decide +kernel
theorem d_X_stepped_51 : decode b_X_stepped 51 = .ok (.aload_n 0, 1) := by decide +kernel
theorem d_X_stepped_52 : decode b_X_stepped 52 = .ok (.getfield 33, 3) := by decide +kernel
theorem d_X_stepped_55 : decode b_X_stepped 55 = .ok (.aload 4, 2) := by decide +kernel
theorem d_X_stepped_57 : decode b_X_stepped 57 = .ok (.aload 4, 2) := by decide +kernel
theorem d_X_stepped_59 : decode b_X_stepped 59 = .ok (.iload_n 2, 1) := by decide +kernel
theorem d_X_stepped_60 : decode b_X_stepped 60 = .ok (.invokevirtual 232, 3) := by decide +kernel
theorem d_X_stepped_63 : decode b_X_stepped 63 = .ok (.aload 4, 2) := by decide +kernel
theorem d_X_stepped_65 : decode b_X_stepped 65 = .ok (.iload 5, 2) := by decide +kernel
theorem d_X_stepped_67 : decode b_X_stepped 67 = .ok (.invokevirtual 117, 3) := by decide +kernel
theorem d_X_stepped_70 : decode b_X_stepped 70 = .ok (.aload_n 0, 1) := by decide +kernel
theorem d_X_stepped_71 : decode b_X_stepped 71 = .ok (.getfield 40, 3) := by decide +kernel
theorem d_X_stepped_74 : decode b_X_stepped 74 = .ok (.aload_n 0, 1) := by decide +kernel
theorem d_X_stepped_75 : decode b_X_stepped 75 = .ok (.getfield 33, 3) := by decide +kernel
theorem d_X_stepped_78 : decode b_X_stepped 78 = .ok (.aload 4, 2) := by decide +kernel
theorem d_X_stepped_80 : decode b_X_stepped 80 = .ok (.iconst 0, 1) := by decide +kernel
theorem d_X_stepped_81 : decode b_X_stepped 81 = .ok (.invokevirtual 125, 3) := by decide +kernel
theorem d_X_stepped_84 : decode b_X_stepped 84 = .ok (.istore 6, 2) := by decide +kernel
theorem d_X_stepped_86 : decode b_X_stepped 86 = .ok (.aload_n 0, 1) := by decide +kernel
theorem d_X_stepped_87 : decode b_X_stepped 87 = .ok (.aload 4, 2) := by decide +kernel
theorem d_X_stepped_89 : decode b_X_stepped 89 = .ok (.iload_n 1, 1) := by decide +kernel
theorem d_X_stepped_90 : decode b_X_stepped 90 = .ok (.aload 4, 2) := by decide +kernel
theorem d_X_stepped_92 : decode b_X_stepped 92 = .ok (.iload 6, 2) := by decide +kernel
theorem d_X_stepped_94 : decode b_X_stepped 94 = .ok (.iconst 0, 1) := by decide +kernel
theorem d_X_stepped_95 : decode b_X_stepped 95 = .ok (.invokevirtual 215, 3) := by decide +kernel
theorem d_X_stepped_98 : decode b_X_stepped 98 = .ok (.ireturn, 1) := by decide +kernel
theorem d_X_comesBack_0 : decode b_X_comesBack 0 = .ok (.aload_n 1, 1) := by decide +kernel
theorem d_X_comesBack_1 : decode b_X_comesBack 1 = .ok (.iload_n 2, 1) := by decide +kernel
theorem d_X_comesBack_2 : decode b_X_comesBack 2 = .ok (.invokevirtual 88, 3) := by decide +kernel
theorem d_X_comesBack_5 : decode b_X_comesBack 5 = .ok (.iconst 4, 1) := by decide +kernel
theorem d_X_comesBack_6 : decode b_X_comesBack 6 = .ok (.if_icmp .ne 5, 3) := by decide +kernel
theorem d_X_comesBack_9 : decode b_X_comesBack 9 = .ok (.iconst 0, 1) := by decide +kernel
theorem d_X_comesBack_10 : decode b_X_comesBack 10 = .ok (.ireturn, 1) := by decide +kernel
theorem d_X_comesBack_11 : decode b_X_comesBack 11 = .ok (.aload_n 0, 1) := by decide +kernel
theorem d_X_comesBack_12 : decode b_X_comesBack 12 = .ok (.getfield 40, 3) := by decide +kernel
theorem d_X_comesBack_15 : decode b_X_comesBack 15 = .ok (.aload_n 3, 1) := by decide +kernel
theorem d_X_comesBack_16 : decode b_X_comesBack 16 = .ok (.aload_n 0, 1) := by decide +kernel
theorem d_X_comesBack_17 : decode b_X_comesBack 17 = .ok (.getfield 40, 3) := by decide +kernel
theorem d_X_comesBack_20 : decode b_X_comesBack 20 = .ok (.aload_n 1, 1) := by decide +kernel
theorem d_X_comesBack_21 : decode b_X_comesBack 21 = .ok (.iload_n 2, 1) := by decide +kernel
theorem d_X_comesBack_22 : decode b_X_comesBack 22 = .ok (.iconst 0, 1) := by decide +kernel
theorem d_X_comesBack_23 : decode b_X_comesBack 23 = .ok (.aload_n 3, 1) := by decide +kernel
theorem d_X_comesBack_24 : decode b_X_comesBack 24 = .ok (.iload 4, 2) := by decide +kernel
theorem d_X_comesBack_26 : decode b_X_comesBack 26 = .ok (.invokevirtual 107, 3) := by decide +kernel
theorem d_X_comesBack_29 : decode b_X_comesBack 29 = .ok (.iconst 0, 1) := by decide +kernel
theorem d_X_comesBack_30 : decode b_X_comesBack 30 = .ok (.aload_n 1, 1) := by decide +kernel
theorem d_X_comesBack_31 : decode b_X_comesBack 31 = .ok (.iload 4, 2) := by decide +kernel
theorem d_X_comesBack_33 : decode b_X_comesBack 33 = .ok (.invokevirtual 107, 3) := by decide +kernel
theorem d_X_comesBack_36 : decode b_X_comesBack 36 = .ok (.iload_n 2, 1) := by decide +kernel
theorem d_X_comesBack_37 : decode b_X_comesBack 37 = .ok (.if_icmp .ne 7, 3) := by decide +kernel
theorem d_X_comesBack_40 : decode b_X_comesBack 40 = .ok (.iconst 1, 1) := by decide +kernel
theorem d_X_comesBack_41 : decode b_X_comesBack 41 = .ok (.goto 4, 3) := by decide +kernel
theorem d_X_comesBack_44 : decode b_X_comesBack 44 = .ok (.iconst 0, 1) := by decide +kernel
theorem d_X_comesBack_45 : decode b_X_comesBack 45 = .ok (.ireturn, 1) := by decide +kernel
