theorem d_M_init_0 : decode b_M_init 0 = .ok (.aload_n 0, 1) := by decide +kernel
theorem d_M_init_1 : decode b_M_init 1 = .ok (.invokespecial 1, 3) := by decide +kernel
theorem d_M_init_4 : decode b_M_init 4 = .ok (.aload_n 0, 1) := by decide +kernel
theorem d_M_init_5 : decode b_M_init 5 = .ok (.iconst 4, 1) := by decide +kernel
theorem d_M_init_6 : decode b_M_init 6 = .ok (.newarray .int, 2) := by decide +kernel
theorem d_M_init_8 : decode b_M_init 8 = .ok (.putfield 7, 3) := by decide +kernel
theorem d_M_init_11 : decode b_M_init 11 = .ok (.aload_n 0, 1) := by decide +kernel
theorem d_M_init_12 : decode b_M_init 12 = .ok (.iconst 4, 1) := by decide +kernel
theorem d_M_init_13 : decode b_M_init 13 = .ok (.newarray .int, 2) := by decide +kernel
theorem d_M_init_15 : decode b_M_init 15 = .ok (.putfield 13, 3) := by decide +kernel
theorem d_M_init_18 : decode b_M_init 18 = .ok (.aload_n 0, 1) := by decide +kernel
theorem d_M_init_19 : decode b_M_init 19 = .ok (.iconst 4, 1) := by decide +kernel
theorem d_M_init_20 : decode b_M_init 20 = .ok (.newarray .int, 2) := by decide +kernel
theorem d_M_init_22 : decode b_M_init 22 = .ok (.putfield 16, 3) := by decide +kernel
theorem d_M_init_25 : decode b_M_init 25 = .ok (.aload_n 0, 1) := by decide +kernel
theorem d_M_init_26 : decode b_M_init 26 = .ok (.iconst 2, 1) := by decide +kernel
theorem d_M_init_27 : decode b_M_init 27 = .ok (.newarray .int, 2) := by decide +kernel
theorem d_M_init_29 : decode b_M_init 29 = .ok (.putfield 19, 3) := by decide +kernel
theorem d_M_init_32 : decode b_M_init 32 = .ok (.aload_n 0, 1) := by decide +kernel
theorem d_M_init_33 : decode b_M_init 33 = .ok (.iconst 2, 1) := by decide +kernel
theorem d_M_init_34 : decode b_M_init 34 = .ok (.newarray .int, 2) := by decide +kernel
theorem d_M_init_36 : decode b_M_init 36 = .ok (.putfield 22, 3) := by decide +kernel
theorem d_M_init_39 : decode b_M_init 39 = .ok (.aload_n 0, 1) := by decide +kernel
theorem d_M_init_40 : decode b_M_init 40 = .ok (.bipush 64, 2) := by decide +kernel
theorem d_M_init_42 : decode b_M_init 42 = .ok (.newarray .long, 2) := by decide +kernel
theorem d_M_init_44 : decode b_M_init 44 = .ok (.putfield 25, 3) := by decide +kernel
theorem d_M_init_47 : decode b_M_init 47 = .ok (.aload_n 0, 1) := by decide +kernel
theorem d_M_init_48 : decode b_M_init 48 = .ok (.bipush 24, 2) := by decide +kernel
theorem d_M_init_50 : decode b_M_init 50 = .ok (.newarray .long, 2) := by decide +kernel
theorem d_M_init_52 : decode b_M_init 52 = .ok (.putfield 29, 3) := by decide +kernel
theorem d_M_init_55 : decode b_M_init 55 = .ok (.aload_n 0, 1) := by decide +kernel
theorem d_M_init_56 : decode b_M_init 56 = .ok (.bipush 32, 2) := by decide +kernel
theorem d_M_init_58 : decode b_M_init 58 = .ok (.newarray .long, 2) := by decide +kernel
theorem d_M_init_60 : decode b_M_init 60 = .ok (.putfield 32, 3) := by decide +kernel
theorem d_M_init_63 : decode b_M_init 63 = .ok (.aload_n 0, 1) := by decide +kernel
theorem d_M_init_64 : decode b_M_init 64 = .ok (.iconst 0, 1) := by decide +kernel
theorem d_M_init_65 : decode b_M_init 65 = .ok (.iconst 5, 1) := by decide +kernel
theorem d_M_init_66 : decode b_M_init 66 = .ok (.bipush 10, 2) := by decide +kernel
theorem d_M_init_68 : decode b_M_init 68 = .ok (.iconst 0, 1) := by decide +kernel
theorem d_M_init_69 : decode b_M_init 69 = .ok (.invokevirtual 35, 3) := by decide +kernel
theorem d_M_init_72 : decode b_M_init 72 = .ok (.aload_n 0, 1) := by decide +kernel
theorem d_M_init_73 : decode b_M_init 73 = .ok (.iconst 1, 1) := by decide +kernel
theorem d_M_init_74 : decode b_M_init 74 = .ok (.bipush 8, 2) := by decide +kernel
theorem d_M_init_76 : decode b_M_init 76 = .ok (.bipush 7, 2) := by decide +kernel
theorem d_M_init_78 : decode b_M_init 78 = .ok (.iconst 0, 1) := by decide +kernel
theorem d_M_init_79 : decode b_M_init 79 = .ok (.invokevirtual 35, 3) := by decide +kernel
theorem d_M_init_82 : decode b_M_init 82 = .ok (.aload_n 0, 1) := by decide +kernel
theorem d_M_init_83 : decode b_M_init 83 = .ok (.iconst 2, 1) := by decide +kernel
theorem d_M_init_84 : decode b_M_init 84 = .ok (.bipush 8, 2) := by decide +kernel
theorem d_M_init_86 : decode b_M_init 86 = .ok (.bipush 23, 2) := by decide +kernel
theorem d_M_init_88 : decode b_M_init 88 = .ok (.iconst 0, 1) := by decide +kernel
theorem d_M_init_89 : decode b_M_init 89 = .ok (.invokevirtual 35, 3) := by decide +kernel
theorem d_M_init_92 : decode b_M_init 92 = .ok (.aload_n 0, 1) := by decide +kernel
theorem d_M_init_93 : decode b_M_init 93 = .ok (.iconst 3, 1) := by decide +kernel
theorem d_M_init_94 : decode b_M_init 94 = .ok (.iconst 4, 1) := by decide +kernel
theorem d_M_init_95 : decode b_M_init 95 = .ok (.iconst 3, 1) := by decide +kernel
theorem d_M_init_96 : decode b_M_init 96 = .ok (.iconst 1, 1) := by decide +kernel
theorem d_M_init_97 : decode b_M_init 97 = .ok (.invokevirtual 35, 3) := by decide +kernel
theorem d_M_init_100 : decode b_M_init 100 = .ok (.aload_n 0, 1) := by decide +kernel
theorem d_M_init_101 : decode b_M_init 101 = .ok (.getfield 19, 3) := by decide +kernel
theorem d_M_init_104 : decode b_M_init 104 = .ok (.iconst 1, 1) := by decide +kernel
theorem d_M_init_105 : decode b_M_init 105 = .ok (.iconst 2, 1) := by decide +kernel
theorem d_M_init_106 : decode b_M_init 106 = .ok (.iastore, 1) := by decide +kernel
theorem d_M_init_107 : decode b_M_init 107 = .ok (.aload_n 0, 1) := by decide +kernel
theorem d_M_init_108 : decode b_M_init 108 = .ok (.lconst 1, 1) := by decide +kernel
theorem d_M_init_109 : decode b_M_init 109 = .ok (.putfield 39, 3) := by decide +kernel
theorem d_M_init_112 : decode b_M_init 112 = .ok (.aload_n 0, 1) := by decide +kernel
theorem d_M_init_113 : decode b_M_init 113 = .ok (.iconst 3, 1) := by decide +kernel
theorem d_M_init_114 : decode b_M_init 114 = .ok (.putfield 43, 3) := by decide +kernel
theorem d_M_init_117 : decode b_M_init 117 = .ok (.return_, 1) := by decide +kernel
theorem d_M_set_0 : decode b_M_set 0 = .ok (.aload_n 0, 1) := by decide +kernel
theorem d_M_set_1 : decode b_M_set 1 = .ok (.getfield 7, 3) := by decide +kernel
theorem d_M_set_4 : decode b_M_set 4 = .ok (.iload_n 1, 1) := by decide +kernel
theorem d_M_set_5 : decode b_M_set 5 = .ok (.iload_n 2, 1) := by decide +kernel
theorem d_M_set_6 : decode b_M_set 6 = .ok (.iastore, 1) := by decide +kernel
theorem d_M_set_7 : decode b_M_set 7 = .ok (.aload_n 0, 1) := by decide +kernel
theorem d_M_set_8 : decode b_M_set 8 = .ok (.getfield 13, 3) := by decide +kernel
theorem d_M_set_11 : decode b_M_set 11 = .ok (.iload_n 1, 1) := by decide +kernel
theorem d_M_set_12 : decode b_M_set 12 = .ok (.iload_n 3, 1) := by decide +kernel
theorem d_M_set_13 : decode b_M_set 13 = .ok (.iastore, 1) := by decide +kernel
theorem d_M_set_14 : decode b_M_set 14 = .ok (.aload_n 0, 1) := by decide +kernel
theorem d_M_set_15 : decode b_M_set 15 = .ok (.getfield 16, 3) := by decide +kernel
theorem d_M_set_18 : decode b_M_set 18 = .ok (.iload_n 1, 1) := by decide +kernel
theorem d_M_set_19 : decode b_M_set 19 = .ok (.iload 4, 2) := by decide +kernel
theorem d_M_set_21 : decode b_M_set 21 = .ok (.iastore, 1) := by decide +kernel
theorem d_M_set_22 : decode b_M_set 22 = .ok (.return_, 1) := by decide +kernel
theorem d_M_isIn_0 : decode b_M_isIn 0 = .ok (.lload_n 0, 1) := by decide +kernel
theorem d_M_isIn_1 : decode b_M_isIn 1 = .ok (.lload_n 2, 1) := by decide +kernel
theorem d_M_isIn_2 : decode b_M_isIn 2 = .ok (.lcmp, 1) := by decide +kernel
theorem d_M_isIn_3 : decode b_M_isIn 3 = .ok (.ifCond .lt 14, 3) := by decide +kernel
theorem d_M_isIn_6 : decode b_M_isIn 6 = .ok (.lload_n 0, 1) := by decide +kernel
theorem d_M_isIn_7 : decode b_M_isIn 7 = .ok (.lload 4, 2) := by decide +kernel
theorem d_M_isIn_9 : decode b_M_isIn 9 = .ok (.lcmp, 1) := by decide +kernel
theorem d_M_isIn_10 : decode b_M_isIn 10 = .ok (.ifCond .gt 7, 3) := by decide +kernel
theorem d_M_isIn_13 : decode b_M_isIn 13 = .ok (.iconst 1, 1) := by decide +kernel
theorem d_M_isIn_14 : decode b_M_isIn 14 = .ok (.goto 4, 3) := by decide +kernel
theorem d_M_isIn_17 : decode b_M_isIn 17 = .ok (.iconst 0, 1) := by decide +kernel
theorem d_M_isIn_18 : decode b_M_isIn 18 = .ok (.ireturn, 1) := by decide +kernel
theorem d_M_isFormat_0 : decode b_M_isFormat 0 = .ok (.iload_n 0, 1) := by decide +kernel
theorem d_M_isFormat_1 : decode b_M_isFormat 1 = .ok (.i2l, 1) := by decide +kernel
theorem d_M_isFormat_2 : decode b_M_isFormat 2 = .ok (.lconst 0, 1) := by decide +kernel
theorem d_M_isFormat_3 : decode b_M_isFormat 3 = .ok (.ldc2_w 47, 3) := by decide +kernel
theorem d_M_isFormat_6 : decode b_M_isFormat 6 = .ok (.invokestatic 49, 3) := by decide +kernel
theorem d_M_isFormat_9 : decode b_M_isFormat 9 = .ok (.ireturn, 1) := by decide +kernel
theorem d_M_isWay_0 : decode b_M_isWay 0 = .ok (.iload_n 0, 1) := by decide +kernel
theorem d_M_isWay_1 : decode b_M_isWay 1 = .ok (.i2l, 1) := by decide +kernel
theorem d_M_isWay_2 : decode b_M_isWay 2 = .ok (.lconst 0, 1) := by decide +kernel
theorem d_M_isWay_3 : decode b_M_isWay 3 = .ok (.ldc2_w 53, 3) := by decide +kernel
theorem d_M_isWay_6 : decode b_M_isWay 6 = .ok (.invokestatic 49, 3) := by decide +kernel
theorem d_M_isWay_9 : decode b_M_isWay 9 = .ok (.ireturn, 1) := by decide +kernel
theorem d_M_format_0 : decode b_M_format 0 = .ok (.iload_n 1, 1) := by decide +kernel
theorem d_M_format_1 : decode b_M_format 1 = .ok (.invokestatic 55, 3) := by decide +kernel
theorem d_M_format_4 : decode b_M_format 4 = .ok (.ifCond .eq 80, 3) := by decide +kernel
theorem d_M_format_7 : decode b_M_format 7 = .ok (.iload_n 2, 1) := by decide +kernel
theorem d_M_format_8 : decode b_M_format 8 = .ok (.i2l, 1) := by decide +kernel
theorem d_M_format_9 : decode b_M_format 9 = .ok (.ldc2_w 59, 3) := by decide +kernel
theorem d_M_format_12 : decode b_M_format 12 = .ok (.ldc2_w 61, 3) := by decide +kernel
theorem d_M_format_15 : decode b_M_format 15 = .ok (.invokestatic 49, 3) := by decide +kernel
theorem d_M_format_18 : decode b_M_format 18 = .ok (.ifCond .eq 66, 3) := by decide +kernel
theorem d_M_format_21 : decode b_M_format 21 = .ok (.iload_n 3, 1) := by decide +kernel
theorem d_M_format_22 : decode b_M_format 22 = .ok (.i2l, 1) := by decide +kernel
theorem d_M_format_23 : decode b_M_format 23 = .ok (.lconst 1, 1) := by decide +kernel
theorem d_M_format_24 : decode b_M_format 24 = .ok (.ldc2_w 63, 3) := by decide +kernel
theorem d_M_format_27 : decode b_M_format 27 = .ok (.invokestatic 49, 3) := by decide +kernel
theorem d_M_format_30 : decode b_M_format 30 = .ok (.ifCond .eq 54, 3) := by decide +kernel
theorem d_M_format_33 : decode b_M_format 33 = .ok (.iload 4, 2) := by decide +kernel
theorem d_M_format_35 : decode b_M_format 35 = .ok (.i2l, 1) := by decide +kernel
theorem d_M_format_36 : decode b_M_format 36 = .ok (.lconst 0, 1) := by decide +kernel
theorem d_M_format_37 : decode b_M_format 37 = .ok (.ldc2_w 59, 3) := by decide +kernel
theorem d_M_format_40 : decode b_M_format 40 = .ok (.invokestatic 49, 3) := by decide +kernel
theorem d_M_format_43 : decode b_M_format 43 = .ok (.ifCond .eq 41, 3) := by decide +kernel
theorem d_M_format_46 : decode b_M_format 46 = .ok (.aload_n 0, 1) := by decide +kernel
theorem d_M_format_47 : decode b_M_format 47 = .ok (.getfield 19, 3) := by decide +kernel
theorem d_M_format_50 : decode b_M_format 50 = .ok (.iconst 0, 1) := by decide +kernel
theorem d_M_format_51 : decode b_M_format 51 = .ok (.iaload, 1) := by decide +kernel
theorem d_M_format_52 : decode b_M_format 52 = .ok (.iload_n 1, 1) := by decide +kernel
theorem d_M_format_53 : decode b_M_format 53 = .ok (.if_icmp .ne 12, 3) := by decide +kernel
theorem d_M_format_56 : decode b_M_format 56 = .ok (.aload_n 0, 1) := by decide +kernel
theorem d_M_format_57 : decode b_M_format 57 = .ok (.getfield 22, 3) := by decide +kernel
theorem d_M_format_60 : decode b_M_format 60 = .ok (.iconst 0, 1) := by decide +kernel
theorem d_M_format_61 : decode b_M_format 61 = .ok (.iaload, 1) := by decide +kernel
theorem d_M_format_62 : decode b_M_format 62 = .ok (.ifCond .gt 22, 3) := by decide +kernel
theorem d_M_format_65 : decode b_M_format 65 = .ok (.aload_n 0, 1) := by decide +kernel
theorem d_M_format_66 : decode b_M_format 66 = .ok (.getfield 19, 3) := by decide +kernel
theorem d_M_format_69 : decode b_M_format 69 = .ok (.iconst 1, 1) := by decide +kernel
theorem d_M_format_70 : decode b_M_format 70 = .ok (.iaload, 1) := by decide +kernel
theorem d_M_format_71 : decode b_M_format 71 = .ok (.iload_n 1, 1) := by decide +kernel
theorem d_M_format_72 : decode b_M_format 72 = .ok (.if_icmp .ne 15, 3) := by decide +kernel
theorem d_M_format_75 : decode b_M_format 75 = .ok (.aload_n 0, 1) := by decide +kernel
theorem d_M_format_76 : decode b_M_format 76 = .ok (.getfield 22, 3) := by decide +kernel
theorem d_M_format_79 : decode b_M_format 79 = .ok (.iconst 1, 1) := by decide +kernel
theorem d_M_format_80 : decode b_M_format 80 = .ok (.iaload, 1) := by decide +kernel
theorem d_M_format_81 : decode b_M_format 81 = .ok (.ifCond .le 6, 3) := by decide +kernel
theorem d_M_format_84 : decode b_M_format 84 = .ok (.bipush (-2), 2) := by decide +kernel
theorem d_M_format_86 : decode b_M_format 86 = .ok (.ireturn, 1) := by decide +kernel
theorem d_M_format_87 : decode b_M_format 87 = .ok (.aload_n 0, 1) := by decide +kernel
theorem d_M_format_88 : decode b_M_format 88 = .ok (.iload_n 1, 1) := by decide +kernel
theorem d_M_format_89 : decode b_M_format 89 = .ok (.iload_n 2, 1) := by decide +kernel
theorem d_M_format_90 : decode b_M_format 90 = .ok (.iload_n 3, 1) := by decide +kernel
theorem d_M_format_91 : decode b_M_format 91 = .ok (.iload 4, 2) := by decide +kernel
theorem d_M_format_93 : decode b_M_format 93 = .ok (.invokevirtual 35, 3) := by decide +kernel
theorem d_M_format_96 : decode b_M_format 96 = .ok (.iconst 1, 1) := by decide +kernel
theorem d_M_format_97 : decode b_M_format 97 = .ok (.ireturn, 1) := by decide +kernel
theorem d_M_signBit_0 : decode b_M_signBit 0 = .ok (.lconst 1, 1) := by decide +kernel
theorem d_M_signBit_1 : decode b_M_signBit 1 = .ok (.aload_n 0, 1) := by decide +kernel
theorem d_M_signBit_2 : decode b_M_signBit 2 = .ok (.getfield 7, 3) := by decide +kernel
theorem d_M_signBit_5 : decode b_M_signBit 5 = .ok (.iload_n 1, 1) := by decide +kernel
theorem d_M_signBit_6 : decode b_M_signBit 6 = .ok (.iaload, 1) := by decide +kernel
theorem d_M_signBit_7 : decode b_M_signBit 7 = .ok (.aload_n 0, 1) := by decide +kernel
theorem d_M_signBit_8 : decode b_M_signBit 8 = .ok (.getfield 13, 3) := by decide +kernel
theorem d_M_signBit_11 : decode b_M_signBit 11 = .ok (.iload_n 1, 1) := by decide +kernel
theorem d_M_signBit_12 : decode b_M_signBit 12 = .ok (.iaload, 1) := by decide +kernel
theorem d_M_signBit_13 : decode b_M_signBit 13 = .ok (.iadd, 1) := by decide +kernel
theorem d_M_signBit_14 : decode b_M_signBit 14 = .ok (.lshl, 1) := by decide +kernel
theorem d_M_signBit_15 : decode b_M_signBit 15 = .ok (.lreturn, 1) := by decide +kernel
theorem d_M_bias_0 : decode b_M_bias 0 = .ok (.iconst 1, 1) := by decide +kernel
theorem d_M_bias_1 : decode b_M_bias 1 = .ok (.aload_n 0, 1) := by decide +kernel
theorem d_M_bias_2 : decode b_M_bias 2 = .ok (.getfield 7, 3) := by decide +kernel
theorem d_M_bias_5 : decode b_M_bias 5 = .ok (.iload_n 1, 1) := by decide +kernel
theorem d_M_bias_6 : decode b_M_bias 6 = .ok (.iaload, 1) := by decide +kernel
theorem d_M_bias_7 : decode b_M_bias 7 = .ok (.iconst 1, 1) := by decide +kernel
theorem d_M_bias_8 : decode b_M_bias 8 = .ok (.isub, 1) := by decide +kernel
theorem d_M_bias_9 : decode b_M_bias 9 = .ok (.ishl, 1) := by decide +kernel
theorem d_M_bias_10 : decode b_M_bias 10 = .ok (.iconst 1, 1) := by decide +kernel
theorem d_M_bias_11 : decode b_M_bias 11 = .ok (.isub, 1) := by decide +kernel
theorem d_M_bias_12 : decode b_M_bias 12 = .ok (.ireturn, 1) := by decide +kernel
theorem d_M_limit_0 : decode b_M_limit 0 = .ok (.aload_n 0, 1) := by decide +kernel
theorem d_M_limit_1 : decode b_M_limit 1 = .ok (.getfield 16, 3) := by decide +kernel
theorem d_M_limit_4 : decode b_M_limit 4 = .ok (.iload_n 1, 1) := by decide +kernel
theorem d_M_limit_5 : decode b_M_limit 5 = .ok (.iaload, 1) := by decide +kernel
theorem d_M_limit_6 : decode b_M_limit 6 = .ok (.ifCond .ne 23, 3) := by decide +kernel
theorem d_M_limit_9 : decode b_M_limit 9 = .ok (.lconst 1, 1) := by decide +kernel
theorem d_M_limit_10 : decode b_M_limit 10 = .ok (.aload_n 0, 1) := by decide +kernel
theorem d_M_limit_11 : decode b_M_limit 11 = .ok (.getfield 7, 3) := by decide +kernel
theorem d_M_limit_14 : decode b_M_limit 14 = .ok (.iload_n 1, 1) := by decide +kernel
theorem d_M_limit_15 : decode b_M_limit 15 = .ok (.iaload, 1) := by decide +kernel
theorem d_M_limit_16 : decode b_M_limit 16 = .ok (.lshl, 1) := by decide +kernel
theorem d_M_limit_17 : decode b_M_limit 17 = .ok (.lconst 1, 1) := by decide +kernel
theorem d_M_limit_18 : decode b_M_limit 18 = .ok (.lsub, 1) := by decide +kernel
theorem d_M_limit_19 : decode b_M_limit 19 = .ok (.aload_n 0, 1) := by decide +kernel
theorem d_M_limit_20 : decode b_M_limit 20 = .ok (.getfield 13, 3) := by decide +kernel
theorem d_M_limit_23 : decode b_M_limit 23 = .ok (.iload_n 1, 1) := by decide +kernel
theorem d_M_limit_24 : decode b_M_limit 24 = .ok (.iaload, 1) := by decide +kernel
theorem d_M_limit_25 : decode b_M_limit 25 = .ok (.lshl, 1) := by decide +kernel
theorem d_M_limit_26 : decode b_M_limit 26 = .ok (.goto 10, 3) := by decide +kernel
theorem d_M_limit_29 : decode b_M_limit 29 = .ok (.aload_n 0, 1) := by decide +kernel
theorem d_M_limit_30 : decode b_M_limit 30 = .ok (.iload_n 1, 1) := by decide +kernel
theorem d_M_limit_31 : decode b_M_limit 31 = .ok (.invokevirtual 65, 3) := by decide +kernel
theorem d_M_limit_34 : decode b_M_limit 34 = .ok (.lconst 1, 1) := by decide +kernel
theorem d_M_limit_35 : decode b_M_limit 35 = .ok (.lsub, 1) := by decide +kernel
theorem d_M_limit_36 : decode b_M_limit 36 = .ok (.lreturn, 1) := by decide +kernel
theorem d_M_nan_0 : decode b_M_nan 0 = .ok (.aload_n 0, 1) := by decide +kernel
theorem d_M_nan_1 : decode b_M_nan 1 = .ok (.getfield 16, 3) := by decide +kernel
theorem d_M_nan_4 : decode b_M_nan 4 = .ok (.iload_n 1, 1) := by decide +kernel
theorem d_M_nan_5 : decode b_M_nan 5 = .ok (.iaload, 1) := by decide +kernel
theorem d_M_nan_6 : decode b_M_nan 6 = .ok (.ifCond .ne 22, 3) := by decide +kernel
theorem d_M_nan_9 : decode b_M_nan 9 = .ok (.aload_n 0, 1) := by decide +kernel
theorem d_M_nan_10 : decode b_M_nan 10 = .ok (.iload_n 1, 1) := by decide +kernel
theorem d_M_nan_11 : decode b_M_nan 11 = .ok (.invokevirtual 69, 3) := by decide +kernel
theorem d_M_nan_14 : decode b_M_nan 14 = .ok (.lconst 1, 1) := by decide +kernel
theorem d_M_nan_15 : decode b_M_nan 15 = .ok (.aload_n 0, 1) := by decide +kernel
theorem d_M_nan_16 : decode b_M_nan 16 = .ok (.getfield 13, 3) := by decide +kernel
theorem d_M_nan_19 : decode b_M_nan 19 = .ok (.iload_n 1, 1) := by decide +kernel
theorem d_M_nan_20 : decode b_M_nan 20 = .ok (.iaload, 1) := by decide +kernel
theorem d_M_nan_21 : decode b_M_nan 21 = .ok (.iconst 1, 1) := by decide +kernel
theorem d_M_nan_22 : decode b_M_nan 22 = .ok (.isub, 1) := by decide +kernel
theorem d_M_nan_23 : decode b_M_nan 23 = .ok (.lshl, 1) := by decide +kernel
theorem d_M_nan_24 : decode b_M_nan 24 = .ok (.lor, 1) := by decide +kernel
theorem d_M_nan_25 : decode b_M_nan 25 = .ok (.goto 8, 3) := by decide +kernel
theorem d_M_nan_28 : decode b_M_nan 28 = .ok (.aload_n 0, 1) := by decide +kernel
theorem d_M_nan_29 : decode b_M_nan 29 = .ok (.iload_n 1, 1) := by decide +kernel
theorem d_M_nan_30 : decode b_M_nan 30 = .ok (.invokevirtual 69, 3) := by decide +kernel
theorem d_M_nan_33 : decode b_M_nan 33 = .ok (.lreturn, 1) := by decide +kernel
theorem d_M_form_0 : decode b_M_form 0 = .ok (.iload_n 1, 1) := by decide +kernel
theorem d_M_form_1 : decode b_M_form 1 = .ok (.invokestatic 55, 3) := by decide +kernel
theorem d_M_form_4 : decode b_M_form 4 = .ok (.ifCond .eq 15, 3) := by decide +kernel
theorem d_M_form_7 : decode b_M_form 7 = .ok (.iload_n 2, 1) := by decide +kernel
theorem d_M_form_8 : decode b_M_form 8 = .ok (.i2l, 1) := by decide +kernel
theorem d_M_form_9 : decode b_M_form 9 = .ok (.lconst 0, 1) := by decide +kernel
theorem d_M_form_10 : decode b_M_form 10 = .ok (.ldc2_w 72, 3) := by decide +kernel
theorem d_M_form_13 : decode b_M_form 13 = .ok (.invokestatic 49, 3) := by decide +kernel
theorem d_M_form_16 : decode b_M_form 16 = .ok (.ifCond .ne 6, 3) := by decide +kernel
theorem d_M_form_19 : decode b_M_form 19 = .ok (.bipush (-2), 2) := by decide +kernel
theorem d_M_form_21 : decode b_M_form 21 = .ok (.ireturn, 1) := by decide +kernel
theorem d_M_form_22 : decode b_M_form 22 = .ok (.iload_n 2, 1) := by decide +kernel
theorem d_M_form_23 : decode b_M_form 23 = .ok (.tableswitch 59 0 3 #[29, 36, 43, 50], 29) := by decide +kernel
theorem d_M_form_52 : decode b_M_form 52 = .ok (.aload_n 0, 1) := by decide +kernel
theorem d_M_form_53 : decode b_M_form 53 = .ok (.getfield 7, 3) := by decide +kernel
theorem d_M_form_56 : decode b_M_form 56 = .ok (.iload_n 1, 1) := by decide +kernel
theorem d_M_form_57 : decode b_M_form 57 = .ok (.iaload, 1) := by decide +kernel
theorem d_M_form_58 : decode b_M_form 58 = .ok (.ireturn, 1) := by decide +kernel
theorem d_M_form_59 : decode b_M_form 59 = .ok (.aload_n 0, 1) := by decide +kernel
theorem d_M_form_60 : decode b_M_form 60 = .ok (.getfield 13, 3) := by decide +kernel
theorem d_M_form_63 : decode b_M_form 63 = .ok (.iload_n 1, 1) := by decide +kernel
theorem d_M_form_64 : decode b_M_form 64 = .ok (.iaload, 1) := by decide +kernel
theorem d_M_form_65 : decode b_M_form 65 = .ok (.ireturn, 1) := by decide +kernel
theorem d_M_form_66 : decode b_M_form 66 = .ok (.aload_n 0, 1) := by decide +kernel
theorem d_M_form_67 : decode b_M_form 67 = .ok (.getfield 16, 3) := by decide +kernel
theorem d_M_form_70 : decode b_M_form 70 = .ok (.iload_n 1, 1) := by decide +kernel
theorem d_M_form_71 : decode b_M_form 71 = .ok (.iaload, 1) := by decide +kernel
theorem d_M_form_72 : decode b_M_form 72 = .ok (.ireturn, 1) := by decide +kernel
theorem d_M_form_73 : decode b_M_form 73 = .ok (.aload_n 0, 1) := by decide +kernel
theorem d_M_form_74 : decode b_M_form 74 = .ok (.iload_n 1, 1) := by decide +kernel
theorem d_M_form_75 : decode b_M_form 75 = .ok (.invokevirtual 69, 3) := by decide +kernel
theorem d_M_form_78 : decode b_M_form 78 = .ok (.lconst 1, 1) := by decide +kernel
theorem d_M_form_79 : decode b_M_form 79 = .ok (.lsub, 1) := by decide +kernel
theorem d_M_form_80 : decode b_M_form 80 = .ok (.l2i, 1) := by decide +kernel
theorem d_M_form_81 : decode b_M_form 81 = .ok (.ireturn, 1) := by decide +kernel
theorem d_M_form_82 : decode b_M_form 82 = .ok (.aload_n 0, 1) := by decide +kernel
theorem d_M_form_83 : decode b_M_form 83 = .ok (.iload_n 1, 1) := by decide +kernel
theorem d_M_form_84 : decode b_M_form 84 = .ok (.invokevirtual 74, 3) := by decide +kernel
theorem d_M_form_87 : decode b_M_form 87 = .ok (.l2i, 1) := by decide +kernel
theorem d_M_form_88 : decode b_M_form 88 = .ok (.ireturn, 1) := by decide +kernel
theorem d_M_pattern_0 : decode b_M_pattern 0 = .ok (.iload_n 2, 1) := by decide +kernel
theorem d_M_pattern_1 : decode b_M_pattern 1 = .ok (.i2l, 1) := by decide +kernel
theorem d_M_pattern_2 : decode b_M_pattern 2 = .ok (.ldc2_w 77, 3) := by decide +kernel
theorem d_M_pattern_5 : decode b_M_pattern 5 = .ok (.land, 1) := by decide +kernel
theorem d_M_pattern_6 : decode b_M_pattern 6 = .ok (.lstore_n 3, 1) := by decide +kernel
theorem d_M_pattern_7 : decode b_M_pattern 7 = .ok (.lload_n 3, 1) := by decide +kernel
theorem d_M_pattern_8 : decode b_M_pattern 8 = .ok (.ldc2_w 59, 3) := by decide +kernel
theorem d_M_pattern_11 : decode b_M_pattern 11 = .ok (.aload_n 0, 1) := by decide +kernel
theorem d_M_pattern_12 : decode b_M_pattern 12 = .ok (.iload_n 1, 1) := by decide +kernel
theorem d_M_pattern_13 : decode b_M_pattern 13 = .ok (.invokevirtual 65, 3) := by decide +kernel
theorem d_M_pattern_16 : decode b_M_pattern 16 = .ok (.lmul, 1) := by decide +kernel
theorem d_M_pattern_17 : decode b_M_pattern 17 = .ok (.lcmp, 1) := by decide +kernel
theorem d_M_pattern_18 : decode b_M_pattern 18 = .ok (.ifCond .ge 7, 3) := by decide +kernel
theorem d_M_pattern_21 : decode b_M_pattern 21 = .ok (.lload_n 3, 1) := by decide +kernel
theorem d_M_pattern_22 : decode b_M_pattern 22 = .ok (.goto 6, 3) := by decide +kernel
theorem d_M_pattern_25 : decode b_M_pattern 25 = .ok (.ldc2_w 79, 3) := by decide +kernel
theorem d_M_pattern_28 : decode b_M_pattern 28 = .ok (.lreturn, 1) := by decide +kernel
theorem d_M_isPattern_0 : decode b_M_isPattern 0 = .ok (.aload_n 0, 1) := by decide +kernel
theorem d_M_isPattern_1 : decode b_M_isPattern 1 = .ok (.iload_n 1, 1) := by decide +kernel
theorem d_M_isPattern_2 : decode b_M_isPattern 2 = .ok (.iload_n 2, 1) := by decide +kernel
theorem d_M_isPattern_3 : decode b_M_isPattern 3 = .ok (.invokevirtual 81, 3) := by decide +kernel
theorem d_M_isPattern_6 : decode b_M_isPattern 6 = .ok (.ldc2_w 79, 3) := by decide +kernel
theorem d_M_isPattern_9 : decode b_M_isPattern 9 = .ok (.lcmp, 1) := by decide +kernel
theorem d_M_isPattern_10 : decode b_M_isPattern 10 = .ok (.ifCond .eq 7, 3) := by decide +kernel
theorem d_M_isPattern_13 : decode b_M_isPattern 13 = .ok (.iconst 1, 1) := by decide +kernel
theorem d_M_isPattern_14 : decode b_M_isPattern 14 = .ok (.goto 4, 3) := by decide +kernel
theorem d_M_isPattern_17 : decode b_M_isPattern 17 = .ok (.iconst 0, 1) := by decide +kernel
theorem d_M_isPattern_18 : decode b_M_isPattern 18 = .ok (.ireturn, 1) := by decide +kernel
theorem d_M_sortOf_0 : decode b_M_sortOf 0 = .ok (.lload_n 2, 1) := by decide +kernel
theorem d_M_sortOf_1 : decode b_M_sortOf 1 = .ok (.aload_n 0, 1) := by decide +kernel
theorem d_M_sortOf_2 : decode b_M_sortOf 2 = .ok (.iload_n 1, 1) := by decide +kernel
theorem d_M_sortOf_3 : decode b_M_sortOf 3 = .ok (.invokevirtual 65, 3) := by decide +kernel
theorem d_M_sortOf_6 : decode b_M_sortOf 6 = .ok (.lconst 1, 1) := by decide +kernel
theorem d_M_sortOf_7 : decode b_M_sortOf 7 = .ok (.lsub, 1) := by decide +kernel
theorem d_M_sortOf_8 : decode b_M_sortOf 8 = .ok (.land, 1) := by decide +kernel
theorem d_M_sortOf_9 : decode b_M_sortOf 9 = .ok (.lstore 4, 2) := by decide +kernel
theorem d_M_sortOf_11 : decode b_M_sortOf 11 = .ok (.lload 4, 2) := by decide +kernel
theorem d_M_sortOf_13 : decode b_M_sortOf 13 = .ok (.lconst 0, 1) := by decide +kernel
theorem d_M_sortOf_14 : decode b_M_sortOf 14 = .ok (.lcmp, 1) := by decide +kernel
theorem d_M_sortOf_15 : decode b_M_sortOf 15 = .ok (.ifCond .ne 5, 3) := by decide +kernel
theorem d_M_sortOf_18 : decode b_M_sortOf 18 = .ok (.iconst 0, 1) := by decide +kernel
theorem d_M_sortOf_19 : decode b_M_sortOf 19 = .ok (.ireturn, 1) := by decide +kernel
theorem d_M_sortOf_20 : decode b_M_sortOf 20 = .ok (.lload 4, 2) := by decide +kernel
theorem d_M_sortOf_22 : decode b_M_sortOf 22 = .ok (.aload_n 0, 1) := by decide +kernel
theorem d_M_sortOf_23 : decode b_M_sortOf 23 = .ok (.iload_n 1, 1) := by decide +kernel
theorem d_M_sortOf_24 : decode b_M_sortOf 24 = .ok (.invokevirtual 69, 3) := by decide +kernel
theorem d_M_sortOf_27 : decode b_M_sortOf 27 = .ok (.lcmp, 1) := by decide +kernel
theorem d_M_sortOf_28 : decode b_M_sortOf 28 = .ok (.ifCond .lt 29, 3) := by decide +kernel
theorem d_M_sortOf_31 : decode b_M_sortOf 31 = .ok (.aload_n 0, 1) := by decide +kernel
theorem d_M_sortOf_32 : decode b_M_sortOf 32 = .ok (.getfield 16, 3) := by decide +kernel
theorem d_M_sortOf_35 : decode b_M_sortOf 35 = .ok (.iload_n 1, 1) := by decide +kernel
theorem d_M_sortOf_36 : decode b_M_sortOf 36 = .ok (.iaload, 1) := by decide +kernel
theorem d_M_sortOf_37 : decode b_M_sortOf 37 = .ok (.ifCond .ne 18, 3) := by decide +kernel
theorem d_M_sortOf_40 : decode b_M_sortOf 40 = .ok (.lload 4, 2) := by decide +kernel
theorem d_M_sortOf_42 : decode b_M_sortOf 42 = .ok (.aload_n 0, 1) := by decide +kernel
theorem d_M_sortOf_43 : decode b_M_sortOf 43 = .ok (.iload_n 1, 1) := by decide +kernel
theorem d_M_sortOf_44 : decode b_M_sortOf 44 = .ok (.invokevirtual 69, 3) := by decide +kernel
theorem d_M_sortOf_47 : decode b_M_sortOf 47 = .ok (.lcmp, 1) := by decide +kernel
theorem d_M_sortOf_48 : decode b_M_sortOf 48 = .ok (.ifCond .ne 7, 3) := by decide +kernel
theorem d_M_sortOf_51 : decode b_M_sortOf 51 = .ok (.iconst 3, 1) := by decide +kernel
theorem d_M_sortOf_52 : decode b_M_sortOf 52 = .ok (.goto 4, 3) := by decide +kernel
theorem d_M_sortOf_55 : decode b_M_sortOf 55 = .ok (.iconst 4, 1) := by decide +kernel
theorem d_M_sortOf_56 : decode b_M_sortOf 56 = .ok (.ireturn, 1) := by decide +kernel
theorem d_M_sortOf_57 : decode b_M_sortOf 57 = .ok (.lload 4, 2) := by decide +kernel
theorem d_M_sortOf_59 : decode b_M_sortOf 59 = .ok (.aload_n 0, 1) := by decide +kernel
theorem d_M_sortOf_60 : decode b_M_sortOf 60 = .ok (.getfield 13, 3) := by decide +kernel
theorem d_M_sortOf_63 : decode b_M_sortOf 63 = .ok (.iload_n 1, 1) := by decide +kernel
theorem d_M_sortOf_64 : decode b_M_sortOf 64 = .ok (.iaload, 1) := by decide +kernel
theorem d_M_sortOf_65 : decode b_M_sortOf 65 = .ok (.lshr, 1) := by decide +kernel
theorem d_M_sortOf_66 : decode b_M_sortOf 66 = .ok (.lconst 0, 1) := by decide +kernel
theorem d_M_sortOf_67 : decode b_M_sortOf 67 = .ok (.lcmp, 1) := by decide +kernel
theorem d_M_sortOf_68 : decode b_M_sortOf 68 = .ok (.ifCond .ne 7, 3) := by decide +kernel
theorem d_M_sortOf_71 : decode b_M_sortOf 71 = .ok (.iconst 1, 1) := by decide +kernel
theorem d_M_sortOf_72 : decode b_M_sortOf 72 = .ok (.goto 4, 3) := by decide +kernel
theorem d_M_sortOf_75 : decode b_M_sortOf 75 = .ok (.iconst 2, 1) := by decide +kernel
theorem d_M_sortOf_76 : decode b_M_sortOf 76 = .ok (.ireturn, 1) := by decide +kernel
theorem d_M_isBelow_0 : decode b_M_isBelow 0 = .ok (.lload_n 2, 1) := by decide +kernel
theorem d_M_isBelow_1 : decode b_M_isBelow 1 = .ok (.aload_n 0, 1) := by decide +kernel
theorem d_M_isBelow_2 : decode b_M_isBelow 2 = .ok (.iload_n 1, 1) := by decide +kernel
theorem d_M_isBelow_3 : decode b_M_isBelow 3 = .ok (.invokevirtual 65, 3) := by decide +kernel
theorem d_M_isBelow_6 : decode b_M_isBelow 6 = .ok (.lcmp, 1) := by decide +kernel
theorem d_M_isBelow_7 : decode b_M_isBelow 7 = .ok (.ifCond .lt 7, 3) := by decide +kernel
theorem d_M_isBelow_10 : decode b_M_isBelow 10 = .ok (.iconst 1, 1) := by decide +kernel
theorem d_M_isBelow_11 : decode b_M_isBelow 11 = .ok (.goto 4, 3) := by decide +kernel
theorem d_M_isBelow_14 : decode b_M_isBelow 14 = .ok (.iconst 0, 1) := by decide +kernel
theorem d_M_isBelow_15 : decode b_M_isBelow 15 = .ok (.ireturn, 1) := by decide +kernel
theorem d_M_wholeOf_0 : decode b_M_wholeOf 0 = .ok (.aload_n 0, 1) := by decide +kernel
theorem d_M_wholeOf_1 : decode b_M_wholeOf 1 = .ok (.iload_n 1, 1) := by decide +kernel
theorem d_M_wholeOf_2 : decode b_M_wholeOf 2 = .ok (.lload_n 2, 1) := by decide +kernel
theorem d_M_wholeOf_3 : decode b_M_wholeOf 3 = .ok (.invokevirtual 85, 3) := by decide +kernel
theorem d_M_wholeOf_6 : decode b_M_wholeOf 6 = .ok (.istore 4, 2) := by decide +kernel
theorem d_M_wholeOf_8 : decode b_M_wholeOf 8 = .ok (.lload_n 2, 1) := by decide +kernel
theorem d_M_wholeOf_9 : decode b_M_wholeOf 9 = .ok (.lconst 1, 1) := by decide +kernel
theorem d_M_wholeOf_10 : decode b_M_wholeOf 10 = .ok (.aload_n 0, 1) := by decide +kernel
theorem d_M_wholeOf_11 : decode b_M_wholeOf 11 = .ok (.getfield 13, 3) := by decide +kernel
theorem d_M_wholeOf_14 : decode b_M_wholeOf 14 = .ok (.iload_n 1, 1) := by decide +kernel
theorem d_M_wholeOf_15 : decode b_M_wholeOf 15 = .ok (.iaload, 1) := by decide +kernel
theorem d_M_wholeOf_16 : decode b_M_wholeOf 16 = .ok (.lshl, 1) := by decide +kernel
theorem d_M_wholeOf_17 : decode b_M_wholeOf 17 = .ok (.lconst 1, 1) := by decide +kernel
theorem d_M_wholeOf_18 : decode b_M_wholeOf 18 = .ok (.lsub, 1) := by decide +kernel
theorem d_M_wholeOf_19 : decode b_M_wholeOf 19 = .ok (.land, 1) := by decide +kernel
theorem d_M_wholeOf_20 : decode b_M_wholeOf 20 = .ok (.lstore 5, 2) := by decide +kernel
theorem d_M_wholeOf_22 : decode b_M_wholeOf 22 = .ok (.iload 4, 2) := by decide +kernel
theorem d_M_wholeOf_24 : decode b_M_wholeOf 24 = .ok (.iconst 1, 1) := by decide +kernel
theorem d_M_wholeOf_25 : decode b_M_wholeOf 25 = .ok (.if_icmp .ne 8, 3) := by decide +kernel
theorem d_M_wholeOf_28 : decode b_M_wholeOf 28 = .ok (.lload 5, 2) := by decide +kernel
theorem d_M_wholeOf_30 : decode b_M_wholeOf 30 = .ok (.goto 24, 3) := by decide +kernel
theorem d_M_wholeOf_33 : decode b_M_wholeOf 33 = .ok (.iload 4, 2) := by decide +kernel
theorem d_M_wholeOf_35 : decode b_M_wholeOf 35 = .ok (.iconst 2, 1) := by decide +kernel
theorem d_M_wholeOf_36 : decode b_M_wholeOf 36 = .ok (.if_icmp .ne 17, 3) := by decide +kernel
theorem d_M_wholeOf_39 : decode b_M_wholeOf 39 = .ok (.lload 5, 2) := by decide +kernel
theorem d_M_wholeOf_41 : decode b_M_wholeOf 41 = .ok (.lconst 1, 1) := by decide +kernel
theorem d_M_wholeOf_42 : decode b_M_wholeOf 42 = .ok (.aload_n 0, 1) := by decide +kernel
theorem d_M_wholeOf_43 : decode b_M_wholeOf 43 = .ok (.getfield 13, 3) := by decide +kernel
theorem d_M_wholeOf_46 : decode b_M_wholeOf 46 = .ok (.iload_n 1, 1) := by decide +kernel
theorem d_M_wholeOf_47 : decode b_M_wholeOf 47 = .ok (.iaload, 1) := by decide +kernel
theorem d_M_wholeOf_48 : decode b_M_wholeOf 48 = .ok (.lshl, 1) := by decide +kernel
theorem d_M_wholeOf_49 : decode b_M_wholeOf 49 = .ok (.lor, 1) := by decide +kernel
theorem d_M_wholeOf_50 : decode b_M_wholeOf 50 = .ok (.goto 4, 3) := by decide +kernel
theorem d_M_wholeOf_53 : decode b_M_wholeOf 53 = .ok (.lconst 0, 1) := by decide +kernel
theorem d_M_wholeOf_54 : decode b_M_wholeOf 54 = .ok (.lreturn, 1) := by decide +kernel
theorem d_M_powerOf_0 : decode b_M_powerOf 0 = .ok (.aload_n 0, 1) := by decide +kernel
theorem d_M_powerOf_1 : decode b_M_powerOf 1 = .ok (.iload_n 1, 1) := by decide +kernel
theorem d_M_powerOf_2 : decode b_M_powerOf 2 = .ok (.lload_n 2, 1) := by decide +kernel
theorem d_M_powerOf_3 : decode b_M_powerOf 3 = .ok (.invokevirtual 85, 3) := by decide +kernel
theorem d_M_powerOf_6 : decode b_M_powerOf 6 = .ok (.istore 4, 2) := by decide +kernel
theorem d_M_powerOf_8 : decode b_M_powerOf 8 = .ok (.lload_n 2, 1) := by decide +kernel
theorem d_M_powerOf_9 : decode b_M_powerOf 9 = .ok (.aload_n 0, 1) := by decide +kernel
theorem d_M_powerOf_10 : decode b_M_powerOf 10 = .ok (.iload_n 1, 1) := by decide +kernel
theorem d_M_powerOf_11 : decode b_M_powerOf 11 = .ok (.invokevirtual 65, 3) := by decide +kernel
theorem d_M_powerOf_14 : decode b_M_powerOf 14 = .ok (.lconst 1, 1) := by decide +kernel
theorem d_M_powerOf_15 : decode b_M_powerOf 15 = .ok (.lsub, 1) := by decide +kernel
theorem d_M_powerOf_16 : decode b_M_powerOf 16 = .ok (.land, 1) := by decide +kernel
theorem d_M_powerOf_17 : decode b_M_powerOf 17 = .ok (.aload_n 0, 1) := by decide +kernel
theorem d_M_powerOf_18 : decode b_M_powerOf 18 = .ok (.getfield 13, 3) := by decide +kernel
theorem d_M_powerOf_21 : decode b_M_powerOf 21 = .ok (.iload_n 1, 1) := by decide +kernel
theorem d_M_powerOf_22 : decode b_M_powerOf 22 = .ok (.iaload, 1) := by decide +kernel
theorem d_M_powerOf_23 : decode b_M_powerOf 23 = .ok (.lshr, 1) := by decide +kernel
theorem d_M_powerOf_24 : decode b_M_powerOf 24 = .ok (.l2i, 1) := by decide +kernel
theorem d_M_powerOf_25 : decode b_M_powerOf 25 = .ok (.istore 5, 2) := by decide +kernel
theorem d_M_powerOf_27 : decode b_M_powerOf 27 = .ok (.iload 4, 2) := by decide +kernel
theorem d_M_powerOf_29 : decode b_M_powerOf 29 = .ok (.iconst 1, 1) := by decide +kernel
theorem d_M_powerOf_30 : decode b_M_powerOf 30 = .ok (.if_icmp .ne 20, 3) := by decide +kernel
theorem d_M_powerOf_33 : decode b_M_powerOf 33 = .ok (.iconst 1, 1) := by decide +kernel
theorem d_M_powerOf_34 : decode b_M_powerOf 34 = .ok (.aload_n 0, 1) := by decide +kernel
theorem d_M_powerOf_35 : decode b_M_powerOf 35 = .ok (.iload_n 1, 1) := by decide +kernel
theorem d_M_powerOf_36 : decode b_M_powerOf 36 = .ok (.invokevirtual 89, 3) := by decide +kernel
theorem d_M_powerOf_39 : decode b_M_powerOf 39 = .ok (.isub, 1) := by decide +kernel
theorem d_M_powerOf_40 : decode b_M_powerOf 40 = .ok (.aload_n 0, 1) := by decide +kernel
theorem d_M_powerOf_41 : decode b_M_powerOf 41 = .ok (.getfield 13, 3) := by decide +kernel
theorem d_M_powerOf_44 : decode b_M_powerOf 44 = .ok (.iload_n 1, 1) := by decide +kernel
theorem d_M_powerOf_45 : decode b_M_powerOf 45 = .ok (.iaload, 1) := by decide +kernel
theorem d_M_powerOf_46 : decode b_M_powerOf 46 = .ok (.isub, 1) := by decide +kernel
theorem d_M_powerOf_47 : decode b_M_powerOf 47 = .ok (.goto 28, 3) := by decide +kernel
theorem d_M_powerOf_50 : decode b_M_powerOf 50 = .ok (.iload 4, 2) := by decide +kernel
theorem d_M_powerOf_52 : decode b_M_powerOf 52 = .ok (.iconst 2, 1) := by decide +kernel
theorem d_M_powerOf_53 : decode b_M_powerOf 53 = .ok (.if_icmp .ne 21, 3) := by decide +kernel
theorem d_M_powerOf_56 : decode b_M_powerOf 56 = .ok (.iload 5, 2) := by decide +kernel
theorem d_M_powerOf_58 : decode b_M_powerOf 58 = .ok (.aload_n 0, 1) := by decide +kernel
theorem d_M_powerOf_59 : decode b_M_powerOf 59 = .ok (.iload_n 1, 1) := by decide +kernel
theorem d_M_powerOf_60 : decode b_M_powerOf 60 = .ok (.invokevirtual 89, 3) := by decide +kernel
theorem d_M_powerOf_63 : decode b_M_powerOf 63 = .ok (.isub, 1) := by decide +kernel
theorem d_M_powerOf_64 : decode b_M_powerOf 64 = .ok (.aload_n 0, 1) := by decide +kernel
theorem d_M_powerOf_65 : decode b_M_powerOf 65 = .ok (.getfield 13, 3) := by decide +kernel
theorem d_M_powerOf_68 : decode b_M_powerOf 68 = .ok (.iload_n 1, 1) := by decide +kernel
theorem d_M_powerOf_69 : decode b_M_powerOf 69 = .ok (.iaload, 1) := by decide +kernel
theorem d_M_powerOf_70 : decode b_M_powerOf 70 = .ok (.isub, 1) := by decide +kernel
theorem d_M_powerOf_71 : decode b_M_powerOf 71 = .ok (.goto 4, 3) := by decide +kernel
theorem d_M_powerOf_74 : decode b_M_powerOf 74 = .ok (.iconst 0, 1) := by decide +kernel
theorem d_M_powerOf_75 : decode b_M_powerOf 75 = .ok (.ireturn, 1) := by decide +kernel
theorem d_M_part_0 : decode b_M_part 0 = .ok (.iload_n 1, 1) := by decide +kernel
theorem d_M_part_1 : decode b_M_part 1 = .ok (.invokestatic 55, 3) := by decide +kernel
theorem d_M_part_4 : decode b_M_part 4 = .ok (.ifCond .eq 24, 3) := by decide +kernel
theorem d_M_part_7 : decode b_M_part 7 = .ok (.aload_n 0, 1) := by decide +kernel
theorem d_M_part_8 : decode b_M_part 8 = .ok (.iload_n 1, 1) := by decide +kernel
theorem d_M_part_9 : decode b_M_part 9 = .ok (.iload_n 2, 1) := by decide +kernel
theorem d_M_part_10 : decode b_M_part 10 = .ok (.invokevirtual 93, 3) := by decide +kernel
theorem d_M_part_13 : decode b_M_part 13 = .ok (.ifCond .eq 15, 3) := by decide +kernel
theorem d_M_part_16 : decode b_M_part 16 = .ok (.iload_n 3, 1) := by decide +kernel
theorem d_M_part_17 : decode b_M_part 17 = .ok (.i2l, 1) := by decide +kernel
theorem d_M_part_18 : decode b_M_part 18 = .ok (.lconst 0, 1) := by decide +kernel
theorem d_M_part_19 : decode b_M_part 19 = .ok (.ldc2_w 47, 3) := by decide +kernel
theorem d_M_part_22 : decode b_M_part 22 = .ok (.invokestatic 49, 3) := by decide +kernel
theorem d_M_part_25 : decode b_M_part 25 = .ok (.ifCond .ne 6, 3) := by decide +kernel
theorem d_M_part_28 : decode b_M_part 28 = .ok (.ldc 97, 2) := by decide +kernel
theorem d_M_part_30 : decode b_M_part 30 = .ok (.ireturn, 1) := by decide +kernel
theorem d_M_part_31 : decode b_M_part 31 = .ok (.aload_n 0, 1) := by decide +kernel
theorem d_M_part_32 : decode b_M_part 32 = .ok (.iload_n 1, 1) := by decide +kernel
theorem d_M_part_33 : decode b_M_part 33 = .ok (.iload_n 2, 1) := by decide +kernel
theorem d_M_part_34 : decode b_M_part 34 = .ok (.invokevirtual 81, 3) := by decide +kernel
theorem d_M_part_37 : decode b_M_part 37 = .ok (.lstore 4, 2) := by decide +kernel
theorem d_M_part_39 : decode b_M_part 39 = .ok (.iload_n 3, 1) := by decide +kernel
theorem d_M_part_40 : decode b_M_part 40 = .ok (.tableswitch 61 0 2 #[28, 36, 52], 28) := by decide +kernel
theorem d_M_part_68 : decode b_M_part 68 = .ok (.aload_n 0, 1) := by decide +kernel
theorem d_M_part_69 : decode b_M_part 69 = .ok (.iload_n 1, 1) := by decide +kernel
theorem d_M_part_70 : decode b_M_part 70 = .ok (.lload 4, 2) := by decide +kernel
theorem d_M_part_72 : decode b_M_part 72 = .ok (.invokevirtual 85, 3) := by decide +kernel
theorem d_M_part_75 : decode b_M_part 75 = .ok (.ireturn, 1) := by decide +kernel
theorem d_M_part_76 : decode b_M_part 76 = .ok (.aload_n 0, 1) := by decide +kernel
theorem d_M_part_77 : decode b_M_part 77 = .ok (.iload_n 1, 1) := by decide +kernel
theorem d_M_part_78 : decode b_M_part 78 = .ok (.lload 4, 2) := by decide +kernel
theorem d_M_part_80 : decode b_M_part 80 = .ok (.invokevirtual 98, 3) := by decide +kernel
theorem d_M_part_83 : decode b_M_part 83 = .ok (.ifCond .eq 7, 3) := by decide +kernel
theorem d_M_part_86 : decode b_M_part 86 = .ok (.iconst 1, 1) := by decide +kernel
theorem d_M_part_87 : decode b_M_part 87 = .ok (.goto 4, 3) := by decide +kernel
theorem d_M_part_90 : decode b_M_part 90 = .ok (.iconst 0, 1) := by decide +kernel
theorem d_M_part_91 : decode b_M_part 91 = .ok (.ireturn, 1) := by decide +kernel
theorem d_M_part_92 : decode b_M_part 92 = .ok (.aload_n 0, 1) := by decide +kernel
theorem d_M_part_93 : decode b_M_part 93 = .ok (.iload_n 1, 1) := by decide +kernel
theorem d_M_part_94 : decode b_M_part 94 = .ok (.lload 4, 2) := by decide +kernel
theorem d_M_part_96 : decode b_M_part 96 = .ok (.invokevirtual 102, 3) := by decide +kernel
theorem d_M_part_99 : decode b_M_part 99 = .ok (.l2i, 1) := by decide +kernel
theorem d_M_part_100 : decode b_M_part 100 = .ok (.ireturn, 1) := by decide +kernel
theorem d_M_part_101 : decode b_M_part 101 = .ok (.aload_n 0, 1) := by decide +kernel
theorem d_M_part_102 : decode b_M_part 102 = .ok (.iload_n 1, 1) := by decide +kernel
theorem d_M_part_103 : decode b_M_part 103 = .ok (.lload 4, 2) := by decide +kernel
theorem d_M_part_105 : decode b_M_part 105 = .ok (.invokevirtual 106, 3) := by decide +kernel
theorem d_M_part_108 : decode b_M_part 108 = .ok (.ireturn, 1) := by decide +kernel
theorem d_M_begin_0 : decode b_M_begin 0 = .ok (.iconst 0, 1) := by decide +kernel
theorem d_M_begin_1 : decode b_M_begin 1 = .ok (.istore_n 1, 1) := by decide +kernel
theorem d_M_begin_2 : decode b_M_begin 2 = .ok (.iload_n 1, 1) := by decide +kernel
theorem d_M_begin_3 : decode b_M_begin 3 = .ok (.bipush 24, 2) := by decide +kernel
theorem d_M_begin_5 : decode b_M_begin 5 = .ok (.if_icmp .ge 16, 3) := by decide +kernel
theorem d_M_begin_8 : decode b_M_begin 8 = .ok (.aload_n 0, 1) := by decide +kernel
theorem d_M_begin_9 : decode b_M_begin 9 = .ok (.getfield 29, 3) := by decide +kernel
theorem d_M_begin_12 : decode b_M_begin 12 = .ok (.iload_n 1, 1) := by decide +kernel
theorem d_M_begin_13 : decode b_M_begin 13 = .ok (.lconst 0, 1) := by decide +kernel
theorem d_M_begin_14 : decode b_M_begin 14 = .ok (.lastore, 1) := by decide +kernel
theorem d_M_begin_15 : decode b_M_begin 15 = .ok (.iinc 1 1, 3) := by decide +kernel
theorem d_M_begin_18 : decode b_M_begin 18 = .ok (.goto (-16), 3) := by decide +kernel
theorem d_M_begin_21 : decode b_M_begin 21 = .ok (.aload_n 0, 1) := by decide +kernel
theorem d_M_begin_22 : decode b_M_begin 22 = .ok (.iconst 0, 1) := by decide +kernel
theorem d_M_begin_23 : decode b_M_begin 23 = .ok (.putfield 109, 3) := by decide +kernel
theorem d_M_begin_26 : decode b_M_begin 26 = .ok (.aload_n 0, 1) := by decide +kernel
theorem d_M_begin_27 : decode b_M_begin 27 = .ok (.iconst 0, 1) := by decide +kernel
theorem d_M_begin_28 : decode b_M_begin 28 = .ok (.putfield 112, 3) := by decide +kernel
theorem d_M_begin_31 : decode b_M_begin 31 = .ok (.aload_n 0, 1) := by decide +kernel
theorem d_M_begin_32 : decode b_M_begin 32 = .ok (.iconst 0, 1) := by decide +kernel
theorem d_M_begin_33 : decode b_M_begin 33 = .ok (.putfield 116, 3) := by decide +kernel
theorem d_M_begin_36 : decode b_M_begin 36 = .ok (.aload_n 0, 1) := by decide +kernel
theorem d_M_begin_37 : decode b_M_begin 37 = .ok (.iconst 0, 1) := by decide +kernel
theorem d_M_begin_38 : decode b_M_begin 38 = .ok (.putfield 119, 3) := by decide +kernel
theorem d_M_begin_41 : decode b_M_begin 41 = .ok (.aload_n 0, 1) := by decide +kernel
theorem d_M_begin_42 : decode b_M_begin 42 = .ok (.iconst 0, 1) := by decide +kernel
theorem d_M_begin_43 : decode b_M_begin 43 = .ok (.putfield 122, 3) := by decide +kernel
theorem d_M_begin_46 : decode b_M_begin 46 = .ok (.aload_n 0, 1) := by decide +kernel
theorem d_M_begin_47 : decode b_M_begin 47 = .ok (.iconst 1, 1) := by decide +kernel
theorem d_M_begin_48 : decode b_M_begin 48 = .ok (.putfield 125, 3) := by decide +kernel
theorem d_M_begin_51 : decode b_M_begin 51 = .ok (.aload_n 0, 1) := by decide +kernel
theorem d_M_begin_52 : decode b_M_begin 52 = .ok (.iconst 0, 1) := by decide +kernel
theorem d_M_begin_53 : decode b_M_begin 53 = .ok (.putfield 128, 3) := by decide +kernel
theorem d_M_begin_56 : decode b_M_begin 56 = .ok (.aload_n 0, 1) := by decide +kernel
theorem d_M_begin_57 : decode b_M_begin 57 = .ok (.iconst 0, 1) := by decide +kernel
theorem d_M_begin_58 : decode b_M_begin 58 = .ok (.putfield 131, 3) := by decide +kernel
theorem d_M_begin_61 : decode b_M_begin 61 = .ok (.return_, 1) := by decide +kernel
theorem d_M_put_0 : decode b_M_put 0 = .ok (.iload_n 3, 1) := by decide +kernel
theorem d_M_put_1 : decode b_M_put 1 = .ok (.bipush 32, 2) := by decide +kernel
theorem d_M_put_3 : decode b_M_put 3 = .ok (.idiv, 1) := by decide +kernel
theorem d_M_put_4 : decode b_M_put 4 = .ok (.istore 5, 2) := by decide +kernel
theorem d_M_put_6 : decode b_M_put 6 = .ok (.lload_n 1, 1) := by decide +kernel
theorem d_M_put_7 : decode b_M_put 7 = .ok (.iload_n 3, 1) := by decide +kernel
theorem d_M_put_8 : decode b_M_put 8 = .ok (.bipush 32, 2) := by decide +kernel
theorem d_M_put_10 : decode b_M_put 10 = .ok (.irem, 1) := by decide +kernel
theorem d_M_put_11 : decode b_M_put 11 = .ok (.lshl, 1) := by decide +kernel
theorem d_M_put_12 : decode b_M_put 12 = .ok (.lstore 6, 2) := by decide +kernel
theorem d_M_put_14 : decode b_M_put 14 = .ok (.lload 6, 2) := by decide +kernel
theorem d_M_put_16 : decode b_M_put 16 = .ok (.ldc2_w 77, 3) := by decide +kernel
theorem d_M_put_19 : decode b_M_put 19 = .ok (.land, 1) := by decide +kernel
theorem d_M_put_20 : decode b_M_put 20 = .ok (.lstore 8, 2) := by decide +kernel
theorem d_M_put_22 : decode b_M_put 22 = .ok (.lload 6, 2) := by decide +kernel
theorem d_M_put_24 : decode b_M_put 24 = .ok (.bipush 32, 2) := by decide +kernel
theorem d_M_put_26 : decode b_M_put 26 = .ok (.lushr, 1) := by decide +kernel
theorem d_M_put_27 : decode b_M_put 27 = .ok (.lstore 10, 2) := by decide +kernel
theorem d_M_put_29 : decode b_M_put 29 = .ok (.lconst 0, 1) := by decide +kernel
theorem d_M_put_30 : decode b_M_put 30 = .ok (.lstore 12, 2) := by decide +kernel
theorem d_M_put_32 : decode b_M_put 32 = .ok (.iload 5, 2) := by decide +kernel
theorem d_M_put_34 : decode b_M_put 34 = .ok (.istore 14, 2) := by decide +kernel
theorem d_M_put_36 : decode b_M_put 36 = .ok (.iload 14, 2) := by decide +kernel
theorem d_M_put_38 : decode b_M_put 38 = .ok (.bipush 24, 2) := by decide +kernel
theorem d_M_put_40 : decode b_M_put 40 = .ok (.if_icmp .ge 84, 3) := by decide +kernel
theorem d_M_put_43 : decode b_M_put 43 = .ok (.iload 14, 2) := by decide +kernel
theorem d_M_put_45 : decode b_M_put 45 = .ok (.iload 5, 2) := by decide +kernel
theorem d_M_put_47 : decode b_M_put 47 = .ok (.if_icmp .ne 8, 3) := by decide +kernel
theorem d_M_put_50 : decode b_M_put 50 = .ok (.lload 8, 2) := by decide +kernel
theorem d_M_put_52 : decode b_M_put 52 = .ok (.goto 18, 3) := by decide +kernel
theorem d_M_put_55 : decode b_M_put 55 = .ok (.iload 14, 2) := by decide +kernel
theorem d_M_put_57 : decode b_M_put 57 = .ok (.iload 5, 2) := by decide +kernel
theorem d_M_put_59 : decode b_M_put 59 = .ok (.iconst 1, 1) := by decide +kernel
theorem d_M_put_60 : decode b_M_put 60 = .ok (.iadd, 1) := by decide +kernel
theorem d_M_put_61 : decode b_M_put 61 = .ok (.if_icmp .ne 8, 3) := by decide +kernel
theorem d_M_put_64 : decode b_M_put 64 = .ok (.lload 10, 2) := by decide +kernel
theorem d_M_put_66 : decode b_M_put 66 = .ok (.goto 4, 3) := by decide +kernel
theorem d_M_put_69 : decode b_M_put 69 = .ok (.lconst 0, 1) := by decide +kernel
theorem d_M_put_70 : decode b_M_put 70 = .ok (.lstore 15, 2) := by decide +kernel
theorem d_M_put_72 : decode b_M_put 72 = .ok (.aload_n 0, 1) := by decide +kernel
theorem d_M_put_73 : decode b_M_put 73 = .ok (.getfield 29, 3) := by decide +kernel
theorem d_M_put_76 : decode b_M_put 76 = .ok (.iload 14, 2) := by decide +kernel
theorem d_M_put_78 : decode b_M_put 78 = .ok (.laload, 1) := by decide +kernel
theorem d_M_put_79 : decode b_M_put 79 = .ok (.lload 12, 2) := by decide +kernel
theorem d_M_put_81 : decode b_M_put 81 = .ok (.ladd, 1) := by decide +kernel
theorem d_M_put_82 : decode b_M_put 82 = .ok (.iload 4, 2) := by decide +kernel
theorem d_M_put_84 : decode b_M_put 84 = .ok (.ifCond .eq 9, 3) := by decide +kernel
theorem d_M_put_87 : decode b_M_put 87 = .ok (.lload 15, 2) := by decide +kernel
theorem d_M_put_89 : decode b_M_put 89 = .ok (.lneg, 1) := by decide +kernel
theorem d_M_put_90 : decode b_M_put 90 = .ok (.goto 5, 3) := by decide +kernel
theorem d_M_put_93 : decode b_M_put 93 = .ok (.lload 15, 2) := by decide +kernel
theorem d_M_put_95 : decode b_M_put 95 = .ok (.ladd, 1) := by decide +kernel
theorem d_M_put_96 : decode b_M_put 96 = .ok (.lstore 17, 2) := by decide +kernel
theorem d_M_put_98 : decode b_M_put 98 = .ok (.aload_n 0, 1) := by decide +kernel
theorem d_M_put_99 : decode b_M_put 99 = .ok (.getfield 29, 3) := by decide +kernel
theorem d_M_put_102 : decode b_M_put 102 = .ok (.iload 14, 2) := by decide +kernel
theorem d_M_put_104 : decode b_M_put 104 = .ok (.lload 17, 2) := by decide +kernel
theorem d_M_put_106 : decode b_M_put 106 = .ok (.ldc2_w 77, 3) := by decide +kernel
theorem d_M_put_109 : decode b_M_put 109 = .ok (.land, 1) := by decide +kernel
theorem d_M_put_110 : decode b_M_put 110 = .ok (.lastore, 1) := by decide +kernel
theorem d_M_put_111 : decode b_M_put 111 = .ok (.lload 17, 2) := by decide +kernel
theorem d_M_put_113 : decode b_M_put 113 = .ok (.bipush 32, 2) := by decide +kernel
theorem d_M_put_115 : decode b_M_put 115 = .ok (.lshr, 1) := by decide +kernel
theorem d_M_put_116 : decode b_M_put 116 = .ok (.lstore 12, 2) := by decide +kernel
theorem d_M_put_118 : decode b_M_put 118 = .ok (.iinc 14 1, 3) := by decide +kernel
theorem d_M_put_121 : decode b_M_put 121 = .ok (.goto (-85), 3) := by decide +kernel
theorem d_M_put_124 : decode b_M_put 124 = .ok (.return_, 1) := by decide +kernel
theorem d_M_term_0 : decode b_M_term 0 = .ok (.aload_n 0, 1) := by decide +kernel
theorem d_M_term_1 : decode b_M_term 1 = .ok (.dup, 1) := by decide +kernel
theorem d_M_term_2 : decode b_M_term 2 = .ok (.getfield 109, 3) := by decide +kernel
theorem d_M_term_5 : decode b_M_term 5 = .ok (.iconst 1, 1) := by decide +kernel
theorem d_M_term_6 : decode b_M_term 6 = .ok (.iadd, 1) := by decide +kernel
theorem d_M_term_7 : decode b_M_term 7 = .ok (.putfield 109, 3) := by decide +kernel
theorem d_M_term_10 : decode b_M_term 10 = .ok (.aload_n 0, 1) := by decide +kernel
theorem d_M_term_11 : decode b_M_term 11 = .ok (.aload_n 0, 1) := by decide +kernel
theorem d_M_term_12 : decode b_M_term 12 = .ok (.getfield 128, 3) := by decide +kernel
theorem d_M_term_15 : decode b_M_term 15 = .ok (.ifCond .ne 7, 3) := by decide +kernel
theorem d_M_term_18 : decode b_M_term 18 = .ok (.iload_n 1, 1) := by decide +kernel
theorem d_M_term_19 : decode b_M_term 19 = .ok (.ifCond .ne 7, 3) := by decide +kernel
theorem d_M_term_22 : decode b_M_term 22 = .ok (.iconst 1, 1) := by decide +kernel
theorem d_M_term_23 : decode b_M_term 23 = .ok (.goto 4, 3) := by decide +kernel
theorem d_M_term_26 : decode b_M_term 26 = .ok (.iconst 0, 1) := by decide +kernel
theorem d_M_term_27 : decode b_M_term 27 = .ok (.putfield 128, 3) := by decide +kernel
theorem d_M_term_30 : decode b_M_term 30 = .ok (.aload_n 0, 1) := by decide +kernel
theorem d_M_term_31 : decode b_M_term 31 = .ok (.aload_n 0, 1) := by decide +kernel
theorem d_M_term_32 : decode b_M_term 32 = .ok (.getfield 131, 3) := by decide +kernel
theorem d_M_term_35 : decode b_M_term 35 = .ok (.ifCond .ne 7, 3) := by decide +kernel
theorem d_M_term_38 : decode b_M_term 38 = .ok (.iload_n 1, 1) := by decide +kernel
theorem d_M_term_39 : decode b_M_term 39 = .ok (.ifCond .eq 7, 3) := by decide +kernel
theorem d_M_term_42 : decode b_M_term 42 = .ok (.iconst 1, 1) := by decide +kernel
theorem d_M_term_43 : decode b_M_term 43 = .ok (.goto 4, 3) := by decide +kernel
theorem d_M_term_46 : decode b_M_term 46 = .ok (.iconst 0, 1) := by decide +kernel
theorem d_M_term_47 : decode b_M_term 47 = .ok (.putfield 131, 3) := by decide +kernel
theorem d_M_term_50 : decode b_M_term 50 = .ok (.iload_n 2, 1) := by decide +kernel
theorem d_M_term_51 : decode b_M_term 51 = .ok (.ifCond .eq 51, 3) := by decide +kernel
theorem d_M_term_54 : decode b_M_term 54 = .ok (.aload_n 0, 1) := by decide +kernel
theorem d_M_term_55 : decode b_M_term 55 = .ok (.iconst 0, 1) := by decide +kernel
theorem d_M_term_56 : decode b_M_term 56 = .ok (.putfield 125, 3) := by decide +kernel
theorem d_M_term_59 : decode b_M_term 59 = .ok (.aload_n 0, 1) := by decide +kernel
theorem d_M_term_60 : decode b_M_term 60 = .ok (.aload_n 0, 1) := by decide +kernel
theorem d_M_term_61 : decode b_M_term 61 = .ok (.getfield 119, 3) := by decide +kernel
theorem d_M_term_64 : decode b_M_term 64 = .ok (.ifCond .ne 7, 3) := by decide +kernel
theorem d_M_term_67 : decode b_M_term 67 = .ok (.iload_n 1, 1) := by decide +kernel
theorem d_M_term_68 : decode b_M_term 68 = .ok (.ifCond .ne 7, 3) := by decide +kernel
theorem d_M_term_71 : decode b_M_term 71 = .ok (.iconst 1, 1) := by decide +kernel
theorem d_M_term_72 : decode b_M_term 72 = .ok (.goto 4, 3) := by decide +kernel
theorem d_M_term_75 : decode b_M_term 75 = .ok (.iconst 0, 1) := by decide +kernel
theorem d_M_term_76 : decode b_M_term 76 = .ok (.putfield 119, 3) := by decide +kernel
theorem d_M_term_79 : decode b_M_term 79 = .ok (.aload_n 0, 1) := by decide +kernel
theorem d_M_term_80 : decode b_M_term 80 = .ok (.aload_n 0, 1) := by decide +kernel
theorem d_M_term_81 : decode b_M_term 81 = .ok (.getfield 122, 3) := by decide +kernel
theorem d_M_term_84 : decode b_M_term 84 = .ok (.ifCond .ne 7, 3) := by decide +kernel
theorem d_M_term_87 : decode b_M_term 87 = .ok (.iload_n 1, 1) := by decide +kernel
theorem d_M_term_88 : decode b_M_term 88 = .ok (.ifCond .eq 7, 3) := by decide +kernel
theorem d_M_term_91 : decode b_M_term 91 = .ok (.iconst 1, 1) := by decide +kernel
theorem d_M_term_92 : decode b_M_term 92 = .ok (.goto 4, 3) := by decide +kernel
theorem d_M_term_95 : decode b_M_term 95 = .ok (.iconst 0, 1) := by decide +kernel
theorem d_M_term_96 : decode b_M_term 96 = .ok (.putfield 122, 3) := by decide +kernel
theorem d_M_term_99 : decode b_M_term 99 = .ok (.goto 48, 3) := by decide +kernel
theorem d_M_term_102 : decode b_M_term 102 = .ok (.lload_n 3, 1) := by decide +kernel
theorem d_M_term_103 : decode b_M_term 103 = .ok (.lconst 0, 1) := by decide +kernel
theorem d_M_term_104 : decode b_M_term 104 = .ok (.lcmp, 1) := by decide +kernel
theorem d_M_term_105 : decode b_M_term 105 = .ok (.ifCond .eq 42, 3) := by decide +kernel
theorem d_M_term_108 : decode b_M_term 108 = .ok (.aload_n 0, 1) := by decide +kernel
theorem d_M_term_109 : decode b_M_term 109 = .ok (.iconst 0, 1) := by decide +kernel
theorem d_M_term_110 : decode b_M_term 110 = .ok (.putfield 125, 3) := by decide +kernel
theorem d_M_term_113 : decode b_M_term 113 = .ok (.aload_n 0, 1) := by decide +kernel
theorem d_M_term_114 : decode b_M_term 114 = .ok (.lload_n 3, 1) := by decide +kernel
theorem d_M_term_115 : decode b_M_term 115 = .ok (.ldc2_w 134, 3) := by decide +kernel
theorem d_M_term_118 : decode b_M_term 118 = .ok (.land, 1) := by decide +kernel
theorem d_M_term_119 : decode b_M_term 119 = .ok (.iload 5, 2) := by decide +kernel
theorem d_M_term_121 : decode b_M_term 121 = .ok (.sipush (-352), 3) := by decide +kernel
theorem d_M_term_124 : decode b_M_term 124 = .ok (.isub, 1) := by decide +kernel
theorem d_M_term_125 : decode b_M_term 125 = .ok (.iload_n 1, 1) := by decide +kernel
theorem d_M_term_126 : decode b_M_term 126 = .ok (.invokevirtual 136, 3) := by decide +kernel
theorem d_M_term_129 : decode b_M_term 129 = .ok (.aload_n 0, 1) := by decide +kernel
theorem d_M_term_130 : decode b_M_term 130 = .ok (.lload_n 3, 1) := by decide +kernel
theorem d_M_term_131 : decode b_M_term 131 = .ok (.bipush 24, 2) := by decide +kernel
theorem d_M_term_133 : decode b_M_term 133 = .ok (.lshr, 1) := by decide +kernel
theorem d_M_term_134 : decode b_M_term 134 = .ok (.iload 5, 2) := by decide +kernel
theorem d_M_term_136 : decode b_M_term 136 = .ok (.sipush (-352), 3) := by decide +kernel
theorem d_M_term_139 : decode b_M_term 139 = .ok (.isub, 1) := by decide +kernel
theorem d_M_term_140 : decode b_M_term 140 = .ok (.bipush 24, 2) := by decide +kernel
theorem d_M_term_142 : decode b_M_term 142 = .ok (.iadd, 1) := by decide +kernel
theorem d_M_term_143 : decode b_M_term 143 = .ok (.iload_n 1, 1) := by decide +kernel
theorem d_M_term_144 : decode b_M_term 144 = .ok (.invokevirtual 136, 3) := by decide +kernel
theorem d_M_term_147 : decode b_M_term 147 = .ok (.return_, 1) := by decide +kernel
theorem d_M_value_0 : decode b_M_value 0 = .ok (.aload_n 0, 1) := by decide +kernel
theorem d_M_value_1 : decode b_M_value 1 = .ok (.iload_n 1, 1) := by decide +kernel
theorem d_M_value_2 : decode b_M_value 2 = .ok (.lload_n 2, 1) := by decide +kernel
theorem d_M_value_3 : decode b_M_value 3 = .ok (.invokevirtual 85, 3) := by decide +kernel
theorem d_M_value_6 : decode b_M_value 6 = .ok (.istore 6, 2) := by decide +kernel
theorem d_M_value_8 : decode b_M_value 8 = .ok (.aload_n 0, 1) := by decide +kernel
theorem d_M_value_9 : decode b_M_value 9 = .ok (.aload_n 0, 1) := by decide +kernel
theorem d_M_value_10 : decode b_M_value 10 = .ok (.getfield 112, 3) := by decide +kernel
theorem d_M_value_13 : decode b_M_value 13 = .ok (.ifCond .ne 9, 3) := by decide +kernel
theorem d_M_value_16 : decode b_M_value 16 = .ok (.iload 6, 2) := by decide +kernel
theorem d_M_value_18 : decode b_M_value 18 = .ok (.iconst 4, 1) := by decide +kernel
theorem d_M_value_19 : decode b_M_value 19 = .ok (.if_icmp .ne 7, 3) := by decide +kernel
theorem d_M_value_22 : decode b_M_value 22 = .ok (.iconst 1, 1) := by decide +kernel
theorem d_M_value_23 : decode b_M_value 23 = .ok (.goto 4, 3) := by decide +kernel
theorem d_M_value_26 : decode b_M_value 26 = .ok (.iconst 0, 1) := by decide +kernel
theorem d_M_value_27 : decode b_M_value 27 = .ok (.putfield 112, 3) := by decide +kernel
theorem d_M_value_30 : decode b_M_value 30 = .ok (.aload_n 0, 1) := by decide +kernel
theorem d_M_value_31 : decode b_M_value 31 = .ok (.aload_n 0, 1) := by decide +kernel
theorem d_M_value_32 : decode b_M_value 32 = .ok (.iload_n 1, 1) := by decide +kernel
theorem d_M_value_33 : decode b_M_value 33 = .ok (.lload_n 2, 1) := by decide +kernel
theorem d_M_value_34 : decode b_M_value 34 = .ok (.invokevirtual 98, 3) := by decide +kernel
theorem d_M_value_37 : decode b_M_value 37 = .ok (.iload 4, 2) := by decide +kernel
theorem d_M_value_39 : decode b_M_value 39 = .ok (.if_icmp .eq 7, 3) := by decide +kernel
theorem d_M_value_42 : decode b_M_value 42 = .ok (.iconst 1, 1) := by decide +kernel
theorem d_M_value_43 : decode b_M_value 43 = .ok (.goto 4, 3) := by decide +kernel
theorem d_M_value_46 : decode b_M_value 46 = .ok (.iconst 0, 1) := by decide +kernel
theorem d_M_value_47 : decode b_M_value 47 = .ok (.iload 6, 2) := by decide +kernel
theorem d_M_value_49 : decode b_M_value 49 = .ok (.iconst 3, 1) := by decide +kernel
theorem d_M_value_50 : decode b_M_value 50 = .ok (.if_icmp .ne 7, 3) := by decide +kernel
theorem d_M_value_53 : decode b_M_value 53 = .ok (.iconst 1, 1) := by decide +kernel
theorem d_M_value_54 : decode b_M_value 54 = .ok (.goto 4, 3) := by decide +kernel
theorem d_M_value_57 : decode b_M_value 57 = .ok (.iconst 0, 1) := by decide +kernel
theorem d_M_value_58 : decode b_M_value 58 = .ok (.aload_n 0, 1) := by decide +kernel
theorem d_M_value_59 : decode b_M_value 59 = .ok (.iload_n 1, 1) := by decide +kernel
theorem d_M_value_60 : decode b_M_value 60 = .ok (.lload_n 2, 1) := by decide +kernel
theorem d_M_value_61 : decode b_M_value 61 = .ok (.invokevirtual 102, 3) := by decide +kernel
theorem d_M_value_64 : decode b_M_value 64 = .ok (.aload_n 0, 1) := by decide +kernel
theorem d_M_value_65 : decode b_M_value 65 = .ok (.iload_n 1, 1) := by decide +kernel
theorem d_M_value_66 : decode b_M_value 66 = .ok (.lload_n 2, 1) := by decide +kernel
theorem d_M_value_67 : decode b_M_value 67 = .ok (.invokevirtual 106, 3) := by decide +kernel
theorem d_M_value_70 : decode b_M_value 70 = .ok (.iload 5, 2) := by decide +kernel
theorem d_M_value_72 : decode b_M_value 72 = .ok (.iadd, 1) := by decide +kernel
theorem d_M_value_73 : decode b_M_value 73 = .ok (.invokevirtual 140, 3) := by decide +kernel
theorem d_M_value_76 : decode b_M_value 76 = .ok (.return_, 1) := by decide +kernel
theorem d_M_product_0 : decode b_M_product 0 = .ok (.aload_n 0, 1) := by decide +kernel
theorem d_M_product_1 : decode b_M_product 1 = .ok (.iload_n 1, 1) := by decide +kernel
theorem d_M_product_2 : decode b_M_product 2 = .ok (.lload_n 2, 1) := by decide +kernel
theorem d_M_product_3 : decode b_M_product 3 = .ok (.invokevirtual 85, 3) := by decide +kernel
theorem d_M_product_6 : decode b_M_product 6 = .ok (.istore 8, 2) := by decide +kernel
theorem d_M_product_8 : decode b_M_product 8 = .ok (.aload_n 0, 1) := by decide +kernel
theorem d_M_product_9 : decode b_M_product 9 = .ok (.iload 4, 2) := by decide +kernel
theorem d_M_product_11 : decode b_M_product 11 = .ok (.lload 5, 2) := by decide +kernel
theorem d_M_product_13 : decode b_M_product 13 = .ok (.invokevirtual 85, 3) := by decide +kernel
theorem d_M_product_16 : decode b_M_product 16 = .ok (.istore 9, 2) := by decide +kernel
theorem d_M_product_18 : decode b_M_product 18 = .ok (.aload_n 0, 1) := by decide +kernel
theorem d_M_product_19 : decode b_M_product 19 = .ok (.aload_n 0, 1) := by decide +kernel
theorem d_M_product_20 : decode b_M_product 20 = .ok (.getfield 112, 3) := by decide +kernel
theorem d_M_product_23 : decode b_M_product 23 = .ok (.ifCond .ne 15, 3) := by decide +kernel
theorem d_M_product_26 : decode b_M_product 26 = .ok (.iload 8, 2) := by decide +kernel
theorem d_M_product_28 : decode b_M_product 28 = .ok (.iconst 4, 1) := by decide +kernel
theorem d_M_product_29 : decode b_M_product 29 = .ok (.if_icmp .eq 9, 3) := by decide +kernel
theorem d_M_product_32 : decode b_M_product 32 = .ok (.iload 9, 2) := by decide +kernel
theorem d_M_product_34 : decode b_M_product 34 = .ok (.iconst 4, 1) := by decide +kernel
theorem d_M_product_35 : decode b_M_product 35 = .ok (.if_icmp .ne 7, 3) := by decide +kernel
theorem d_M_product_38 : decode b_M_product 38 = .ok (.iconst 1, 1) := by decide +kernel
theorem d_M_product_39 : decode b_M_product 39 = .ok (.goto 4, 3) := by decide +kernel
theorem d_M_product_42 : decode b_M_product 42 = .ok (.iconst 0, 1) := by decide +kernel
theorem d_M_product_43 : decode b_M_product 43 = .ok (.putfield 112, 3) := by decide +kernel
theorem d_M_product_46 : decode b_M_product 46 = .ok (.aload_n 0, 1) := by decide +kernel
theorem d_M_product_47 : decode b_M_product 47 = .ok (.aload_n 0, 1) := by decide +kernel
theorem d_M_product_48 : decode b_M_product 48 = .ok (.getfield 116, 3) := by decide +kernel
theorem d_M_product_51 : decode b_M_product 51 = .ok (.ifCond .ne 25, 3) := by decide +kernel
theorem d_M_product_54 : decode b_M_product 54 = .ok (.iload 8, 2) := by decide +kernel
theorem d_M_product_56 : decode b_M_product 56 = .ok (.iconst 3, 1) := by decide +kernel
theorem d_M_product_57 : decode b_M_product 57 = .ok (.if_icmp .ne 8, 3) := by decide +kernel
theorem d_M_product_60 : decode b_M_product 60 = .ok (.iload 9, 2) := by decide +kernel
theorem d_M_product_62 : decode b_M_product 62 = .ok (.ifCond .eq 14, 3) := by decide +kernel
theorem d_M_product_65 : decode b_M_product 65 = .ok (.iload 8, 2) := by decide +kernel
theorem d_M_product_67 : decode b_M_product 67 = .ok (.ifCond .ne 13, 3) := by decide +kernel
theorem d_M_product_70 : decode b_M_product 70 = .ok (.iload 9, 2) := by decide +kernel
theorem d_M_product_72 : decode b_M_product 72 = .ok (.iconst 3, 1) := by decide +kernel
theorem d_M_product_73 : decode b_M_product 73 = .ok (.if_icmp .ne 7, 3) := by decide +kernel
theorem d_M_product_76 : decode b_M_product 76 = .ok (.iconst 1, 1) := by decide +kernel
theorem d_M_product_77 : decode b_M_product 77 = .ok (.goto 4, 3) := by decide +kernel
theorem d_M_product_80 : decode b_M_product 80 = .ok (.iconst 0, 1) := by decide +kernel
theorem d_M_product_81 : decode b_M_product 81 = .ok (.putfield 116, 3) := by decide +kernel
theorem d_M_product_84 : decode b_M_product 84 = .ok (.aload_n 0, 1) := by decide +kernel
theorem d_M_product_85 : decode b_M_product 85 = .ok (.aload_n 0, 1) := by decide +kernel
theorem d_M_product_86 : decode b_M_product 86 = .ok (.iload_n 1, 1) := by decide +kernel
theorem d_M_product_87 : decode b_M_product 87 = .ok (.lload_n 2, 1) := by decide +kernel
theorem d_M_product_88 : decode b_M_product 88 = .ok (.invokevirtual 98, 3) := by decide +kernel
theorem d_M_product_91 : decode b_M_product 91 = .ok (.aload_n 0, 1) := by decide +kernel
theorem d_M_product_92 : decode b_M_product 92 = .ok (.iload 4, 2) := by decide +kernel
theorem d_M_product_94 : decode b_M_product 94 = .ok (.lload 5, 2) := by decide +kernel
theorem d_M_product_96 : decode b_M_product 96 = .ok (.invokevirtual 98, 3) := by decide +kernel
theorem d_M_product_99 : decode b_M_product 99 = .ok (.if_icmp .eq 7, 3) := by decide +kernel
theorem d_M_product_102 : decode b_M_product 102 = .ok (.iconst 1, 1) := by decide +kernel
theorem d_M_product_103 : decode b_M_product 103 = .ok (.goto 4, 3) := by decide +kernel
theorem d_M_product_106 : decode b_M_product 106 = .ok (.iconst 0, 1) := by decide +kernel
theorem d_M_product_107 : decode b_M_product 107 = .ok (.iload 7, 2) := by decide +kernel
theorem d_M_product_109 : decode b_M_product 109 = .ok (.if_icmp .eq 7, 3) := by decide +kernel
theorem d_M_product_112 : decode b_M_product 112 = .ok (.iconst 1, 1) := by decide +kernel
theorem d_M_product_113 : decode b_M_product 113 = .ok (.goto 4, 3) := by decide +kernel
theorem d_M_product_116 : decode b_M_product 116 = .ok (.iconst 0, 1) := by decide +kernel
theorem d_M_product_117 : decode b_M_product 117 = .ok (.iload 8, 2) := by decide +kernel
theorem d_M_product_119 : decode b_M_product 119 = .ok (.iconst 3, 1) := by decide +kernel
theorem d_M_product_120 : decode b_M_product 120 = .ok (.if_icmp .eq 9, 3) := by decide +kernel
theorem d_M_product_123 : decode b_M_product 123 = .ok (.iload 9, 2) := by decide +kernel
theorem d_M_product_125 : decode b_M_product 125 = .ok (.iconst 3, 1) := by decide +kernel
theorem d_M_product_126 : decode b_M_product 126 = .ok (.if_icmp .ne 7, 3) := by decide +kernel
theorem d_M_product_129 : decode b_M_product 129 = .ok (.iconst 1, 1) := by decide +kernel
theorem d_M_product_130 : decode b_M_product 130 = .ok (.goto 4, 3) := by decide +kernel
theorem d_M_product_133 : decode b_M_product 133 = .ok (.iconst 0, 1) := by decide +kernel
theorem d_M_product_134 : decode b_M_product 134 = .ok (.aload_n 0, 1) := by decide +kernel
theorem d_M_product_135 : decode b_M_product 135 = .ok (.iload_n 1, 1) := by decide +kernel
theorem d_M_product_136 : decode b_M_product 136 = .ok (.lload_n 2, 1) := by decide +kernel
theorem d_M_product_137 : decode b_M_product 137 = .ok (.invokevirtual 102, 3) := by decide +kernel
theorem d_M_product_140 : decode b_M_product 140 = .ok (.aload_n 0, 1) := by decide +kernel
theorem d_M_product_141 : decode b_M_product 141 = .ok (.iload 4, 2) := by decide +kernel
theorem d_M_product_143 : decode b_M_product 143 = .ok (.lload 5, 2) := by decide +kernel
theorem d_M_product_145 : decode b_M_product 145 = .ok (.invokevirtual 102, 3) := by decide +kernel
theorem d_M_product_148 : decode b_M_product 148 = .ok (.lmul, 1) := by decide +kernel
theorem d_M_product_149 : decode b_M_product 149 = .ok (.aload_n 0, 1) := by decide +kernel
theorem d_M_product_150 : decode b_M_product 150 = .ok (.iload_n 1, 1) := by decide +kernel
theorem d_M_product_151 : decode b_M_product 151 = .ok (.lload_n 2, 1) := by decide +kernel
theorem d_M_product_152 : decode b_M_product 152 = .ok (.invokevirtual 106, 3) := by decide +kernel
theorem d_M_product_155 : decode b_M_product 155 = .ok (.aload_n 0, 1) := by decide +kernel
theorem d_M_product_156 : decode b_M_product 156 = .ok (.iload 4, 2) := by decide +kernel
theorem d_M_product_158 : decode b_M_product 158 = .ok (.lload 5, 2) := by decide +kernel
theorem d_M_product_160 : decode b_M_product 160 = .ok (.invokevirtual 106, 3) := by decide +kernel
theorem d_M_product_163 : decode b_M_product 163 = .ok (.iadd, 1) := by decide +kernel
theorem d_M_product_164 : decode b_M_product 164 = .ok (.invokevirtual 140, 3) := by decide +kernel
theorem d_M_product_167 : decode b_M_product 167 = .ok (.return_, 1) := by decide +kernel
theorem d_M_bitAt_0 : decode b_M_bitAt 0 = .ok (.iload_n 1, 1) := by decide +kernel
theorem d_M_bitAt_1 : decode b_M_bitAt 1 = .ok (.ifCond .ge 7, 3) := by decide +kernel
theorem d_M_bitAt_4 : decode b_M_bitAt 4 = .ok (.iconst 0, 1) := by decide +kernel
theorem d_M_bitAt_5 : decode b_M_bitAt 5 = .ok (.goto 20, 3) := by decide +kernel
theorem d_M_bitAt_8 : decode b_M_bitAt 8 = .ok (.aload_n 0, 1) := by decide +kernel
theorem d_M_bitAt_9 : decode b_M_bitAt 9 = .ok (.getfield 29, 3) := by decide +kernel
theorem d_M_bitAt_12 : decode b_M_bitAt 12 = .ok (.iload_n 1, 1) := by decide +kernel
theorem d_M_bitAt_13 : decode b_M_bitAt 13 = .ok (.bipush 32, 2) := by decide +kernel
theorem d_M_bitAt_15 : decode b_M_bitAt 15 = .ok (.idiv, 1) := by decide +kernel
theorem d_M_bitAt_16 : decode b_M_bitAt 16 = .ok (.laload, 1) := by decide +kernel
theorem d_M_bitAt_17 : decode b_M_bitAt 17 = .ok (.iload_n 1, 1) := by decide +kernel
theorem d_M_bitAt_18 : decode b_M_bitAt 18 = .ok (.bipush 32, 2) := by decide +kernel
theorem d_M_bitAt_20 : decode b_M_bitAt 20 = .ok (.irem, 1) := by decide +kernel
theorem d_M_bitAt_21 : decode b_M_bitAt 21 = .ok (.lshr, 1) := by decide +kernel
theorem d_M_bitAt_22 : decode b_M_bitAt 22 = .ok (.lconst 1, 1) := by decide +kernel
theorem d_M_bitAt_23 : decode b_M_bitAt 23 = .ok (.land, 1) := by decide +kernel
theorem d_M_bitAt_24 : decode b_M_bitAt 24 = .ok (.l2i, 1) := by decide +kernel
theorem d_M_bitAt_25 : decode b_M_bitAt 25 = .ok (.ireturn, 1) := by decide +kernel
theorem d_M_hasLower_0 : decode b_M_hasLower 0 = .ok (.iconst 0, 1) := by decide +kernel
theorem d_M_hasLower_1 : decode b_M_hasLower 1 = .ok (.istore_n 2, 1) := by decide +kernel
theorem d_M_hasLower_2 : decode b_M_hasLower 2 = .ok (.iload_n 2, 1) := by decide +kernel
theorem d_M_hasLower_3 : decode b_M_hasLower 3 = .ok (.iload_n 1, 1) := by decide +kernel
theorem d_M_hasLower_4 : decode b_M_hasLower 4 = .ok (.if_icmp .ge 20, 3) := by decide +kernel
theorem d_M_hasLower_7 : decode b_M_hasLower 7 = .ok (.aload_n 0, 1) := by decide +kernel
theorem d_M_hasLower_8 : decode b_M_hasLower 8 = .ok (.iload_n 2, 1) := by decide +kernel
theorem d_M_hasLower_9 : decode b_M_hasLower 9 = .ok (.invokevirtual 144, 3) := by decide +kernel
theorem d_M_hasLower_12 : decode b_M_hasLower 12 = .ok (.iconst 1, 1) := by decide +kernel
theorem d_M_hasLower_13 : decode b_M_hasLower 13 = .ok (.if_icmp .ne 5, 3) := by decide +kernel
theorem d_M_hasLower_16 : decode b_M_hasLower 16 = .ok (.iconst 1, 1) := by decide +kernel
theorem d_M_hasLower_17 : decode b_M_hasLower 17 = .ok (.ireturn, 1) := by decide +kernel
theorem d_M_hasLower_18 : decode b_M_hasLower 18 = .ok (.iinc 2 1, 3) := by decide +kernel
theorem d_M_hasLower_21 : decode b_M_hasLower 21 = .ok (.goto (-19), 3) := by decide +kernel
theorem d_M_hasLower_24 : decode b_M_hasLower 24 = .ok (.iconst 0, 1) := by decide +kernel
theorem d_M_hasLower_25 : decode b_M_hasLower 25 = .ok (.ireturn, 1) := by decide +kernel
theorem d_M_negate_0 : decode b_M_negate 0 = .ok (.lconst 1, 1) := by decide +kernel
theorem d_M_negate_1 : decode b_M_negate 1 = .ok (.lstore_n 1, 1) := by decide +kernel
theorem d_M_negate_2 : decode b_M_negate 2 = .ok (.iconst 0, 1) := by decide +kernel
theorem d_M_negate_3 : decode b_M_negate 3 = .ok (.istore_n 3, 1) := by decide +kernel
theorem d_M_negate_4 : decode b_M_negate 4 = .ok (.iload_n 3, 1) := by decide +kernel
theorem d_M_negate_5 : decode b_M_negate 5 = .ok (.bipush 24, 2) := by decide +kernel
theorem d_M_negate_7 : decode b_M_negate 7 = .ok (.if_icmp .ge 45, 3) := by decide +kernel
theorem d_M_negate_10 : decode b_M_negate 10 = .ok (.aload_n 0, 1) := by decide +kernel
theorem d_M_negate_11 : decode b_M_negate 11 = .ok (.getfield 29, 3) := by decide +kernel
theorem d_M_negate_14 : decode b_M_negate 14 = .ok (.iload_n 3, 1) := by decide +kernel
theorem d_M_negate_15 : decode b_M_negate 15 = .ok (.laload, 1) := by decide +kernel
theorem d_M_negate_16 : decode b_M_negate 16 = .ok (.ldc2_w 79, 3) := by decide +kernel
theorem d_M_negate_19 : decode b_M_negate 19 = .ok (.lxor, 1) := by decide +kernel
theorem d_M_negate_20 : decode b_M_negate 20 = .ok (.ldc2_w 77, 3) := by decide +kernel
theorem d_M_negate_23 : decode b_M_negate 23 = .ok (.land, 1) := by decide +kernel
theorem d_M_negate_24 : decode b_M_negate 24 = .ok (.lload_n 1, 1) := by decide +kernel
theorem d_M_negate_25 : decode b_M_negate 25 = .ok (.ladd, 1) := by decide +kernel
theorem d_M_negate_26 : decode b_M_negate 26 = .ok (.lstore 4, 2) := by decide +kernel
theorem d_M_negate_28 : decode b_M_negate 28 = .ok (.aload_n 0, 1) := by decide +kernel
theorem d_M_negate_29 : decode b_M_negate 29 = .ok (.getfield 29, 3) := by decide +kernel
theorem d_M_negate_32 : decode b_M_negate 32 = .ok (.iload_n 3, 1) := by decide +kernel
theorem d_M_negate_33 : decode b_M_negate 33 = .ok (.lload 4, 2) := by decide +kernel
theorem d_M_negate_35 : decode b_M_negate 35 = .ok (.ldc2_w 77, 3) := by decide +kernel
theorem d_M_negate_38 : decode b_M_negate 38 = .ok (.land, 1) := by decide +kernel
theorem d_M_negate_39 : decode b_M_negate 39 = .ok (.lastore, 1) := by decide +kernel
theorem d_M_negate_40 : decode b_M_negate 40 = .ok (.lload 4, 2) := by decide +kernel
theorem d_M_negate_42 : decode b_M_negate 42 = .ok (.bipush 32, 2) := by decide +kernel
theorem d_M_negate_44 : decode b_M_negate 44 = .ok (.lshr, 1) := by decide +kernel
theorem d_M_negate_45 : decode b_M_negate 45 = .ok (.lstore_n 1, 1) := by decide +kernel
theorem d_M_negate_46 : decode b_M_negate 46 = .ok (.iinc 3 1, 3) := by decide +kernel
theorem d_M_negate_49 : decode b_M_negate 49 = .ok (.goto (-45), 3) := by decide +kernel
theorem d_M_negate_52 : decode b_M_negate 52 = .ok (.return_, 1) := by decide +kernel
theorem d_M_drawn_0 : decode b_M_drawn 0 = .ok (.aload_n 0, 1) := by decide +kernel
theorem d_M_drawn_1 : decode b_M_drawn 1 = .ok (.aload_n 0, 1) := by decide +kernel
theorem d_M_drawn_2 : decode b_M_drawn 2 = .ok (.getfield 39, 3) := by decide +kernel
theorem d_M_drawn_5 : decode b_M_drawn 5 = .ok (.ldc2_w 147, 3) := by decide +kernel
theorem d_M_drawn_8 : decode b_M_drawn 8 = .ok (.lmul, 1) := by decide +kernel
theorem d_M_drawn_9 : decode b_M_drawn 9 = .ok (.ldc2_w 149, 3) := by decide +kernel
theorem d_M_drawn_12 : decode b_M_drawn 12 = .ok (.lrem, 1) := by decide +kernel
theorem d_M_drawn_13 : decode b_M_drawn 13 = .ok (.putfield 39, 3) := by decide +kernel
theorem d_M_drawn_16 : decode b_M_drawn 16 = .ok (.aload_n 0, 1) := by decide +kernel
theorem d_M_drawn_17 : decode b_M_drawn 17 = .ok (.getfield 39, 3) := by decide +kernel
theorem d_M_drawn_20 : decode b_M_drawn 20 = .ok (.ldc2_w 151, 3) := by decide +kernel
theorem d_M_drawn_23 : decode b_M_drawn 23 = .ok (.ldiv, 1) := by decide +kernel
theorem d_M_drawn_24 : decode b_M_drawn 24 = .ok (.ldc2_w 153, 3) := by decide +kernel
theorem d_M_drawn_27 : decode b_M_drawn 27 = .ok (.lrem, 1) := by decide +kernel
theorem d_M_drawn_28 : decode b_M_drawn 28 = .ok (.l2i, 1) := by decide +kernel
theorem d_M_drawn_29 : decode b_M_drawn 29 = .ok (.ireturn, 1) := by decide +kernel
theorem d_M_end_0 : decode b_M_end 0 = .ok (.aload_n 0, 1) := by decide +kernel
theorem d_M_end_1 : decode b_M_end 1 = .ok (.getfield 112, 3) := by decide +kernel
theorem d_M_end_4 : decode b_M_end 4 = .ok (.ifCond .eq 9, 3) := by decide +kernel
theorem d_M_end_7 : decode b_M_end 7 = .ok (.aload_n 0, 1) := by decide +kernel
theorem d_M_end_8 : decode b_M_end 8 = .ok (.iload_n 1, 1) := by decide +kernel
theorem d_M_end_9 : decode b_M_end 9 = .ok (.invokevirtual 74, 3) := by decide +kernel
theorem d_M_end_12 : decode b_M_end 12 = .ok (.lreturn, 1) := by decide +kernel
theorem d_M_end_13 : decode b_M_end 13 = .ok (.aload_n 0, 1) := by decide +kernel
theorem d_M_end_14 : decode b_M_end 14 = .ok (.getfield 116, 3) := by decide +kernel
theorem d_M_end_17 : decode b_M_end 17 = .ok (.ifCond .ne 17, 3) := by decide +kernel
theorem d_M_end_20 : decode b_M_end 20 = .ok (.aload_n 0, 1) := by decide +kernel
theorem d_M_end_21 : decode b_M_end 21 = .ok (.getfield 119, 3) := by decide +kernel
theorem d_M_end_24 : decode b_M_end 24 = .ok (.ifCond .eq 26, 3) := by decide +kernel
theorem d_M_end_27 : decode b_M_end 27 = .ok (.aload_n 0, 1) := by decide +kernel
theorem d_M_end_28 : decode b_M_end 28 = .ok (.getfield 122, 3) := by decide +kernel
theorem d_M_end_31 : decode b_M_end 31 = .ok (.ifCond .eq 19, 3) := by decide +kernel
theorem d_M_end_34 : decode b_M_end 34 = .ok (.aload_n 0, 1) := by decide +kernel
theorem d_M_end_35 : decode b_M_end 35 = .ok (.dup, 1) := by decide +kernel
theorem d_M_end_36 : decode b_M_end 36 = .ok (.getfield 155, 3) := by decide +kernel
theorem d_M_end_39 : decode b_M_end 39 = .ok (.iconst 1, 1) := by decide +kernel
theorem d_M_end_40 : decode b_M_end 40 = .ok (.ior, 1) := by decide +kernel
theorem d_M_end_41 : decode b_M_end 41 = .ok (.putfield 155, 3) := by decide +kernel
theorem d_M_end_44 : decode b_M_end 44 = .ok (.aload_n 0, 1) := by decide +kernel
theorem d_M_end_45 : decode b_M_end 45 = .ok (.iload_n 1, 1) := by decide +kernel
theorem d_M_end_46 : decode b_M_end 46 = .ok (.invokevirtual 74, 3) := by decide +kernel
theorem d_M_end_49 : decode b_M_end 49 = .ok (.lreturn, 1) := by decide +kernel
theorem d_M_end_50 : decode b_M_end 50 = .ok (.aload_n 0, 1) := by decide +kernel
theorem d_M_end_51 : decode b_M_end 51 = .ok (.getfield 119, 3) := by decide +kernel
theorem d_M_end_54 : decode b_M_end 54 = .ok (.ifCond .ne 10, 3) := by decide +kernel
theorem d_M_end_57 : decode b_M_end 57 = .ok (.aload_n 0, 1) := by decide +kernel
theorem d_M_end_58 : decode b_M_end 58 = .ok (.getfield 122, 3) := by decide +kernel
theorem d_M_end_61 : decode b_M_end 61 = .ok (.ifCond .eq 67, 3) := by decide +kernel
theorem d_M_end_64 : decode b_M_end 64 = .ok (.aload_n 0, 1) := by decide +kernel
theorem d_M_end_65 : decode b_M_end 65 = .ok (.getfield 122, 3) := by decide +kernel
theorem d_M_end_68 : decode b_M_end 68 = .ok (.ifCond .eq 11, 3) := by decide +kernel
theorem d_M_end_71 : decode b_M_end 71 = .ok (.aload_n 0, 1) := by decide +kernel
theorem d_M_end_72 : decode b_M_end 72 = .ok (.iload_n 1, 1) := by decide +kernel
theorem d_M_end_73 : decode b_M_end 73 = .ok (.invokevirtual 65, 3) := by decide +kernel
theorem d_M_end_76 : decode b_M_end 76 = .ok (.goto 4, 3) := by decide +kernel
theorem d_M_end_79 : decode b_M_end 79 = .ok (.lconst 0, 1) := by decide +kernel
theorem d_M_end_80 : decode b_M_end 80 = .ok (.lstore_n 3, 1) := by decide +kernel
theorem d_M_end_81 : decode b_M_end 81 = .ok (.aload_n 0, 1) := by decide +kernel
theorem d_M_end_82 : decode b_M_end 82 = .ok (.getfield 16, 3) := by decide +kernel
theorem d_M_end_85 : decode b_M_end 85 = .ok (.iload_n 1, 1) := by decide +kernel
theorem d_M_end_86 : decode b_M_end 86 = .ok (.iaload, 1) := by decide +kernel
theorem d_M_end_87 : decode b_M_end 87 = .ok (.ifCond .ne 13, 3) := by decide +kernel
theorem d_M_end_90 : decode b_M_end 90 = .ok (.lload_n 3, 1) := by decide +kernel
theorem d_M_end_91 : decode b_M_end 91 = .ok (.aload_n 0, 1) := by decide +kernel
theorem d_M_end_92 : decode b_M_end 92 = .ok (.iload_n 1, 1) := by decide +kernel
theorem d_M_end_93 : decode b_M_end 93 = .ok (.invokevirtual 69, 3) := by decide +kernel
theorem d_M_end_96 : decode b_M_end 96 = .ok (.lor, 1) := by decide +kernel
theorem d_M_end_97 : decode b_M_end 97 = .ok (.goto 30, 3) := by decide +kernel
theorem d_M_end_100 : decode b_M_end 100 = .ok (.aload_n 0, 1) := by decide +kernel
theorem d_M_end_101 : decode b_M_end 101 = .ok (.getfield 16, 3) := by decide +kernel
theorem d_M_end_104 : decode b_M_end 104 = .ok (.iload_n 1, 1) := by decide +kernel
theorem d_M_end_105 : decode b_M_end 105 = .ok (.iaload, 1) := by decide +kernel
theorem d_M_end_106 : decode b_M_end 106 = .ok (.iconst 1, 1) := by decide +kernel
theorem d_M_end_107 : decode b_M_end 107 = .ok (.if_icmp .ne 15, 3) := by decide +kernel
theorem d_M_end_110 : decode b_M_end 110 = .ok (.lload_n 3, 1) := by decide +kernel
theorem d_M_end_111 : decode b_M_end 111 = .ok (.aload_n 0, 1) := by decide +kernel
theorem d_M_end_112 : decode b_M_end 112 = .ok (.iload_n 1, 1) := by decide +kernel
theorem d_M_end_113 : decode b_M_end 113 = .ok (.invokevirtual 69, 3) := by decide +kernel
theorem d_M_end_116 : decode b_M_end 116 = .ok (.lconst 1, 1) := by decide +kernel
theorem d_M_end_117 : decode b_M_end 117 = .ok (.lsub, 1) := by decide +kernel
theorem d_M_end_118 : decode b_M_end 118 = .ok (.lor, 1) := by decide +kernel
theorem d_M_end_119 : decode b_M_end 119 = .ok (.goto 8, 3) := by decide +kernel
theorem d_M_end_122 : decode b_M_end 122 = .ok (.aload_n 0, 1) := by decide +kernel
theorem d_M_end_123 : decode b_M_end 123 = .ok (.iload_n 1, 1) := by decide +kernel
theorem d_M_end_124 : decode b_M_end 124 = .ok (.invokevirtual 74, 3) := by decide +kernel
theorem d_M_end_127 : decode b_M_end 127 = .ok (.lreturn, 1) := by decide +kernel
theorem d_M_end_128 : decode b_M_end 128 = .ok (.aload_n 0, 1) := by decide +kernel
theorem d_M_end_129 : decode b_M_end 129 = .ok (.sipush 767, 3) := by decide +kernel
theorem d_M_end_132 : decode b_M_end 132 = .ok (.invokevirtual 144, 3) := by decide +kernel
theorem d_M_end_135 : decode b_M_end 135 = .ok (.iconst 1, 1) := by decide +kernel
theorem d_M_end_136 : decode b_M_end 136 = .ok (.if_icmp .ne 7, 3) := by decide +kernel
theorem d_M_end_139 : decode b_M_end 139 = .ok (.iconst 1, 1) := by decide +kernel
theorem d_M_end_140 : decode b_M_end 140 = .ok (.goto 4, 3) := by decide +kernel
theorem d_M_end_143 : decode b_M_end 143 = .ok (.iconst 0, 1) := by decide +kernel
theorem d_M_end_144 : decode b_M_end 144 = .ok (.istore_n 3, 1) := by decide +kernel
theorem d_M_end_145 : decode b_M_end 145 = .ok (.iload_n 3, 1) := by decide +kernel
theorem d_M_end_146 : decode b_M_end 146 = .ok (.ifCond .eq 7, 3) := by decide +kernel
theorem d_M_end_149 : decode b_M_end 149 = .ok (.aload_n 0, 1) := by decide +kernel
theorem d_M_end_150 : decode b_M_end 150 = .ok (.invokevirtual 158, 3) := by decide +kernel
theorem d_M_end_153 : decode b_M_end 153 = .ok (.sipush 767, 3) := by decide +kernel
theorem d_M_end_156 : decode b_M_end 156 = .ok (.istore 4, 2) := by decide +kernel
theorem d_M_end_158 : decode b_M_end 158 = .ok (.iload 4, 2) := by decide +kernel
theorem d_M_end_160 : decode b_M_end 160 = .ok (.ifCond .lt 18, 3) := by decide +kernel
theorem d_M_end_163 : decode b_M_end 163 = .ok (.aload_n 0, 1) := by decide +kernel
theorem d_M_end_164 : decode b_M_end 164 = .ok (.iload 4, 2) := by decide +kernel
theorem d_M_end_166 : decode b_M_end 166 = .ok (.invokevirtual 144, 3) := by decide +kernel
theorem d_M_end_169 : decode b_M_end 169 = .ok (.ifCond .ne 9, 3) := by decide +kernel
theorem d_M_end_172 : decode b_M_end 172 = .ok (.iinc 4 (-1), 3) := by decide +kernel
theorem d_M_end_175 : decode b_M_end 175 = .ok (.goto (-17), 3) := by decide +kernel
theorem d_M_end_178 : decode b_M_end 178 = .ok (.iload 4, 2) := by decide +kernel
theorem d_M_end_180 : decode b_M_end 180 = .ok (.ifCond .ge 74, 3) := by decide +kernel
theorem d_M_end_183 : decode b_M_end 183 = .ok (.aload_n 0, 1) := by decide +kernel
theorem d_M_end_184 : decode b_M_end 184 = .ok (.getfield 125, 3) := by decide +kernel
theorem d_M_end_187 : decode b_M_end 187 = .ok (.ifCond .eq 18, 3) := by decide +kernel
theorem d_M_end_190 : decode b_M_end 190 = .ok (.aload_n 0, 1) := by decide +kernel
theorem d_M_end_191 : decode b_M_end 191 = .ok (.getfield 128, 3) := by decide +kernel
theorem d_M_end_194 : decode b_M_end 194 = .ok (.aload_n 0, 1) := by decide +kernel
theorem d_M_end_195 : decode b_M_end 195 = .ok (.getfield 131, 3) := by decide +kernel
theorem d_M_end_198 : decode b_M_end 198 = .ok (.if_icmp .eq 7, 3) := by decide +kernel
theorem d_M_end_201 : decode b_M_end 201 = .ok (.iconst 1, 1) := by decide +kernel
theorem d_M_end_202 : decode b_M_end 202 = .ok (.goto 4, 3) := by decide +kernel
theorem d_M_end_205 : decode b_M_end 205 = .ok (.iconst 0, 1) := by decide +kernel
theorem d_M_end_206 : decode b_M_end 206 = .ok (.istore 5, 2) := by decide +kernel
theorem d_M_end_208 : decode b_M_end 208 = .ok (.iload 5, 2) := by decide +kernel
theorem d_M_end_210 : decode b_M_end 210 = .ok (.ifCond .eq 10, 3) := by decide +kernel
theorem d_M_end_213 : decode b_M_end 213 = .ok (.aload_n 0, 1) := by decide +kernel
theorem d_M_end_214 : decode b_M_end 214 = .ok (.getfield 131, 3) := by decide +kernel
theorem d_M_end_217 : decode b_M_end 217 = .ok (.goto 20, 3) := by decide +kernel
theorem d_M_end_220 : decode b_M_end 220 = .ok (.aload_n 0, 1) := by decide +kernel
theorem d_M_end_221 : decode b_M_end 221 = .ok (.getfield 109, 3) := by decide +kernel
theorem d_M_end_224 : decode b_M_end 224 = .ok (.ifCond .le 12, 3) := by decide +kernel
theorem d_M_end_227 : decode b_M_end 227 = .ok (.iload_n 2, 1) := by decide +kernel
theorem d_M_end_228 : decode b_M_end 228 = .ok (.iconst 4, 1) := by decide +kernel
theorem d_M_end_229 : decode b_M_end 229 = .ok (.if_icmp .ne 7, 3) := by decide +kernel
theorem d_M_end_232 : decode b_M_end 232 = .ok (.iconst 1, 1) := by decide +kernel
theorem d_M_end_233 : decode b_M_end 233 = .ok (.goto 4, 3) := by decide +kernel
theorem d_M_end_236 : decode b_M_end 236 = .ok (.iconst 0, 1) := by decide +kernel
theorem d_M_end_237 : decode b_M_end 237 = .ok (.istore 6, 2) := by decide +kernel
theorem d_M_end_239 : decode b_M_end 239 = .ok (.iload 6, 2) := by decide +kernel
theorem d_M_end_241 : decode b_M_end 241 = .ok (.ifCond .eq 11, 3) := by decide +kernel
theorem d_M_end_244 : decode b_M_end 244 = .ok (.aload_n 0, 1) := by decide +kernel
theorem d_M_end_245 : decode b_M_end 245 = .ok (.iload_n 1, 1) := by decide +kernel
theorem d_M_end_246 : decode b_M_end 246 = .ok (.invokevirtual 65, 3) := by decide +kernel
theorem d_M_end_249 : decode b_M_end 249 = .ok (.goto 4, 3) := by decide +kernel
theorem d_M_end_252 : decode b_M_end 252 = .ok (.lconst 0, 1) := by decide +kernel
theorem d_M_end_253 : decode b_M_end 253 = .ok (.lreturn, 1) := by decide +kernel
theorem d_M_end_254 : decode b_M_end 254 = .ok (.aload_n 0, 1) := by decide +kernel
theorem d_M_end_255 : decode b_M_end 255 = .ok (.iload_n 1, 1) := by decide +kernel
theorem d_M_end_256 : decode b_M_end 256 = .ok (.iload_n 2, 1) := by decide +kernel
theorem d_M_end_257 : decode b_M_end 257 = .ok (.iload_n 3, 1) := by decide +kernel
theorem d_M_end_258 : decode b_M_end 258 = .ok (.iload 4, 2) := by decide +kernel
theorem d_M_end_260 : decode b_M_end 260 = .ok (.invokevirtual 161, 3) := by decide +kernel
theorem d_M_end_263 : decode b_M_end 263 = .ok (.lreturn, 1) := by decide +kernel
theorem d_M_round_0 : decode b_M_round 0 = .ok (.iconst 1, 1) := by decide +kernel
theorem d_M_round_1 : decode b_M_round 1 = .ok (.aload_n 0, 1) := by decide +kernel
theorem d_M_round_2 : decode b_M_round 2 = .ok (.iload_n 1, 1) := by decide +kernel
theorem d_M_round_3 : decode b_M_round 3 = .ok (.invokevirtual 89, 3) := by decide +kernel
theorem d_M_round_6 : decode b_M_round 6 = .ok (.isub, 1) := by decide +kernel
theorem d_M_round_7 : decode b_M_round 7 = .ok (.istore 5, 2) := by decide +kernel
theorem d_M_round_9 : decode b_M_round 9 = .ok (.iload 4, 2) := by decide +kernel
theorem d_M_round_11 : decode b_M_round 11 = .ok (.sipush (-352), 3) := by decide +kernel
theorem d_M_round_14 : decode b_M_round 14 = .ok (.iadd, 1) := by decide +kernel
theorem d_M_round_15 : decode b_M_round 15 = .ok (.iload 5, 2) := by decide +kernel
theorem d_M_round_17 : decode b_M_round 17 = .ok (.if_icmp .ge 8, 3) := by decide +kernel
theorem d_M_round_20 : decode b_M_round 20 = .ok (.iload 5, 2) := by decide +kernel
theorem d_M_round_22 : decode b_M_round 22 = .ok (.goto 9, 3) := by decide +kernel
theorem d_M_round_25 : decode b_M_round 25 = .ok (.iload 4, 2) := by decide +kernel
theorem d_M_round_27 : decode b_M_round 27 = .ok (.sipush (-352), 3) := by decide +kernel
theorem d_M_round_30 : decode b_M_round 30 = .ok (.iadd, 1) := by decide +kernel
theorem d_M_round_31 : decode b_M_round 31 = .ok (.istore 6, 2) := by decide +kernel
theorem d_M_round_33 : decode b_M_round 33 = .ok (.iload 6, 2) := by decide +kernel
theorem d_M_round_35 : decode b_M_round 35 = .ok (.aload_n 0, 1) := by decide +kernel
theorem d_M_round_36 : decode b_M_round 36 = .ok (.getfield 13, 3) := by decide +kernel
theorem d_M_round_39 : decode b_M_round 39 = .ok (.iload_n 1, 1) := by decide +kernel
theorem d_M_round_40 : decode b_M_round 40 = .ok (.iaload, 1) := by decide +kernel
theorem d_M_round_41 : decode b_M_round 41 = .ok (.isub, 1) := by decide +kernel
theorem d_M_round_42 : decode b_M_round 42 = .ok (.sipush (-352), 3) := by decide +kernel
theorem d_M_round_45 : decode b_M_round 45 = .ok (.isub, 1) := by decide +kernel
theorem d_M_round_46 : decode b_M_round 46 = .ok (.istore 7, 2) := by decide +kernel
theorem d_M_round_48 : decode b_M_round 48 = .ok (.lconst 0, 1) := by decide +kernel
theorem d_M_round_49 : decode b_M_round 49 = .ok (.lstore 8, 2) := by decide +kernel
theorem d_M_round_51 : decode b_M_round 51 = .ok (.iload 4, 2) := by decide +kernel
theorem d_M_round_53 : decode b_M_round 53 = .ok (.istore 10, 2) := by decide +kernel
theorem d_M_round_55 : decode b_M_round 55 = .ok (.iload 10, 2) := by decide +kernel
theorem d_M_round_57 : decode b_M_round 57 = .ok (.iload 7, 2) := by decide +kernel
theorem d_M_round_59 : decode b_M_round 59 = .ok (.if_icmp .lt 25, 3) := by decide +kernel
theorem d_M_round_62 : decode b_M_round 62 = .ok (.ldc2_w 59, 3) := by decide +kernel
theorem d_M_round_65 : decode b_M_round 65 = .ok (.lload 8, 2) := by decide +kernel
theorem d_M_round_67 : decode b_M_round 67 = .ok (.lmul, 1) := by decide +kernel
theorem d_M_round_68 : decode b_M_round 68 = .ok (.aload_n 0, 1) := by decide +kernel
theorem d_M_round_69 : decode b_M_round 69 = .ok (.iload 10, 2) := by decide +kernel
theorem d_M_round_71 : decode b_M_round 71 = .ok (.invokevirtual 144, 3) := by decide +kernel
theorem d_M_round_74 : decode b_M_round 74 = .ok (.i2l, 1) := by decide +kernel
theorem d_M_round_75 : decode b_M_round 75 = .ok (.ladd, 1) := by decide +kernel
theorem d_M_round_76 : decode b_M_round 76 = .ok (.lstore 8, 2) := by decide +kernel
theorem d_M_round_78 : decode b_M_round 78 = .ok (.iinc 10 (-1), 3) := by decide +kernel
theorem d_M_round_81 : decode b_M_round 81 = .ok (.goto (-26), 3) := by decide +kernel
theorem d_M_round_84 : decode b_M_round 84 = .ok (.aload_n 0, 1) := by decide +kernel
theorem d_M_round_85 : decode b_M_round 85 = .ok (.iload 7, 2) := by decide +kernel
theorem d_M_round_87 : decode b_M_round 87 = .ok (.invokevirtual 165, 3) := by decide +kernel
theorem d_M_round_90 : decode b_M_round 90 = .ok (.istore 10, 2) := by decide +kernel
theorem d_M_round_92 : decode b_M_round 92 = .ok (.iload 10, 2) := by decide +kernel
theorem d_M_round_94 : decode b_M_round 94 = .ok (.ifCond .eq 54, 3) := by decide +kernel
theorem d_M_round_97 : decode b_M_round 97 = .ok (.aload_n 0, 1) := by decide +kernel
theorem d_M_round_98 : decode b_M_round 98 = .ok (.dup, 1) := by decide +kernel
theorem d_M_round_99 : decode b_M_round 99 = .ok (.getfield 155, 3) := by decide +kernel
theorem d_M_round_102 : decode b_M_round 102 = .ok (.bipush 8, 2) := by decide +kernel
theorem d_M_round_104 : decode b_M_round 104 = .ok (.iload 4, 2) := by decide +kernel
theorem d_M_round_106 : decode b_M_round 106 = .ok (.sipush (-352), 3) := by decide +kernel
theorem d_M_round_109 : decode b_M_round 109 = .ok (.iadd, 1) := by decide +kernel
theorem d_M_round_110 : decode b_M_round 110 = .ok (.iload 5, 2) := by decide +kernel
theorem d_M_round_112 : decode b_M_round 112 = .ok (.if_icmp .ge 7, 3) := by decide +kernel
theorem d_M_round_115 : decode b_M_round 115 = .ok (.iconst 4, 1) := by decide +kernel
theorem d_M_round_116 : decode b_M_round 116 = .ok (.goto 4, 3) := by decide +kernel
theorem d_M_round_119 : decode b_M_round 119 = .ok (.iconst 0, 1) := by decide +kernel
theorem d_M_round_120 : decode b_M_round 120 = .ok (.ior, 1) := by decide +kernel
theorem d_M_round_121 : decode b_M_round 121 = .ok (.ior, 1) := by decide +kernel
theorem d_M_round_122 : decode b_M_round 122 = .ok (.putfield 155, 3) := by decide +kernel
theorem d_M_round_125 : decode b_M_round 125 = .ok (.lload 8, 2) := by decide +kernel
theorem d_M_round_127 : decode b_M_round 127 = .ok (.aload_n 0, 1) := by decide +kernel
theorem d_M_round_128 : decode b_M_round 128 = .ok (.iload_n 2, 1) := by decide +kernel
theorem d_M_round_129 : decode b_M_round 129 = .ok (.iload_n 3, 1) := by decide +kernel
theorem d_M_round_130 : decode b_M_round 130 = .ok (.iload 7, 2) := by decide +kernel
theorem d_M_round_132 : decode b_M_round 132 = .ok (.lload 8, 2) := by decide +kernel
theorem d_M_round_134 : decode b_M_round 134 = .ok (.invokevirtual 168, 3) := by decide +kernel
theorem d_M_round_137 : decode b_M_round 137 = .ok (.ifCond .eq 7, 3) := by decide +kernel
theorem d_M_round_140 : decode b_M_round 140 = .ok (.lconst 1, 1) := by decide +kernel
theorem d_M_round_141 : decode b_M_round 141 = .ok (.goto 4, 3) := by decide +kernel
theorem d_M_round_144 : decode b_M_round 144 = .ok (.lconst 0, 1) := by decide +kernel
theorem d_M_round_145 : decode b_M_round 145 = .ok (.ladd, 1) := by decide +kernel
theorem d_M_round_146 : decode b_M_round 146 = .ok (.lstore 8, 2) := by decide +kernel
theorem d_M_round_148 : decode b_M_round 148 = .ok (.iload 6, 2) := by decide +kernel
theorem d_M_round_150 : decode b_M_round 150 = .ok (.aload_n 0, 1) := by decide +kernel
theorem d_M_round_151 : decode b_M_round 151 = .ok (.iload_n 1, 1) := by decide +kernel
theorem d_M_round_152 : decode b_M_round 152 = .ok (.invokevirtual 89, 3) := by decide +kernel
theorem d_M_round_155 : decode b_M_round 155 = .ok (.iadd, 1) := by decide +kernel
theorem d_M_round_156 : decode b_M_round 156 = .ok (.i2l, 1) := by decide +kernel
theorem d_M_round_157 : decode b_M_round 157 = .ok (.aload_n 0, 1) := by decide +kernel
theorem d_M_round_158 : decode b_M_round 158 = .ok (.getfield 13, 3) := by decide +kernel
theorem d_M_round_161 : decode b_M_round 161 = .ok (.iload_n 1, 1) := by decide +kernel
theorem d_M_round_162 : decode b_M_round 162 = .ok (.iaload, 1) := by decide +kernel
theorem d_M_round_163 : decode b_M_round 163 = .ok (.lshl, 1) := by decide +kernel
theorem d_M_round_164 : decode b_M_round 164 = .ok (.lload 8, 2) := by decide +kernel
theorem d_M_round_166 : decode b_M_round 166 = .ok (.ladd, 1) := by decide +kernel
theorem d_M_round_167 : decode b_M_round 167 = .ok (.lconst 1, 1) := by decide +kernel
theorem d_M_round_168 : decode b_M_round 168 = .ok (.aload_n 0, 1) := by decide +kernel
theorem d_M_round_169 : decode b_M_round 169 = .ok (.getfield 13, 3) := by decide +kernel
theorem d_M_round_172 : decode b_M_round 172 = .ok (.iload_n 1, 1) := by decide +kernel
theorem d_M_round_173 : decode b_M_round 173 = .ok (.iaload, 1) := by decide +kernel
theorem d_M_round_174 : decode b_M_round 174 = .ok (.lshl, 1) := by decide +kernel
theorem d_M_round_175 : decode b_M_round 175 = .ok (.lsub, 1) := by decide +kernel
theorem d_M_round_176 : decode b_M_round 176 = .ok (.lstore 11, 2) := by decide +kernel
theorem d_M_round_178 : decode b_M_round 178 = .ok (.iload_n 3, 1) := by decide +kernel
theorem d_M_round_179 : decode b_M_round 179 = .ok (.ifCond .eq 11, 3) := by decide +kernel
theorem d_M_round_182 : decode b_M_round 182 = .ok (.aload_n 0, 1) := by decide +kernel
theorem d_M_round_183 : decode b_M_round 183 = .ok (.iload_n 1, 1) := by decide +kernel
theorem d_M_round_184 : decode b_M_round 184 = .ok (.invokevirtual 65, 3) := by decide +kernel
theorem d_M_round_187 : decode b_M_round 187 = .ok (.goto 4, 3) := by decide +kernel
theorem d_M_round_190 : decode b_M_round 190 = .ok (.lconst 0, 1) := by decide +kernel
theorem d_M_round_191 : decode b_M_round 191 = .ok (.lstore 13, 2) := by decide +kernel
theorem d_M_round_193 : decode b_M_round 193 = .ok (.lload 11, 2) := by decide +kernel
theorem d_M_round_195 : decode b_M_round 195 = .ok (.aload_n 0, 1) := by decide +kernel
theorem d_M_round_196 : decode b_M_round 196 = .ok (.iload_n 1, 1) := by decide +kernel
theorem d_M_round_197 : decode b_M_round 197 = .ok (.invokevirtual 69, 3) := by decide +kernel
theorem d_M_round_200 : decode b_M_round 200 = .ok (.lcmp, 1) := by decide +kernel
theorem d_M_round_201 : decode b_M_round 201 = .ok (.ifCond .lt 96, 3) := by decide +kernel
theorem d_M_round_204 : decode b_M_round 204 = .ok (.aload_n 0, 1) := by decide +kernel
theorem d_M_round_205 : decode b_M_round 205 = .ok (.dup, 1) := by decide +kernel
theorem d_M_round_206 : decode b_M_round 206 = .ok (.getfield 155, 3) := by decide +kernel
theorem d_M_round_209 : decode b_M_round 209 = .ok (.bipush 10, 2) := by decide +kernel
theorem d_M_round_211 : decode b_M_round 211 = .ok (.ior, 1) := by decide +kernel
theorem d_M_round_212 : decode b_M_round 212 = .ok (.putfield 155, 3) := by decide +kernel
theorem d_M_round_215 : decode b_M_round 215 = .ok (.aload_n 0, 1) := by decide +kernel
theorem d_M_round_216 : decode b_M_round 216 = .ok (.getfield 16, 3) := by decide +kernel
theorem d_M_round_219 : decode b_M_round 219 = .ok (.iload_n 1, 1) := by decide +kernel
theorem d_M_round_220 : decode b_M_round 220 = .ok (.iaload, 1) := by decide +kernel
theorem d_M_round_221 : decode b_M_round 221 = .ok (.iconst 1, 1) := by decide +kernel
theorem d_M_round_222 : decode b_M_round 222 = .ok (.if_icmp .eq 26, 3) := by decide +kernel
theorem d_M_round_225 : decode b_M_round 225 = .ok (.iload_n 2, 1) := by decide +kernel
theorem d_M_round_226 : decode b_M_round 226 = .ok (.iconst 2, 1) := by decide +kernel
theorem d_M_round_227 : decode b_M_round 227 = .ok (.if_icmp .eq 21, 3) := by decide +kernel
theorem d_M_round_230 : decode b_M_round 230 = .ok (.iload_n 2, 1) := by decide +kernel
theorem d_M_round_231 : decode b_M_round 231 = .ok (.iconst 3, 1) := by decide +kernel
theorem d_M_round_232 : decode b_M_round 232 = .ok (.if_icmp .ne 7, 3) := by decide +kernel
theorem d_M_round_235 : decode b_M_round 235 = .ok (.iload_n 3, 1) := by decide +kernel
theorem d_M_round_236 : decode b_M_round 236 = .ok (.ifCond .ne 12, 3) := by decide +kernel
theorem d_M_round_239 : decode b_M_round 239 = .ok (.iload_n 2, 1) := by decide +kernel
theorem d_M_round_240 : decode b_M_round 240 = .ok (.iconst 4, 1) := by decide +kernel
theorem d_M_round_241 : decode b_M_round 241 = .ok (.if_icmp .ne 11, 3) := by decide +kernel
theorem d_M_round_244 : decode b_M_round 244 = .ok (.iload_n 3, 1) := by decide +kernel
theorem d_M_round_245 : decode b_M_round 245 = .ok (.ifCond .ne 7, 3) := by decide +kernel
theorem d_M_round_248 : decode b_M_round 248 = .ok (.iconst 1, 1) := by decide +kernel
theorem d_M_round_249 : decode b_M_round 249 = .ok (.goto 4, 3) := by decide +kernel
theorem d_M_round_252 : decode b_M_round 252 = .ok (.iconst 0, 1) := by decide +kernel
theorem d_M_round_253 : decode b_M_round 253 = .ok (.istore 15, 2) := by decide +kernel
theorem d_M_round_255 : decode b_M_round 255 = .ok (.aload_n 0, 1) := by decide +kernel
theorem d_M_round_256 : decode b_M_round 256 = .ok (.getfield 16, 3) := by decide +kernel
theorem d_M_round_259 : decode b_M_round 259 = .ok (.iload_n 1, 1) := by decide +kernel
theorem d_M_round_260 : decode b_M_round 260 = .ok (.iaload, 1) := by decide +kernel
theorem d_M_round_261 : decode b_M_round 261 = .ok (.iconst 2, 1) := by decide +kernel
theorem d_M_round_262 : decode b_M_round 262 = .ok (.if_icmp .ne 11, 3) := by decide +kernel
theorem d_M_round_265 : decode b_M_round 265 = .ok (.aload_n 0, 1) := by decide +kernel
theorem d_M_round_266 : decode b_M_round 266 = .ok (.iload_n 1, 1) := by decide +kernel
theorem d_M_round_267 : decode b_M_round 267 = .ok (.invokevirtual 74, 3) := by decide +kernel
theorem d_M_round_270 : decode b_M_round 270 = .ok (.goto 26, 3) := by decide +kernel
theorem d_M_round_273 : decode b_M_round 273 = .ok (.lload 13, 2) := by decide +kernel
theorem d_M_round_275 : decode b_M_round 275 = .ok (.iload 15, 2) := by decide +kernel
theorem d_M_round_277 : decode b_M_round 277 = .ok (.ifCond .eq 13, 3) := by decide +kernel
theorem d_M_round_280 : decode b_M_round 280 = .ok (.aload_n 0, 1) := by decide +kernel
theorem d_M_round_281 : decode b_M_round 281 = .ok (.iload_n 1, 1) := by decide +kernel
theorem d_M_round_282 : decode b_M_round 282 = .ok (.invokevirtual 69, 3) := by decide +kernel
theorem d_M_round_285 : decode b_M_round 285 = .ok (.lconst 1, 1) := by decide +kernel
theorem d_M_round_286 : decode b_M_round 286 = .ok (.lsub, 1) := by decide +kernel
theorem d_M_round_287 : decode b_M_round 287 = .ok (.goto 8, 3) := by decide +kernel
theorem d_M_round_290 : decode b_M_round 290 = .ok (.aload_n 0, 1) := by decide +kernel
theorem d_M_round_291 : decode b_M_round 291 = .ok (.iload_n 1, 1) := by decide +kernel
theorem d_M_round_292 : decode b_M_round 292 = .ok (.invokevirtual 69, 3) := by decide +kernel
theorem d_M_round_295 : decode b_M_round 295 = .ok (.lor, 1) := by decide +kernel
theorem d_M_round_296 : decode b_M_round 296 = .ok (.lreturn, 1) := by decide +kernel
theorem d_M_round_297 : decode b_M_round 297 = .ok (.lload 13, 2) := by decide +kernel
theorem d_M_round_299 : decode b_M_round 299 = .ok (.lload 11, 2) := by decide +kernel
theorem d_M_round_301 : decode b_M_round 301 = .ok (.lor, 1) := by decide +kernel
theorem d_M_round_302 : decode b_M_round 302 = .ok (.lreturn, 1) := by decide +kernel
theorem d_M_isFarther_0 : decode b_M_isFarther 0 = .ok (.aload_n 0, 1) := by decide +kernel
theorem d_M_isFarther_1 : decode b_M_isFarther 1 = .ok (.iload_n 3, 1) := by decide +kernel
theorem d_M_isFarther_2 : decode b_M_isFarther 2 = .ok (.iconst 1, 1) := by decide +kernel
theorem d_M_isFarther_3 : decode b_M_isFarther 3 = .ok (.isub, 1) := by decide +kernel
theorem d_M_isFarther_4 : decode b_M_isFarther 4 = .ok (.invokevirtual 144, 3) := by decide +kernel
theorem d_M_isFarther_7 : decode b_M_isFarther 7 = .ok (.iconst 1, 1) := by decide +kernel
theorem d_M_isFarther_8 : decode b_M_isFarther 8 = .ok (.if_icmp .ne 7, 3) := by decide +kernel
theorem d_M_isFarther_11 : decode b_M_isFarther 11 = .ok (.iconst 1, 1) := by decide +kernel
theorem d_M_isFarther_12 : decode b_M_isFarther 12 = .ok (.goto 4, 3) := by decide +kernel
theorem d_M_isFarther_15 : decode b_M_isFarther 15 = .ok (.iconst 0, 1) := by decide +kernel
theorem d_M_isFarther_16 : decode b_M_isFarther 16 = .ok (.istore 6, 2) := by decide +kernel
theorem d_M_isFarther_18 : decode b_M_isFarther 18 = .ok (.aload_n 0, 1) := by decide +kernel
theorem d_M_isFarther_19 : decode b_M_isFarther 19 = .ok (.iload_n 3, 1) := by decide +kernel
theorem d_M_isFarther_20 : decode b_M_isFarther 20 = .ok (.iconst 1, 1) := by decide +kernel
theorem d_M_isFarther_21 : decode b_M_isFarther 21 = .ok (.isub, 1) := by decide +kernel
theorem d_M_isFarther_22 : decode b_M_isFarther 22 = .ok (.invokevirtual 165, 3) := by decide +kernel
theorem d_M_isFarther_25 : decode b_M_isFarther 25 = .ok (.istore 7, 2) := by decide +kernel
theorem d_M_isFarther_27 : decode b_M_isFarther 27 = .ok (.iload_n 1, 1) := by decide +kernel
theorem d_M_isFarther_28 : decode b_M_isFarther 28 = .ok (.tableswitch 80 0 4 #[36, 63, 66, 68, 78], 36) := by decide +kernel
theorem d_M_isFarther_64 : decode b_M_isFarther 64 = .ok (.iload 6, 2) := by decide +kernel
theorem d_M_isFarther_66 : decode b_M_isFarther 66 = .ok (.ifCond .eq 23, 3) := by decide +kernel
theorem d_M_isFarther_69 : decode b_M_isFarther 69 = .ok (.iload 7, 2) := by decide +kernel
theorem d_M_isFarther_71 : decode b_M_isFarther 71 = .ok (.ifCond .ne 14, 3) := by decide +kernel
theorem d_M_isFarther_74 : decode b_M_isFarther 74 = .ok (.lload 4, 2) := by decide +kernel
theorem d_M_isFarther_76 : decode b_M_isFarther 76 = .ok (.ldc2_w 59, 3) := by decide +kernel
theorem d_M_isFarther_79 : decode b_M_isFarther 79 = .ok (.lrem, 1) := by decide +kernel
theorem d_M_isFarther_80 : decode b_M_isFarther 80 = .ok (.lconst 1, 1) := by decide +kernel
theorem d_M_isFarther_81 : decode b_M_isFarther 81 = .ok (.lcmp, 1) := by decide +kernel
theorem d_M_isFarther_82 : decode b_M_isFarther 82 = .ok (.ifCond .ne 7, 3) := by decide +kernel
theorem d_M_isFarther_85 : decode b_M_isFarther 85 = .ok (.iconst 1, 1) := by decide +kernel
theorem d_M_isFarther_86 : decode b_M_isFarther 86 = .ok (.goto 4, 3) := by decide +kernel
theorem d_M_isFarther_89 : decode b_M_isFarther 89 = .ok (.iconst 0, 1) := by decide +kernel
theorem d_M_isFarther_90 : decode b_M_isFarther 90 = .ok (.ireturn, 1) := by decide +kernel
theorem d_M_isFarther_91 : decode b_M_isFarther 91 = .ok (.iload 6, 2) := by decide +kernel
theorem d_M_isFarther_93 : decode b_M_isFarther 93 = .ok (.ireturn, 1) := by decide +kernel
theorem d_M_isFarther_94 : decode b_M_isFarther 94 = .ok (.iconst 0, 1) := by decide +kernel
theorem d_M_isFarther_95 : decode b_M_isFarther 95 = .ok (.ireturn, 1) := by decide +kernel
theorem d_M_isFarther_96 : decode b_M_isFarther 96 = .ok (.iload_n 2, 1) := by decide +kernel
theorem d_M_isFarther_97 : decode b_M_isFarther 97 = .ok (.ifCond .ne 7, 3) := by decide +kernel
theorem d_M_isFarther_100 : decode b_M_isFarther 100 = .ok (.iconst 1, 1) := by decide +kernel
theorem d_M_isFarther_101 : decode b_M_isFarther 101 = .ok (.goto 4, 3) := by decide +kernel
theorem d_M_isFarther_104 : decode b_M_isFarther 104 = .ok (.iconst 0, 1) := by decide +kernel
