theorem d_JI_numberOfLeadingZeros_0 : decode b_JI_numberOfLeadingZeros 0 = .ok (.iload_n 0, 1) := by decide +kernel
theorem d_JI_numberOfLeadingZeros_1 : decode b_JI_numberOfLeadingZeros 1 = .ok (.ifCond .gt 14, 3) := by decide +kernel
theorem d_JI_numberOfLeadingZeros_4 : decode b_JI_numberOfLeadingZeros 4 = .ok (.iload_n 0, 1) := by decide +kernel
theorem d_JI_numberOfLeadingZeros_5 : decode b_JI_numberOfLeadingZeros 5 = .ok (.ifCond .ne 8, 3) := by decide +kernel
theorem d_JI_numberOfLeadingZeros_8 : decode b_JI_numberOfLeadingZeros 8 = .ok (.bipush 32, 2) := by decide +kernel
theorem d_JI_numberOfLeadingZeros_10 : decode b_JI_numberOfLeadingZeros 10 = .ok (.goto 4, 3) := by decide +kernel
theorem d_JI_numberOfLeadingZeros_13 : decode b_JI_numberOfLeadingZeros 13 = .ok (.iconst 0, 1) := by decide +kernel
theorem d_JI_numberOfLeadingZeros_14 : decode b_JI_numberOfLeadingZeros 14 = .ok (.ireturn, 1) := by decide +kernel
theorem d_JI_numberOfLeadingZeros_15 : decode b_JI_numberOfLeadingZeros 15 = .ok (.bipush 31, 2) := by decide +kernel
theorem d_JI_numberOfLeadingZeros_17 : decode b_JI_numberOfLeadingZeros 17 = .ok (.istore_n 1, 1) := by decide +kernel
theorem d_JI_numberOfLeadingZeros_18 : decode b_JI_numberOfLeadingZeros 18 = .ok (.iload_n 0, 1) := by decide +kernel
theorem d_JI_numberOfLeadingZeros_19 : decode b_JI_numberOfLeadingZeros 19 = .ok (.ldc_w 264, 3) := by decide +kernel
theorem d_JI_numberOfLeadingZeros_22 : decode b_JI_numberOfLeadingZeros 22 = .ok (.if_icmp .lt 11, 3) := by decide +kernel
theorem d_JI_numberOfLeadingZeros_25 : decode b_JI_numberOfLeadingZeros 25 = .ok (.iinc 1 (-16), 3) := by decide +kernel
theorem d_JI_numberOfLeadingZeros_28 : decode b_JI_numberOfLeadingZeros 28 = .ok (.iload_n 0, 1) := by decide +kernel
theorem d_JI_numberOfLeadingZeros_29 : decode b_JI_numberOfLeadingZeros 29 = .ok (.bipush 16, 2) := by decide +kernel
theorem d_JI_numberOfLeadingZeros_31 : decode b_JI_numberOfLeadingZeros 31 = .ok (.iushr, 1) := by decide +kernel
theorem d_JI_numberOfLeadingZeros_32 : decode b_JI_numberOfLeadingZeros 32 = .ok (.istore_n 0, 1) := by decide +kernel
theorem d_JI_numberOfLeadingZeros_33 : decode b_JI_numberOfLeadingZeros 33 = .ok (.iload_n 0, 1) := by decide +kernel
theorem d_JI_numberOfLeadingZeros_34 : decode b_JI_numberOfLeadingZeros 34 = .ok (.sipush 256, 3) := by decide +kernel
theorem d_JI_numberOfLeadingZeros_37 : decode b_JI_numberOfLeadingZeros 37 = .ok (.if_icmp .lt 11, 3) := by decide +kernel
theorem d_JI_numberOfLeadingZeros_40 : decode b_JI_numberOfLeadingZeros 40 = .ok (.iinc 1 (-8), 3) := by decide +kernel
theorem d_JI_numberOfLeadingZeros_43 : decode b_JI_numberOfLeadingZeros 43 = .ok (.iload_n 0, 1) := by decide +kernel
theorem d_JI_numberOfLeadingZeros_44 : decode b_JI_numberOfLeadingZeros 44 = .ok (.bipush 8, 2) := by decide +kernel
theorem d_JI_numberOfLeadingZeros_46 : decode b_JI_numberOfLeadingZeros 46 = .ok (.iushr, 1) := by decide +kernel
theorem d_JI_numberOfLeadingZeros_47 : decode b_JI_numberOfLeadingZeros 47 = .ok (.istore_n 0, 1) := by decide +kernel
theorem d_JI_numberOfLeadingZeros_48 : decode b_JI_numberOfLeadingZeros 48 = .ok (.iload_n 0, 1) := by decide +kernel
theorem d_JI_numberOfLeadingZeros_49 : decode b_JI_numberOfLeadingZeros 49 = .ok (.bipush 16, 2) := by decide +kernel
theorem d_JI_numberOfLeadingZeros_51 : decode b_JI_numberOfLeadingZeros 51 = .ok (.if_icmp .lt 10, 3) := by decide +kernel
theorem d_JI_numberOfLeadingZeros_54 : decode b_JI_numberOfLeadingZeros 54 = .ok (.iinc 1 (-4), 3) := by decide +kernel
theorem d_JI_numberOfLeadingZeros_57 : decode b_JI_numberOfLeadingZeros 57 = .ok (.iload_n 0, 1) := by decide +kernel
theorem d_JI_numberOfLeadingZeros_58 : decode b_JI_numberOfLeadingZeros 58 = .ok (.iconst 4, 1) := by decide +kernel
theorem d_JI_numberOfLeadingZeros_59 : decode b_JI_numberOfLeadingZeros 59 = .ok (.iushr, 1) := by decide +kernel
theorem d_JI_numberOfLeadingZeros_60 : decode b_JI_numberOfLeadingZeros 60 = .ok (.istore_n 0, 1) := by decide +kernel
theorem d_JI_numberOfLeadingZeros_61 : decode b_JI_numberOfLeadingZeros 61 = .ok (.iload_n 0, 1) := by decide +kernel
theorem d_JI_numberOfLeadingZeros_62 : decode b_JI_numberOfLeadingZeros 62 = .ok (.iconst 4, 1) := by decide +kernel
theorem d_JI_numberOfLeadingZeros_63 : decode b_JI_numberOfLeadingZeros 63 = .ok (.if_icmp .lt 10, 3) := by decide +kernel
theorem d_JI_numberOfLeadingZeros_66 : decode b_JI_numberOfLeadingZeros 66 = .ok (.iinc 1 (-2), 3) := by decide +kernel
theorem d_JI_numberOfLeadingZeros_69 : decode b_JI_numberOfLeadingZeros 69 = .ok (.iload_n 0, 1) := by decide +kernel
theorem d_JI_numberOfLeadingZeros_70 : decode b_JI_numberOfLeadingZeros 70 = .ok (.iconst 2, 1) := by decide +kernel
theorem d_JI_numberOfLeadingZeros_71 : decode b_JI_numberOfLeadingZeros 71 = .ok (.iushr, 1) := by decide +kernel
theorem d_JI_numberOfLeadingZeros_72 : decode b_JI_numberOfLeadingZeros 72 = .ok (.istore_n 0, 1) := by decide +kernel
theorem d_JI_numberOfLeadingZeros_73 : decode b_JI_numberOfLeadingZeros 73 = .ok (.iload_n 1, 1) := by decide +kernel
theorem d_JI_numberOfLeadingZeros_74 : decode b_JI_numberOfLeadingZeros 74 = .ok (.iload_n 0, 1) := by decide +kernel
theorem d_JI_numberOfLeadingZeros_75 : decode b_JI_numberOfLeadingZeros 75 = .ok (.iconst 1, 1) := by decide +kernel
theorem d_JI_numberOfLeadingZeros_76 : decode b_JI_numberOfLeadingZeros 76 = .ok (.iushr, 1) := by decide +kernel
theorem d_JI_numberOfLeadingZeros_77 : decode b_JI_numberOfLeadingZeros 77 = .ok (.isub, 1) := by decide +kernel
theorem d_JI_numberOfLeadingZeros_78 : decode b_JI_numberOfLeadingZeros 78 = .ok (.ireturn, 1) := by decide +kernel
theorem d_JL_compare_0 : decode b_JL_compare 0 = .ok (.lload_n 0, 1) := by decide +kernel
theorem d_JL_compare_1 : decode b_JL_compare 1 = .ok (.lload_n 2, 1) := by decide +kernel
theorem d_JL_compare_2 : decode b_JL_compare 2 = .ok (.lcmp, 1) := by decide +kernel
theorem d_JL_compare_3 : decode b_JL_compare 3 = .ok (.ifCond .ge 7, 3) := by decide +kernel
theorem d_JL_compare_6 : decode b_JL_compare 6 = .ok (.iconst (-1), 1) := by decide +kernel
theorem d_JL_compare_7 : decode b_JL_compare 7 = .ok (.goto 14, 3) := by decide +kernel
theorem d_JL_compare_10 : decode b_JL_compare 10 = .ok (.lload_n 0, 1) := by decide +kernel
theorem d_JL_compare_11 : decode b_JL_compare 11 = .ok (.lload_n 2, 1) := by decide +kernel
theorem d_JL_compare_12 : decode b_JL_compare 12 = .ok (.lcmp, 1) := by decide +kernel
theorem d_JL_compare_13 : decode b_JL_compare 13 = .ok (.ifCond .ne 7, 3) := by decide +kernel
theorem d_JL_compare_16 : decode b_JL_compare 16 = .ok (.iconst 0, 1) := by decide +kernel
theorem d_JL_compare_17 : decode b_JL_compare 17 = .ok (.goto 4, 3) := by decide +kernel
theorem d_JL_compare_20 : decode b_JL_compare 20 = .ok (.iconst 1, 1) := by decide +kernel
theorem d_JL_compare_21 : decode b_JL_compare 21 = .ok (.ireturn, 1) := by decide +kernel
theorem d_JL_numberOfLeadingZeros_0 : decode b_JL_numberOfLeadingZeros 0 = .ok (.lload_n 0, 1) := by decide +kernel
theorem d_JL_numberOfLeadingZeros_1 : decode b_JL_numberOfLeadingZeros 1 = .ok (.bipush 32, 2) := by decide +kernel
theorem d_JL_numberOfLeadingZeros_3 : decode b_JL_numberOfLeadingZeros 3 = .ok (.lushr, 1) := by decide +kernel
theorem d_JL_numberOfLeadingZeros_4 : decode b_JL_numberOfLeadingZeros 4 = .ok (.l2i, 1) := by decide +kernel
theorem d_JL_numberOfLeadingZeros_5 : decode b_JL_numberOfLeadingZeros 5 = .ok (.istore_n 2, 1) := by decide +kernel
theorem d_JL_numberOfLeadingZeros_6 : decode b_JL_numberOfLeadingZeros 6 = .ok (.iload_n 2, 1) := by decide +kernel
theorem d_JL_numberOfLeadingZeros_7 : decode b_JL_numberOfLeadingZeros 7 = .ok (.ifCond .ne 14, 3) := by decide +kernel
theorem d_JL_numberOfLeadingZeros_10 : decode b_JL_numberOfLeadingZeros 10 = .ok (.bipush 32, 2) := by decide +kernel
theorem d_JL_numberOfLeadingZeros_12 : decode b_JL_numberOfLeadingZeros 12 = .ok (.lload_n 0, 1) := by decide +kernel
theorem d_JL_numberOfLeadingZeros_13 : decode b_JL_numberOfLeadingZeros 13 = .ok (.l2i, 1) := by decide +kernel
theorem d_JL_numberOfLeadingZeros_14 : decode b_JL_numberOfLeadingZeros 14 = .ok (.invokestatic 308, 3) := by decide +kernel
theorem d_JL_numberOfLeadingZeros_17 : decode b_JL_numberOfLeadingZeros 17 = .ok (.iadd, 1) := by decide +kernel
theorem d_JL_numberOfLeadingZeros_18 : decode b_JL_numberOfLeadingZeros 18 = .ok (.goto 7, 3) := by decide +kernel
theorem d_JL_numberOfLeadingZeros_21 : decode b_JL_numberOfLeadingZeros 21 = .ok (.iload_n 2, 1) := by decide +kernel
theorem d_JL_numberOfLeadingZeros_22 : decode b_JL_numberOfLeadingZeros 22 = .ok (.invokestatic 308, 3) := by decide +kernel
theorem d_JL_numberOfLeadingZeros_25 : decode b_JL_numberOfLeadingZeros 25 = .ok (.ireturn, 1) := by decide +kernel
theorem d_JA_fill_0 : decode b_JA_fill 0 = .ok (.iconst 0, 1) := by decide +kernel
theorem d_JA_fill_1 : decode b_JA_fill 1 = .ok (.istore_n 3, 1) := by decide +kernel
theorem d_JA_fill_2 : decode b_JA_fill 2 = .ok (.aload_n 0, 1) := by decide +kernel
theorem d_JA_fill_3 : decode b_JA_fill 3 = .ok (.arraylength, 1) := by decide +kernel
theorem d_JA_fill_4 : decode b_JA_fill 4 = .ok (.istore 4, 2) := by decide +kernel
theorem d_JA_fill_6 : decode b_JA_fill 6 = .ok (.iload_n 3, 1) := by decide +kernel
theorem d_JA_fill_7 : decode b_JA_fill 7 = .ok (.iload 4, 2) := by decide +kernel
theorem d_JA_fill_9 : decode b_JA_fill 9 = .ok (.if_icmp .ge 13, 3) := by decide +kernel
theorem d_JA_fill_12 : decode b_JA_fill 12 = .ok (.aload_n 0, 1) := by decide +kernel
theorem d_JA_fill_13 : decode b_JA_fill 13 = .ok (.iload_n 3, 1) := by decide +kernel
theorem d_JA_fill_14 : decode b_JA_fill 14 = .ok (.lload_n 1, 1) := by decide +kernel
theorem d_JA_fill_15 : decode b_JA_fill 15 = .ok (.lastore, 1) := by decide +kernel
theorem d_JA_fill_16 : decode b_JA_fill 16 = .ok (.iinc 3 1, 3) := by decide +kernel
theorem d_JA_fill_19 : decode b_JA_fill 19 = .ok (.goto (-13), 3) := by decide +kernel
theorem d_JA_fill_22 : decode b_JA_fill 22 = .ok (.return_, 1) := by decide +kernel
theorem d_F_init_0 : decode b_F_init 0 = .ok (.aload_n 0, 1) := by decide +kernel
theorem d_F_init_1 : decode b_F_init 1 = .ok (.invokespecial 3, 3) := by decide +kernel
theorem d_F_init_4 : decode b_F_init 4 = .ok (.aload_n 0, 1) := by decide +kernel
theorem d_F_init_5 : decode b_F_init 5 = .ok (.iload_n 1, 1) := by decide +kernel
theorem d_F_init_6 : decode b_F_init 6 = .ok (.iload_n 2, 1) := by decide +kernel
theorem d_F_init_7 : decode b_F_init 7 = .ok (.iload_n 3, 1) := by decide +kernel
theorem d_F_init_8 : decode b_F_init 8 = .ok (.invokevirtual 9, 3) := by decide +kernel
theorem d_F_init_11 : decode b_F_init 11 = .ok (.return_, 1) := by decide +kernel
theorem d_F_become_0 : decode b_F_become 0 = .ok (.aload_n 0, 1) := by decide +kernel
theorem d_F_become_1 : decode b_F_become 1 = .ok (.iload_n 1, 1) := by decide +kernel
theorem d_F_become_2 : decode b_F_become 2 = .ok (.putfield 15, 3) := by decide +kernel
theorem d_F_become_5 : decode b_F_become 5 = .ok (.aload_n 0, 1) := by decide +kernel
theorem d_F_become_6 : decode b_F_become 6 = .ok (.iload_n 2, 1) := by decide +kernel
theorem d_F_become_7 : decode b_F_become 7 = .ok (.putfield 19, 3) := by decide +kernel
theorem d_F_become_10 : decode b_F_become 10 = .ok (.aload_n 0, 1) := by decide +kernel
theorem d_F_become_11 : decode b_F_become 11 = .ok (.iload_n 3, 1) := by decide +kernel
theorem d_F_become_12 : decode b_F_become 12 = .ok (.putfield 22, 3) := by decide +kernel
theorem d_F_become_15 : decode b_F_become 15 = .ok (.aload_n 0, 1) := by decide +kernel
theorem d_F_become_16 : decode b_F_become 16 = .ok (.iload_n 1, 1) := by decide +kernel
theorem d_F_become_17 : decode b_F_become 17 = .ok (.iload_n 2, 1) := by decide +kernel
theorem d_F_become_18 : decode b_F_become 18 = .ok (.iadd, 1) := by decide +kernel
theorem d_F_become_19 : decode b_F_become 19 = .ok (.putfield 25, 3) := by decide +kernel
theorem d_F_become_22 : decode b_F_become 22 = .ok (.iconst 1, 1) := by decide +kernel
theorem d_F_become_23 : decode b_F_become 23 = .ok (.iload_n 1, 1) := by decide +kernel
theorem d_F_become_24 : decode b_F_become 24 = .ok (.ishl, 1) := by decide +kernel
theorem d_F_become_25 : decode b_F_become 25 = .ok (.iconst 1, 1) := by decide +kernel
theorem d_F_become_26 : decode b_F_become 26 = .ok (.isub, 1) := by decide +kernel
theorem d_F_become_27 : decode b_F_become 27 = .ok (.iload_n 2, 1) := by decide +kernel
theorem d_F_become_28 : decode b_F_become 28 = .ok (.ishl, 1) := by decide +kernel
theorem d_F_become_29 : decode b_F_become 29 = .ok (.istore 4, 2) := by decide +kernel
theorem d_F_become_31 : decode b_F_become 31 = .ok (.iload 4, 2) := by decide +kernel
theorem d_F_become_33 : decode b_F_become 33 = .ok (.iconst 1, 1) := by decide +kernel
theorem d_F_become_34 : decode b_F_become 34 = .ok (.iload_n 2, 1) := by decide +kernel
theorem d_F_become_35 : decode b_F_become 35 = .ok (.ishl, 1) := by decide +kernel
theorem d_F_become_36 : decode b_F_become 36 = .ok (.iadd, 1) := by decide +kernel
theorem d_F_become_37 : decode b_F_become 37 = .ok (.iconst 1, 1) := by decide +kernel
theorem d_F_become_38 : decode b_F_become 38 = .ok (.isub, 1) := by decide +kernel
theorem d_F_become_39 : decode b_F_become 39 = .ok (.istore 5, 2) := by decide +kernel
theorem d_F_become_41 : decode b_F_become 41 = .ok (.aload_n 0, 1) := by decide +kernel
theorem d_F_become_42 : decode b_F_become 42 = .ok (.iload_n 3, 1) := by decide +kernel
theorem d_F_become_43 : decode b_F_become 43 = .ok (.ifCond .ne 8, 3) := by decide +kernel
theorem d_F_become_46 : decode b_F_become 46 = .ok (.iload 4, 2) := by decide +kernel
theorem d_F_become_48 : decode b_F_become 48 = .ok (.goto 5, 3) := by decide +kernel
theorem d_F_become_51 : decode b_F_become 51 = .ok (.iload 5, 2) := by decide +kernel
theorem d_F_become_53 : decode b_F_become 53 = .ok (.putfield 28, 3) := by decide +kernel
theorem d_F_become_56 : decode b_F_become 56 = .ok (.aload_n 0, 1) := by decide +kernel
theorem d_F_become_57 : decode b_F_become 57 = .ok (.iload_n 3, 1) := by decide +kernel
theorem d_F_become_58 : decode b_F_become 58 = .ok (.ifCond .ne 14, 3) := by decide +kernel
theorem d_F_become_61 : decode b_F_become 61 = .ok (.iload 4, 2) := by decide +kernel
theorem d_F_become_63 : decode b_F_become 63 = .ok (.iconst 1, 1) := by decide +kernel
theorem d_F_become_64 : decode b_F_become 64 = .ok (.iload_n 2, 1) := by decide +kernel
theorem d_F_become_65 : decode b_F_become 65 = .ok (.iconst 1, 1) := by decide +kernel
theorem d_F_become_66 : decode b_F_become 66 = .ok (.isub, 1) := by decide +kernel
theorem d_F_become_67 : decode b_F_become 67 = .ok (.ishl, 1) := by decide +kernel
theorem d_F_become_68 : decode b_F_become 68 = .ok (.iadd, 1) := by decide +kernel
theorem d_F_become_69 : decode b_F_become 69 = .ok (.goto 5, 3) := by decide +kernel
theorem d_F_become_72 : decode b_F_become 72 = .ok (.iload 5, 2) := by decide +kernel
theorem d_F_become_74 : decode b_F_become 74 = .ok (.putfield 31, 3) := by decide +kernel
theorem d_F_become_77 : decode b_F_become 77 = .ok (.iconst 1, 1) := by decide +kernel
theorem d_F_become_78 : decode b_F_become 78 = .ok (.iload_n 1, 1) := by decide +kernel
theorem d_F_become_79 : decode b_F_become 79 = .ok (.iconst 1, 1) := by decide +kernel
theorem d_F_become_80 : decode b_F_become 80 = .ok (.isub, 1) := by decide +kernel
theorem d_F_become_81 : decode b_F_become 81 = .ok (.ishl, 1) := by decide +kernel
theorem d_F_become_82 : decode b_F_become 82 = .ok (.iconst 1, 1) := by decide +kernel
theorem d_F_become_83 : decode b_F_become 83 = .ok (.isub, 1) := by decide +kernel
theorem d_F_become_84 : decode b_F_become 84 = .ok (.istore 6, 2) := by decide +kernel
theorem d_F_become_86 : decode b_F_become 86 = .ok (.aload_n 0, 1) := by decide +kernel
theorem d_F_become_87 : decode b_F_become 87 = .ok (.iconst 1, 1) := by decide +kernel
theorem d_F_become_88 : decode b_F_become 88 = .ok (.iload 6, 2) := by decide +kernel
theorem d_F_become_90 : decode b_F_become 90 = .ok (.isub, 1) := by decide +kernel
theorem d_F_become_91 : decode b_F_become 91 = .ok (.putfield 34, 3) := by decide +kernel
theorem d_F_become_94 : decode b_F_become 94 = .ok (.aload_n 0, 1) := by decide +kernel
theorem d_F_become_95 : decode b_F_become 95 = .ok (.aload_n 0, 1) := by decide +kernel
theorem d_F_become_96 : decode b_F_become 96 = .ok (.getfield 34, 3) := by decide +kernel
theorem d_F_become_99 : decode b_F_become 99 = .ok (.iload_n 2, 1) := by decide +kernel
theorem d_F_become_100 : decode b_F_become 100 = .ok (.isub, 1) := by decide +kernel
theorem d_F_become_101 : decode b_F_become 101 = .ok (.putfield 37, 3) := by decide +kernel
theorem d_F_become_104 : decode b_F_become 104 = .ok (.return_, 1) := by decide +kernel
theorem d_F_holds_0 : decode b_F_holds 0 = .ok (.aload_n 0, 1) := by decide +kernel
theorem d_F_holds_1 : decode b_F_holds 1 = .ok (.getfield 25, 3) := by decide +kernel
theorem d_F_holds_4 : decode b_F_holds 4 = .ok (.bipush 31, 2) := by decide +kernel
theorem d_F_holds_6 : decode b_F_holds 6 = .ok (.if_icmp .ge 14, 3) := by decide +kernel
theorem d_F_holds_9 : decode b_F_holds 9 = .ok (.iload_n 1, 1) := by decide +kernel
theorem d_F_holds_10 : decode b_F_holds 10 = .ok (.aload_n 0, 1) := by decide +kernel
theorem d_F_holds_11 : decode b_F_holds 11 = .ok (.getfield 25, 3) := by decide +kernel
theorem d_F_holds_14 : decode b_F_holds 14 = .ok (.iconst 1, 1) := by decide +kernel
theorem d_F_holds_15 : decode b_F_holds 15 = .ok (.iadd, 1) := by decide +kernel
theorem d_F_holds_16 : decode b_F_holds 16 = .ok (.iushr, 1) := by decide +kernel
theorem d_F_holds_17 : decode b_F_holds 17 = .ok (.ifCond .ne 7, 3) := by decide +kernel
theorem d_F_holds_20 : decode b_F_holds 20 = .ok (.iconst 1, 1) := by decide +kernel
theorem d_F_holds_21 : decode b_F_holds 21 = .ok (.goto 4, 3) := by decide +kernel
theorem d_F_holds_24 : decode b_F_holds 24 = .ok (.iconst 0, 1) := by decide +kernel
theorem d_F_holds_25 : decode b_F_holds 25 = .ok (.ireturn, 1) := by decide +kernel
theorem d_F_unsigned_0 : decode b_F_unsigned 0 = .ok (.iload_n 1, 1) := by decide +kernel
theorem d_F_unsigned_1 : decode b_F_unsigned 1 = .ok (.lconst 1, 1) := by decide +kernel
theorem d_F_unsigned_2 : decode b_F_unsigned 2 = .ok (.aload_n 0, 1) := by decide +kernel
theorem d_F_unsigned_3 : decode b_F_unsigned 3 = .ok (.getfield 25, 3) := by decide +kernel
theorem d_F_unsigned_6 : decode b_F_unsigned 6 = .ok (.lshl, 1) := by decide +kernel
theorem d_F_unsigned_7 : decode b_F_unsigned 7 = .ok (.lconst 1, 1) := by decide +kernel
theorem d_F_unsigned_8 : decode b_F_unsigned 8 = .ok (.lsub, 1) := by decide +kernel
theorem d_F_unsigned_9 : decode b_F_unsigned 9 = .ok (.l2i, 1) := by decide +kernel
theorem d_F_unsigned_10 : decode b_F_unsigned 10 = .ok (.iand, 1) := by decide +kernel
theorem d_F_unsigned_11 : decode b_F_unsigned 11 = .ok (.ireturn, 1) := by decide +kernel
theorem d_F_isNegative_0 : decode b_F_isNegative 0 = .ok (.iload_n 1, 1) := by decide +kernel
theorem d_F_isNegative_1 : decode b_F_isNegative 1 = .ok (.aload_n 0, 1) := by decide +kernel
theorem d_F_isNegative_2 : decode b_F_isNegative 2 = .ok (.getfield 25, 3) := by decide +kernel
theorem d_F_isNegative_5 : decode b_F_isNegative 5 = .ok (.iushr, 1) := by decide +kernel
theorem d_F_isNegative_6 : decode b_F_isNegative 6 = .ok (.iconst 1, 1) := by decide +kernel
theorem d_F_isNegative_7 : decode b_F_isNegative 7 = .ok (.iand, 1) := by decide +kernel
theorem d_F_isNegative_8 : decode b_F_isNegative 8 = .ok (.iconst 1, 1) := by decide +kernel
theorem d_F_isNegative_9 : decode b_F_isNegative 9 = .ok (.if_icmp .ne 7, 3) := by decide +kernel
theorem d_F_isNegative_12 : decode b_F_isNegative 12 = .ok (.iconst 1, 1) := by decide +kernel
theorem d_F_isNegative_13 : decode b_F_isNegative 13 = .ok (.goto 4, 3) := by decide +kernel
theorem d_F_isNegative_16 : decode b_F_isNegative 16 = .ok (.iconst 0, 1) := by decide +kernel
theorem d_F_isNegative_17 : decode b_F_isNegative 17 = .ok (.ireturn, 1) := by decide +kernel
theorem d_F_signed_0 : decode b_F_signed 0 = .ok (.iload_n 1, 1) := by decide +kernel
theorem d_F_signed_1 : decode b_F_signed 1 = .ok (.ifCond .eq 14, 3) := by decide +kernel
theorem d_F_signed_4 : decode b_F_signed 4 = .ok (.iload_n 2, 1) := by decide +kernel
theorem d_F_signed_5 : decode b_F_signed 5 = .ok (.iconst 1, 1) := by decide +kernel
theorem d_F_signed_6 : decode b_F_signed 6 = .ok (.aload_n 0, 1) := by decide +kernel
theorem d_F_signed_7 : decode b_F_signed 7 = .ok (.getfield 25, 3) := by decide +kernel
theorem d_F_signed_10 : decode b_F_signed 10 = .ok (.ishl, 1) := by decide +kernel
theorem d_F_signed_11 : decode b_F_signed 11 = .ok (.ior, 1) := by decide +kernel
theorem d_F_signed_12 : decode b_F_signed 12 = .ok (.goto 4, 3) := by decide +kernel
theorem d_F_signed_15 : decode b_F_signed 15 = .ok (.iload_n 2, 1) := by decide +kernel
theorem d_F_signed_16 : decode b_F_signed 16 = .ok (.ireturn, 1) := by decide +kernel
theorem d_F_turnedOver_0 : decode b_F_turnedOver 0 = .ok (.iload_n 1, 1) := by decide +kernel
theorem d_F_turnedOver_1 : decode b_F_turnedOver 1 = .ok (.iconst 1, 1) := by decide +kernel
theorem d_F_turnedOver_2 : decode b_F_turnedOver 2 = .ok (.aload_n 0, 1) := by decide +kernel
theorem d_F_turnedOver_3 : decode b_F_turnedOver 3 = .ok (.getfield 25, 3) := by decide +kernel
theorem d_F_turnedOver_6 : decode b_F_turnedOver 6 = .ok (.ishl, 1) := by decide +kernel
theorem d_F_turnedOver_7 : decode b_F_turnedOver 7 = .ok (.ixor, 1) := by decide +kernel
theorem d_F_turnedOver_8 : decode b_F_turnedOver 8 = .ok (.ireturn, 1) := by decide +kernel
theorem d_F_sortOf_0 : decode b_F_sortOf 0 = .ok (.aload_n 0, 1) := by decide +kernel
theorem d_F_sortOf_1 : decode b_F_sortOf 1 = .ok (.iload_n 1, 1) := by decide +kernel
theorem d_F_sortOf_2 : decode b_F_sortOf 2 = .ok (.invokevirtual 40, 3) := by decide +kernel
theorem d_F_sortOf_5 : decode b_F_sortOf 5 = .ok (.istore_n 2, 1) := by decide +kernel
theorem d_F_sortOf_6 : decode b_F_sortOf 6 = .ok (.iload_n 2, 1) := by decide +kernel
theorem d_F_sortOf_7 : decode b_F_sortOf 7 = .ok (.ifCond .ne 5, 3) := by decide +kernel
theorem d_F_sortOf_10 : decode b_F_sortOf 10 = .ok (.iconst 0, 1) := by decide +kernel
theorem d_F_sortOf_11 : decode b_F_sortOf 11 = .ok (.ireturn, 1) := by decide +kernel
theorem d_F_sortOf_12 : decode b_F_sortOf 12 = .ok (.iload_n 2, 1) := by decide +kernel
theorem d_F_sortOf_13 : decode b_F_sortOf 13 = .ok (.aload_n 0, 1) := by decide +kernel
theorem d_F_sortOf_14 : decode b_F_sortOf 14 = .ok (.getfield 28, 3) := by decide +kernel
theorem d_F_sortOf_17 : decode b_F_sortOf 17 = .ok (.if_icmp .ge 18, 3) := by decide +kernel
theorem d_F_sortOf_20 : decode b_F_sortOf 20 = .ok (.iload_n 2, 1) := by decide +kernel
theorem d_F_sortOf_21 : decode b_F_sortOf 21 = .ok (.aload_n 0, 1) := by decide +kernel
theorem d_F_sortOf_22 : decode b_F_sortOf 22 = .ok (.getfield 19, 3) := by decide +kernel
theorem d_F_sortOf_25 : decode b_F_sortOf 25 = .ok (.iushr, 1) := by decide +kernel
theorem d_F_sortOf_26 : decode b_F_sortOf 26 = .ok (.ifCond .ne 7, 3) := by decide +kernel
theorem d_F_sortOf_29 : decode b_F_sortOf 29 = .ok (.iconst 1, 1) := by decide +kernel
theorem d_F_sortOf_30 : decode b_F_sortOf 30 = .ok (.goto 4, 3) := by decide +kernel
theorem d_F_sortOf_33 : decode b_F_sortOf 33 = .ok (.iconst 2, 1) := by decide +kernel
theorem d_F_sortOf_34 : decode b_F_sortOf 34 = .ok (.ireturn, 1) := by decide +kernel
theorem d_F_sortOf_35 : decode b_F_sortOf 35 = .ok (.iload_n 2, 1) := by decide +kernel
theorem d_F_sortOf_36 : decode b_F_sortOf 36 = .ok (.aload_n 0, 1) := by decide +kernel
theorem d_F_sortOf_37 : decode b_F_sortOf 37 = .ok (.getfield 28, 3) := by decide +kernel
theorem d_F_sortOf_40 : decode b_F_sortOf 40 = .ok (.if_icmp .ne 14, 3) := by decide +kernel
theorem d_F_sortOf_43 : decode b_F_sortOf 43 = .ok (.aload_n 0, 1) := by decide +kernel
theorem d_F_sortOf_44 : decode b_F_sortOf 44 = .ok (.getfield 22, 3) := by decide +kernel
theorem d_F_sortOf_47 : decode b_F_sortOf 47 = .ok (.ifCond .ne 7, 3) := by decide +kernel
theorem d_F_sortOf_50 : decode b_F_sortOf 50 = .ok (.iconst 3, 1) := by decide +kernel
theorem d_F_sortOf_51 : decode b_F_sortOf 51 = .ok (.goto 4, 3) := by decide +kernel
theorem d_F_sortOf_54 : decode b_F_sortOf 54 = .ok (.iconst 4, 1) := by decide +kernel
theorem d_F_sortOf_55 : decode b_F_sortOf 55 = .ok (.ireturn, 1) := by decide +kernel
theorem d_F_wholeOf_0 : decode b_F_wholeOf 0 = .ok (.aload_n 0, 1) := by decide +kernel
theorem d_F_wholeOf_1 : decode b_F_wholeOf 1 = .ok (.iload_n 1, 1) := by decide +kernel
theorem d_F_wholeOf_2 : decode b_F_wholeOf 2 = .ok (.invokevirtual 40, 3) := by decide +kernel
theorem d_F_wholeOf_5 : decode b_F_wholeOf 5 = .ok (.istore_n 2, 1) := by decide +kernel
theorem d_F_wholeOf_6 : decode b_F_wholeOf 6 = .ok (.iload_n 2, 1) := by decide +kernel
theorem d_F_wholeOf_7 : decode b_F_wholeOf 7 = .ok (.iconst 1, 1) := by decide +kernel
theorem d_F_wholeOf_8 : decode b_F_wholeOf 8 = .ok (.aload_n 0, 1) := by decide +kernel
theorem d_F_wholeOf_9 : decode b_F_wholeOf 9 = .ok (.getfield 19, 3) := by decide +kernel
theorem d_F_wholeOf_12 : decode b_F_wholeOf 12 = .ok (.ishl, 1) := by decide +kernel
theorem d_F_wholeOf_13 : decode b_F_wholeOf 13 = .ok (.iconst 1, 1) := by decide +kernel
theorem d_F_wholeOf_14 : decode b_F_wholeOf 14 = .ok (.isub, 1) := by decide +kernel
theorem d_F_wholeOf_15 : decode b_F_wholeOf 15 = .ok (.iand, 1) := by decide +kernel
theorem d_F_wholeOf_16 : decode b_F_wholeOf 16 = .ok (.istore_n 3, 1) := by decide +kernel
theorem d_F_wholeOf_17 : decode b_F_wholeOf 17 = .ok (.iload_n 2, 1) := by decide +kernel
theorem d_F_wholeOf_18 : decode b_F_wholeOf 18 = .ok (.aload_n 0, 1) := by decide +kernel
theorem d_F_wholeOf_19 : decode b_F_wholeOf 19 = .ok (.getfield 19, 3) := by decide +kernel
theorem d_F_wholeOf_22 : decode b_F_wholeOf 22 = .ok (.iushr, 1) := by decide +kernel
theorem d_F_wholeOf_23 : decode b_F_wholeOf 23 = .ok (.ifCond .ne 8, 3) := by decide +kernel
theorem d_F_wholeOf_26 : decode b_F_wholeOf 26 = .ok (.iload_n 3, 1) := by decide +kernel
theorem d_F_wholeOf_27 : decode b_F_wholeOf 27 = .ok (.i2l, 1) := by decide +kernel
theorem d_F_wholeOf_28 : decode b_F_wholeOf 28 = .ok (.goto 12, 3) := by decide +kernel
theorem d_F_wholeOf_31 : decode b_F_wholeOf 31 = .ok (.iload_n 3, 1) := by decide +kernel
theorem d_F_wholeOf_32 : decode b_F_wholeOf 32 = .ok (.iconst 1, 1) := by decide +kernel
theorem d_F_wholeOf_33 : decode b_F_wholeOf 33 = .ok (.aload_n 0, 1) := by decide +kernel
theorem d_F_wholeOf_34 : decode b_F_wholeOf 34 = .ok (.getfield 19, 3) := by decide +kernel
theorem d_F_wholeOf_37 : decode b_F_wholeOf 37 = .ok (.ishl, 1) := by decide +kernel
theorem d_F_wholeOf_38 : decode b_F_wholeOf 38 = .ok (.iadd, 1) := by decide +kernel
theorem d_F_wholeOf_39 : decode b_F_wholeOf 39 = .ok (.i2l, 1) := by decide +kernel
theorem d_F_wholeOf_40 : decode b_F_wholeOf 40 = .ok (.lreturn, 1) := by decide +kernel
theorem d_F_powerOf_0 : decode b_F_powerOf 0 = .ok (.aload_n 0, 1) := by decide +kernel
theorem d_F_powerOf_1 : decode b_F_powerOf 1 = .ok (.getfield 37, 3) := by decide +kernel
theorem d_F_powerOf_4 : decode b_F_powerOf 4 = .ok (.aload_n 0, 1) := by decide +kernel
theorem d_F_powerOf_5 : decode b_F_powerOf 5 = .ok (.iload_n 1, 1) := by decide +kernel
theorem d_F_powerOf_6 : decode b_F_powerOf 6 = .ok (.invokevirtual 40, 3) := by decide +kernel
theorem d_F_powerOf_9 : decode b_F_powerOf 9 = .ok (.aload_n 0, 1) := by decide +kernel
theorem d_F_powerOf_10 : decode b_F_powerOf 10 = .ok (.getfield 19, 3) := by decide +kernel
theorem d_F_powerOf_13 : decode b_F_powerOf 13 = .ok (.iushr, 1) := by decide +kernel
theorem d_F_powerOf_14 : decode b_F_powerOf 14 = .ok (.iconst 1, 1) := by decide +kernel
theorem d_F_powerOf_15 : decode b_F_powerOf 15 = .ok (.invokestatic 44, 3) := by decide +kernel
theorem d_F_powerOf_18 : decode b_F_powerOf 18 = .ok (.iadd, 1) := by decide +kernel
theorem d_F_powerOf_19 : decode b_F_powerOf 19 = .ok (.iconst 1, 1) := by decide +kernel
theorem d_F_powerOf_20 : decode b_F_powerOf 20 = .ok (.isub, 1) := by decide +kernel
theorem d_F_powerOf_21 : decode b_F_powerOf 21 = .ok (.ireturn, 1) := by decide +kernel
theorem d_F_topOf_0 : decode b_F_topOf 0 = .ok (.aload_n 0, 1) := by decide +kernel
theorem d_F_topOf_1 : decode b_F_topOf 1 = .ok (.iload_n 1, 1) := by decide +kernel
theorem d_F_topOf_2 : decode b_F_topOf 2 = .ok (.invokevirtual 50, 3) := by decide +kernel
theorem d_F_topOf_5 : decode b_F_topOf 5 = .ok (.bipush 63, 2) := by decide +kernel
theorem d_F_topOf_7 : decode b_F_topOf 7 = .ok (.iadd, 1) := by decide +kernel
theorem d_F_topOf_8 : decode b_F_topOf 8 = .ok (.aload_n 0, 1) := by decide +kernel
theorem d_F_topOf_9 : decode b_F_topOf 9 = .ok (.iload_n 1, 1) := by decide +kernel
theorem d_F_topOf_10 : decode b_F_topOf 10 = .ok (.invokevirtual 53, 3) := by decide +kernel
theorem d_F_topOf_13 : decode b_F_topOf 13 = .ok (.invokestatic 57, 3) := by decide +kernel
theorem d_F_topOf_16 : decode b_F_topOf 16 = .ok (.isub, 1) := by decide +kernel
theorem d_F_topOf_17 : decode b_F_topOf 17 = .ok (.ireturn, 1) := by decide +kernel
theorem d_R_init_0 : decode b_R_init 0 = .ok (.aload_n 0, 1) := by decide +kernel
theorem d_R_init_1 : decode b_R_init 1 = .ok (.invokespecial 3, 3) := by decide +kernel
theorem d_R_init_4 : decode b_R_init 4 = .ok (.aload_n 0, 1) := by decide +kernel
theorem d_R_init_5 : decode b_R_init 5 = .ok (.bipush 32, 2) := by decide +kernel
theorem d_R_init_7 : decode b_R_init 7 = .ok (.newarray .int, 2) := by decide +kernel
theorem d_R_init_9 : decode b_R_init 9 = .ok (.putfield 9, 3) := by decide +kernel
theorem d_R_init_12 : decode b_R_init 12 = .ok (.aload_n 0, 1) := by decide +kernel
theorem d_R_init_13 : decode b_R_init 13 = .ok (.iconst 0, 1) := by decide +kernel
theorem d_R_init_14 : decode b_R_init 14 = .ok (.putfield 15, 3) := by decide +kernel
theorem d_R_init_17 : decode b_R_init 17 = .ok (.aload_n 0, 1) := by decide +kernel
theorem d_R_init_18 : decode b_R_init 18 = .ok (.iload_n 1, 1) := by decide +kernel
theorem d_R_init_19 : decode b_R_init 19 = .ok (.putfield 19, 3) := by decide +kernel
theorem d_R_init_22 : decode b_R_init 22 = .ok (.return_, 1) := by decide +kernel
theorem d_R_has_0 : decode b_R_has 0 = .ok (.iload_n 1, 1) := by decide +kernel
theorem d_R_has_1 : decode b_R_has 1 = .ok (.ifCond .lt 15, 3) := by decide +kernel
theorem d_R_has_4 : decode b_R_has 4 = .ok (.iload_n 1, 1) := by decide +kernel
theorem d_R_has_5 : decode b_R_has 5 = .ok (.aload_n 0, 1) := by decide +kernel
theorem d_R_has_6 : decode b_R_has 6 = .ok (.getfield 15, 3) := by decide +kernel
theorem d_R_has_9 : decode b_R_has 9 = .ok (.if_icmp .ge 7, 3) := by decide +kernel
theorem d_R_has_12 : decode b_R_has 12 = .ok (.iconst 1, 1) := by decide +kernel
theorem d_R_has_13 : decode b_R_has 13 = .ok (.goto 4, 3) := by decide +kernel
theorem d_R_has_16 : decode b_R_has 16 = .ok (.iconst 0, 1) := by decide +kernel
theorem d_R_has_17 : decode b_R_has 17 = .ok (.ireturn, 1) := by decide +kernel
theorem d_R_uses_0 : decode b_R_uses 0 = .ok (.aload_n 0, 1) := by decide +kernel
theorem d_R_uses_1 : decode b_R_uses 1 = .ok (.getfield 15, 3) := by decide +kernel
theorem d_R_uses_4 : decode b_R_uses 4 = .ok (.ifCond .le 15, 3) := by decide +kernel
theorem d_R_uses_7 : decode b_R_uses 7 = .ok (.aload_n 0, 1) := by decide +kernel
theorem d_R_uses_8 : decode b_R_uses 8 = .ok (.getfield 19, 3) := by decide +kernel
theorem d_R_uses_11 : decode b_R_uses 11 = .ok (.iload_n 1, 1) := by decide +kernel
theorem d_R_uses_12 : decode b_R_uses 12 = .ok (.if_icmp .ne 7, 3) := by decide +kernel
theorem d_R_uses_15 : decode b_R_uses 15 = .ok (.iconst 1, 1) := by decide +kernel
theorem d_R_uses_16 : decode b_R_uses 16 = .ok (.goto 4, 3) := by decide +kernel
theorem d_R_uses_19 : decode b_R_uses 19 = .ok (.iconst 0, 1) := by decide +kernel
theorem d_R_uses_20 : decode b_R_uses 20 = .ok (.ireturn, 1) := by decide +kernel
theorem d_D_init_0 : decode b_D_init 0 = .ok (.aload_n 0, 1) := by decide +kernel
theorem d_D_init_1 : decode b_D_init 1 = .ok (.invokespecial 3, 3) := by decide +kernel
theorem d_D_init_4 : decode b_D_init 4 = .ok (.aload_n 0, 1) := by decide +kernel
theorem d_D_init_5 : decode b_D_init 5 = .ok (.iconst 0, 1) := by decide +kernel
theorem d_D_init_6 : decode b_D_init 6 = .ok (.putfield 9, 3) := by decide +kernel
theorem d_D_init_9 : decode b_D_init 9 = .ok (.aload_n 0, 1) := by decide +kernel
theorem d_D_init_10 : decode b_D_init 10 = .ok (.lconst 1, 1) := by decide +kernel
theorem d_D_init_11 : decode b_D_init 11 = .ok (.putfield 15, 3) := by decide +kernel
theorem d_D_init_14 : decode b_D_init 14 = .ok (.return_, 1) := by decide +kernel
theorem d_D_turned_0 : decode b_D_turned 0 = .ok (.aload_n 1, 1) := by decide +kernel
theorem d_D_turned_1 : decode b_D_turned 1 = .ok (.iload_n 2, 1) := by decide +kernel
theorem d_D_turned_2 : decode b_D_turned 2 = .ok (.invokevirtual 19, 3) := by decide +kernel
theorem d_D_turned_5 : decode b_D_turned 5 = .ok (.istore 6, 2) := by decide +kernel
theorem d_D_turned_7 : decode b_D_turned 7 = .ok (.aload_n 1, 1) := by decide +kernel
theorem d_D_turned_8 : decode b_D_turned 8 = .ok (.iload_n 2, 1) := by decide +kernel
theorem d_D_turned_9 : decode b_D_turned 9 = .ok (.invokevirtual 25, 3) := by decide +kernel
theorem d_D_turned_12 : decode b_D_turned 12 = .ok (.istore 7, 2) := by decide +kernel
theorem d_D_turned_14 : decode b_D_turned 14 = .ok (.iload 6, 2) := by decide +kernel
theorem d_D_turned_16 : decode b_D_turned 16 = .ok (.tableswitch 60 0 4 #[51, 60, 60, 42, 36], 36) := by decide +kernel
theorem d_D_turned_52 : decode b_D_turned 52 = .ok (.aload 4, 2) := by decide +kernel
theorem d_D_turned_54 : decode b_D_turned 54 = .ok (.getfield 29, 3) := by decide +kernel
theorem d_D_turned_57 : decode b_D_turned 57 = .ok (.ireturn, 1) := by decide +kernel
theorem d_D_turned_58 : decode b_D_turned 58 = .ok (.aload_n 0, 1) := by decide +kernel
theorem d_D_turned_59 : decode b_D_turned 59 = .ok (.iload 7, 2) := by decide +kernel
theorem d_D_turned_61 : decode b_D_turned 61 = .ok (.aload 4, 2) := by decide +kernel
theorem d_D_turned_63 : decode b_D_turned 63 = .ok (.invokevirtual 32, 3) := by decide +kernel
theorem d_D_turned_66 : decode b_D_turned 66 = .ok (.ireturn, 1) := by decide +kernel
theorem d_D_turned_67 : decode b_D_turned 67 = .ok (.aload 4, 2) := by decide +kernel
theorem d_D_turned_69 : decode b_D_turned 69 = .ok (.iload 7, 2) := by decide +kernel
theorem d_D_turned_71 : decode b_D_turned 71 = .ok (.iconst 0, 1) := by decide +kernel
theorem d_D_turned_72 : decode b_D_turned 72 = .ok (.invokevirtual 36, 3) := by decide +kernel
theorem d_D_turned_75 : decode b_D_turned 75 = .ok (.ireturn, 1) := by decide +kernel
theorem d_D_turned_76 : decode b_D_turned 76 = .ok (.aload_n 0, 1) := by decide +kernel
theorem d_D_turned_77 : decode b_D_turned 77 = .ok (.iload 7, 2) := by decide +kernel
theorem d_D_turned_79 : decode b_D_turned 79 = .ok (.aload_n 1, 1) := by decide +kernel
theorem d_D_turned_80 : decode b_D_turned 80 = .ok (.iload_n 2, 1) := by decide +kernel
theorem d_D_turned_81 : decode b_D_turned 81 = .ok (.invokevirtual 40, 3) := by decide +kernel
theorem d_D_turned_84 : decode b_D_turned 84 = .ok (.aload_n 1, 1) := by decide +kernel
theorem d_D_turned_85 : decode b_D_turned 85 = .ok (.iload_n 2, 1) := by decide +kernel
theorem d_D_turned_86 : decode b_D_turned 86 = .ok (.invokevirtual 44, 3) := by decide +kernel
theorem d_D_turned_89 : decode b_D_turned 89 = .ok (.iload_n 3, 1) := by decide +kernel
theorem d_D_turned_90 : decode b_D_turned 90 = .ok (.iadd, 1) := by decide +kernel
theorem d_D_turned_91 : decode b_D_turned 91 = .ok (.iconst 0, 1) := by decide +kernel
theorem d_D_turned_92 : decode b_D_turned 92 = .ok (.aload 4, 2) := by decide +kernel
theorem d_D_turned_94 : decode b_D_turned 94 = .ok (.iload 5, 2) := by decide +kernel
theorem d_D_turned_96 : decode b_D_turned 96 = .ok (.invokevirtual 47, 3) := by decide +kernel
theorem d_D_turned_99 : decode b_D_turned 99 = .ok (.ireturn, 1) := by decide +kernel
theorem d_D_rounded_0 : decode b_D_rounded 0 = .ok (.aload_n 1, 1) := by decide +kernel
theorem d_D_rounded_1 : decode b_D_rounded 1 = .ok (.getfield 51, 3) := by decide +kernel
theorem d_D_rounded_4 : decode b_D_rounded 4 = .ok (.ifCond .eq 8, 3) := by decide +kernel
theorem d_D_rounded_7 : decode b_D_rounded 7 = .ok (.aload_n 2, 1) := by decide +kernel
theorem d_D_rounded_8 : decode b_D_rounded 8 = .ok (.getfield 29, 3) := by decide +kernel
theorem d_D_rounded_11 : decode b_D_rounded 11 = .ok (.ireturn, 1) := by decide +kernel
theorem d_D_rounded_12 : decode b_D_rounded 12 = .ok (.aload_n 1, 1) := by decide +kernel
theorem d_D_rounded_13 : decode b_D_rounded 13 = .ok (.getfield 57, 3) := by decide +kernel
theorem d_D_rounded_16 : decode b_D_rounded 16 = .ok (.ifCond .ne 17, 3) := by decide +kernel
theorem d_D_rounded_19 : decode b_D_rounded 19 = .ok (.aload_n 1, 1) := by decide +kernel
theorem d_D_rounded_20 : decode b_D_rounded 20 = .ok (.getfield 60, 3) := by decide +kernel
theorem d_D_rounded_23 : decode b_D_rounded 23 = .ok (.ifCond .eq 25, 3) := by decide +kernel
theorem d_D_rounded_26 : decode b_D_rounded 26 = .ok (.aload_n 1, 1) := by decide +kernel
theorem d_D_rounded_27 : decode b_D_rounded 27 = .ok (.getfield 63, 3) := by decide +kernel
theorem d_D_rounded_30 : decode b_D_rounded 30 = .ok (.ifCond .eq 18, 3) := by decide +kernel
theorem d_D_rounded_33 : decode b_D_rounded 33 = .ok (.aload_n 0, 1) := by decide +kernel
theorem d_D_rounded_34 : decode b_D_rounded 34 = .ok (.dup, 1) := by decide +kernel
theorem d_D_rounded_35 : decode b_D_rounded 35 = .ok (.getfield 9, 3) := by decide +kernel
theorem d_D_rounded_38 : decode b_D_rounded 38 = .ok (.iconst 1, 1) := by decide +kernel
theorem d_D_rounded_39 : decode b_D_rounded 39 = .ok (.ior, 1) := by decide +kernel
theorem d_D_rounded_40 : decode b_D_rounded 40 = .ok (.putfield 9, 3) := by decide +kernel
theorem d_D_rounded_43 : decode b_D_rounded 43 = .ok (.aload_n 2, 1) := by decide +kernel
theorem d_D_rounded_44 : decode b_D_rounded 44 = .ok (.getfield 29, 3) := by decide +kernel
theorem d_D_rounded_47 : decode b_D_rounded 47 = .ok (.ireturn, 1) := by decide +kernel
theorem d_D_rounded_48 : decode b_D_rounded 48 = .ok (.aload_n 1, 1) := by decide +kernel
theorem d_D_rounded_49 : decode b_D_rounded 49 = .ok (.getfield 60, 3) := by decide +kernel
theorem d_D_rounded_52 : decode b_D_rounded 52 = .ok (.ifCond .ne 10, 3) := by decide +kernel
theorem d_D_rounded_55 : decode b_D_rounded 55 = .ok (.aload_n 1, 1) := by decide +kernel
theorem d_D_rounded_56 : decode b_D_rounded 56 = .ok (.getfield 63, 3) := by decide +kernel
theorem d_D_rounded_59 : decode b_D_rounded 59 = .ok (.ifCond .eq 13, 3) := by decide +kernel
theorem d_D_rounded_62 : decode b_D_rounded 62 = .ok (.aload_n 0, 1) := by decide +kernel
theorem d_D_rounded_63 : decode b_D_rounded 63 = .ok (.aload_n 1, 1) := by decide +kernel
theorem d_D_rounded_64 : decode b_D_rounded 64 = .ok (.getfield 63, 3) := by decide +kernel
theorem d_D_rounded_67 : decode b_D_rounded 67 = .ok (.aload_n 2, 1) := by decide +kernel
theorem d_D_rounded_68 : decode b_D_rounded 68 = .ok (.invokevirtual 32, 3) := by decide +kernel
theorem d_D_rounded_71 : decode b_D_rounded 71 = .ok (.ireturn, 1) := by decide +kernel
theorem d_D_rounded_72 : decode b_D_rounded 72 = .ok (.aload_n 1, 1) := by decide +kernel
theorem d_D_rounded_73 : decode b_D_rounded 73 = .ok (.invokevirtual 66, 3) := by decide +kernel
theorem d_D_rounded_76 : decode b_D_rounded 76 = .ok (.aload_n 1, 1) := by decide +kernel
theorem d_D_rounded_77 : decode b_D_rounded 77 = .ok (.getfield 69, 3) := by decide +kernel
theorem d_D_rounded_80 : decode b_D_rounded 80 = .ok (.lconst 0, 1) := by decide +kernel
theorem d_D_rounded_81 : decode b_D_rounded 81 = .ok (.lcmp, 1) := by decide +kernel
theorem d_D_rounded_82 : decode b_D_rounded 82 = .ok (.ifCond .ne 14, 3) := by decide +kernel
theorem d_D_rounded_85 : decode b_D_rounded 85 = .ok (.aload_n 2, 1) := by decide +kernel
theorem d_D_rounded_86 : decode b_D_rounded 86 = .ok (.aload_n 1, 1) := by decide +kernel
theorem d_D_rounded_87 : decode b_D_rounded 87 = .ok (.iload_n 3, 1) := by decide +kernel
theorem d_D_rounded_88 : decode b_D_rounded 88 = .ok (.invokevirtual 72, 3) := by decide +kernel
theorem d_D_rounded_91 : decode b_D_rounded 91 = .ok (.iconst 0, 1) := by decide +kernel
theorem d_D_rounded_92 : decode b_D_rounded 92 = .ok (.invokevirtual 36, 3) := by decide +kernel
theorem d_D_rounded_95 : decode b_D_rounded 95 = .ok (.ireturn, 1) := by decide +kernel
theorem d_D_rounded_96 : decode b_D_rounded 96 = .ok (.aload_n 0, 1) := by decide +kernel
theorem d_D_rounded_97 : decode b_D_rounded 97 = .ok (.aload_n 1, 1) := by decide +kernel
theorem d_D_rounded_98 : decode b_D_rounded 98 = .ok (.getfield 75, 3) := by decide +kernel
theorem d_D_rounded_101 : decode b_D_rounded 101 = .ok (.aload_n 1, 1) := by decide +kernel
theorem d_D_rounded_102 : decode b_D_rounded 102 = .ok (.getfield 69, 3) := by decide +kernel
theorem d_D_rounded_105 : decode b_D_rounded 105 = .ok (.aload_n 1, 1) := by decide +kernel
theorem d_D_rounded_106 : decode b_D_rounded 106 = .ok (.getfield 78, 3) := by decide +kernel
theorem d_D_rounded_109 : decode b_D_rounded 109 = .ok (.aload_n 1, 1) := by decide +kernel
theorem d_D_rounded_110 : decode b_D_rounded 110 = .ok (.getfield 81, 3) := by decide +kernel
theorem d_D_rounded_113 : decode b_D_rounded 113 = .ok (.aload_n 2, 1) := by decide +kernel
theorem d_D_rounded_114 : decode b_D_rounded 114 = .ok (.iload_n 3, 1) := by decide +kernel
theorem d_D_rounded_115 : decode b_D_rounded 115 = .ok (.invokevirtual 47, 3) := by decide +kernel
theorem d_D_rounded_118 : decode b_D_rounded 118 = .ok (.ireturn, 1) := by decide +kernel
theorem d_D_infinite_0 : decode b_D_infinite 0 = .ok (.aload_n 2, 1) := by decide +kernel
theorem d_D_infinite_1 : decode b_D_infinite 1 = .ok (.getfield 84, 3) := by decide +kernel
theorem d_D_infinite_4 : decode b_D_infinite 4 = .ok (.lookupswitch 50 #[(0, 28), (1, 38)], 28) := by decide +kernel
theorem d_D_infinite_32 : decode b_D_infinite 32 = .ok (.aload_n 2, 1) := by decide +kernel
theorem d_D_infinite_33 : decode b_D_infinite 33 = .ok (.iload_n 1, 1) := by decide +kernel
theorem d_D_infinite_34 : decode b_D_infinite 34 = .ok (.aload_n 2, 1) := by decide +kernel
theorem d_D_infinite_35 : decode b_D_infinite 35 = .ok (.getfield 87, 3) := by decide +kernel
theorem d_D_infinite_38 : decode b_D_infinite 38 = .ok (.invokevirtual 36, 3) := by decide +kernel
theorem d_D_infinite_41 : decode b_D_infinite 41 = .ok (.ireturn, 1) := by decide +kernel
theorem d_D_infinite_42 : decode b_D_infinite 42 = .ok (.aload_n 2, 1) := by decide +kernel
theorem d_D_infinite_43 : decode b_D_infinite 43 = .ok (.iload_n 1, 1) := by decide +kernel
theorem d_D_infinite_44 : decode b_D_infinite 44 = .ok (.aload_n 2, 1) := by decide +kernel
theorem d_D_infinite_45 : decode b_D_infinite 45 = .ok (.getfield 87, 3) := by decide +kernel
theorem d_D_infinite_48 : decode b_D_infinite 48 = .ok (.iconst 1, 1) := by decide +kernel
theorem d_D_infinite_49 : decode b_D_infinite 49 = .ok (.isub, 1) := by decide +kernel
theorem d_D_infinite_50 : decode b_D_infinite 50 = .ok (.invokevirtual 36, 3) := by decide +kernel
theorem d_D_infinite_53 : decode b_D_infinite 53 = .ok (.ireturn, 1) := by decide +kernel
theorem d_D_infinite_54 : decode b_D_infinite 54 = .ok (.aload_n 2, 1) := by decide +kernel
theorem d_D_infinite_55 : decode b_D_infinite 55 = .ok (.getfield 29, 3) := by decide +kernel
theorem d_D_infinite_58 : decode b_D_infinite 58 = .ok (.ireturn, 1) := by decide +kernel
theorem d_D_finite_0 : decode b_D_finite 0 = .ok (.iload 4, 2) := by decide +kernel
theorem d_D_finite_2 : decode b_D_finite 2 = .ok (.bipush 63, 2) := by decide +kernel
theorem d_D_finite_4 : decode b_D_finite 4 = .ok (.iadd, 1) := by decide +kernel
theorem d_D_finite_5 : decode b_D_finite 5 = .ok (.lload_n 2, 1) := by decide +kernel
theorem d_D_finite_6 : decode b_D_finite 6 = .ok (.invokestatic 90, 3) := by decide +kernel
theorem d_D_finite_9 : decode b_D_finite 9 = .ok (.isub, 1) := by decide +kernel
theorem d_D_finite_10 : decode b_D_finite 10 = .ok (.istore 8, 2) := by decide +kernel
theorem d_D_finite_12 : decode b_D_finite 12 = .ok (.iload 8, 2) := by decide +kernel
theorem d_D_finite_14 : decode b_D_finite 14 = .ok (.aload 6, 2) := by decide +kernel
theorem d_D_finite_16 : decode b_D_finite 16 = .ok (.getfield 96, 3) := by decide +kernel
theorem d_D_finite_19 : decode b_D_finite 19 = .ok (.invokestatic 99, 3) := by decide +kernel
theorem d_D_finite_22 : decode b_D_finite 22 = .ok (.aload 6, 2) := by decide +kernel
theorem d_D_finite_24 : decode b_D_finite 24 = .ok (.getfield 105, 3) := by decide +kernel
theorem d_D_finite_27 : decode b_D_finite 27 = .ok (.isub, 1) := by decide +kernel
theorem d_D_finite_28 : decode b_D_finite 28 = .ok (.istore 9, 2) := by decide +kernel
theorem d_D_finite_30 : decode b_D_finite 30 = .ok (.iload 9, 2) := by decide +kernel
theorem d_D_finite_32 : decode b_D_finite 32 = .ok (.iload 4, 2) := by decide +kernel
theorem d_D_finite_34 : decode b_D_finite 34 = .ok (.isub, 1) := by decide +kernel
theorem d_D_finite_35 : decode b_D_finite 35 = .ok (.istore 10, 2) := by decide +kernel
theorem d_D_finite_37 : decode b_D_finite 37 = .ok (.lload_n 2, 1) := by decide +kernel
theorem d_D_finite_38 : decode b_D_finite 38 = .ok (.iload 10, 2) := by decide +kernel
theorem d_D_finite_40 : decode b_D_finite 40 = .ok (.invokestatic 108, 3) := by decide +kernel
theorem d_D_finite_43 : decode b_D_finite 43 = .ok (.lstore 11, 2) := by decide +kernel
theorem d_D_finite_45 : decode b_D_finite 45 = .ok (.iload 10, 2) := by decide +kernel
theorem d_D_finite_47 : decode b_D_finite 47 = .ok (.ifCond .le 16, 3) := by decide +kernel
theorem d_D_finite_50 : decode b_D_finite 50 = .ok (.lload_n 2, 1) := by decide +kernel
theorem d_D_finite_51 : decode b_D_finite 51 = .ok (.lload 11, 2) := by decide +kernel
theorem d_D_finite_53 : decode b_D_finite 53 = .ok (.iload 10, 2) := by decide +kernel
theorem d_D_finite_55 : decode b_D_finite 55 = .ok (.ineg, 1) := by decide +kernel
theorem d_D_finite_56 : decode b_D_finite 56 = .ok (.invokestatic 108, 3) := by decide +kernel
theorem d_D_finite_59 : decode b_D_finite 59 = .ok (.lsub, 1) := by decide +kernel
theorem d_D_finite_60 : decode b_D_finite 60 = .ok (.goto 4, 3) := by decide +kernel
theorem d_D_finite_63 : decode b_D_finite 63 = .ok (.lconst 0, 1) := by decide +kernel
theorem d_D_finite_64 : decode b_D_finite 64 = .ok (.lstore 13, 2) := by decide +kernel
theorem d_D_finite_66 : decode b_D_finite 66 = .ok (.iload 9, 2) := by decide +kernel
theorem d_D_finite_68 : decode b_D_finite 68 = .ok (.aload 6, 2) := by decide +kernel
theorem d_D_finite_70 : decode b_D_finite 70 = .ok (.getfield 112, 3) := by decide +kernel
theorem d_D_finite_73 : decode b_D_finite 73 = .ok (.isub, 1) := by decide +kernel
theorem d_D_finite_74 : decode b_D_finite 74 = .ok (.i2l, 1) := by decide +kernel
theorem d_D_finite_75 : decode b_D_finite 75 = .ok (.aload 6, 2) := by decide +kernel
theorem d_D_finite_77 : decode b_D_finite 77 = .ok (.getfield 105, 3) := by decide +kernel
theorem d_D_finite_80 : decode b_D_finite 80 = .ok (.lshl, 1) := by decide +kernel
theorem d_D_finite_81 : decode b_D_finite 81 = .ok (.lload 11, 2) := by decide +kernel
theorem d_D_finite_83 : decode b_D_finite 83 = .ok (.ladd, 1) := by decide +kernel
theorem d_D_finite_84 : decode b_D_finite 84 = .ok (.lstore 15, 2) := by decide +kernel
theorem d_D_finite_86 : decode b_D_finite 86 = .ok (.lload 13, 2) := by decide +kernel
theorem d_D_finite_88 : decode b_D_finite 88 = .ok (.lconst 0, 1) := by decide +kernel
theorem d_D_finite_89 : decode b_D_finite 89 = .ok (.lcmp, 1) := by decide +kernel
theorem d_D_finite_90 : decode b_D_finite 90 = .ok (.ifCond .ne 8, 3) := by decide +kernel
theorem d_D_finite_93 : decode b_D_finite 93 = .ok (.iload 5, 2) := by decide +kernel
theorem d_D_finite_95 : decode b_D_finite 95 = .ok (.ifCond .eq 107, 3) := by decide +kernel
theorem d_D_finite_98 : decode b_D_finite 98 = .ok (.aload_n 0, 1) := by decide +kernel
theorem d_D_finite_99 : decode b_D_finite 99 = .ok (.dup, 1) := by decide +kernel
theorem d_D_finite_100 : decode b_D_finite 100 = .ok (.getfield 9, 3) := by decide +kernel
theorem d_D_finite_103 : decode b_D_finite 103 = .ok (.iload 8, 2) := by decide +kernel
theorem d_D_finite_105 : decode b_D_finite 105 = .ok (.aload 6, 2) := by decide +kernel
theorem d_D_finite_107 : decode b_D_finite 107 = .ok (.getfield 96, 3) := by decide +kernel
theorem d_D_finite_110 : decode b_D_finite 110 = .ok (.if_icmp .ge 8, 3) := by decide +kernel
theorem d_D_finite_113 : decode b_D_finite 113 = .ok (.bipush 12, 2) := by decide +kernel
theorem d_D_finite_115 : decode b_D_finite 115 = .ok (.goto 5, 3) := by decide +kernel
theorem d_D_finite_118 : decode b_D_finite 118 = .ok (.bipush 8, 2) := by decide +kernel
theorem d_D_finite_120 : decode b_D_finite 120 = .ok (.ior, 1) := by decide +kernel
theorem d_D_finite_121 : decode b_D_finite 121 = .ok (.putfield 9, 3) := by decide +kernel
theorem d_D_finite_124 : decode b_D_finite 124 = .ok (.iload 7, 2) := by decide +kernel
theorem d_D_finite_126 : decode b_D_finite 126 = .ok (.iconst 5, 1) := by decide +kernel
theorem d_D_finite_127 : decode b_D_finite 127 = .ok (.if_icmp .ne 29, 3) := by decide +kernel
theorem d_D_finite_130 : decode b_D_finite 130 = .ok (.aload_n 0, 1) := by decide +kernel
theorem d_D_finite_131 : decode b_D_finite 131 = .ok (.invokevirtual 115, 3) := by decide +kernel
theorem d_D_finite_134 : decode b_D_finite 134 = .ok (.lload 13, 2) := by decide +kernel
theorem d_D_finite_136 : decode b_D_finite 136 = .ok (.iload 10, 2) := by decide +kernel
theorem d_D_finite_138 : decode b_D_finite 138 = .ok (.bipush 16, 2) := by decide +kernel
theorem d_D_finite_140 : decode b_D_finite 140 = .ok (.isub, 1) := by decide +kernel
theorem d_D_finite_141 : decode b_D_finite 141 = .ok (.invokestatic 108, 3) := by decide +kernel
theorem d_D_finite_144 : decode b_D_finite 144 = .ok (.lcmp, 1) := by decide +kernel
theorem d_D_finite_145 : decode b_D_finite 145 = .ok (.ifCond .ge 7, 3) := by decide +kernel
theorem d_D_finite_148 : decode b_D_finite 148 = .ok (.iconst 1, 1) := by decide +kernel
theorem d_D_finite_149 : decode b_D_finite 149 = .ok (.goto 36, 3) := by decide +kernel
theorem d_D_finite_152 : decode b_D_finite 152 = .ok (.iconst 0, 1) := by decide +kernel
theorem d_D_finite_153 : decode b_D_finite 153 = .ok (.goto 32, 3) := by decide +kernel
theorem d_D_finite_156 : decode b_D_finite 156 = .ok (.iload_n 1, 1) := by decide +kernel
theorem d_D_finite_157 : decode b_D_finite 157 = .ok (.lload 11, 2) := by decide +kernel
theorem d_D_finite_159 : decode b_D_finite 159 = .ok (.lconst 1, 1) := by decide +kernel
theorem d_D_finite_160 : decode b_D_finite 160 = .ok (.land, 1) := by decide +kernel
theorem d_D_finite_161 : decode b_D_finite 161 = .ok (.lconst 1, 1) := by decide +kernel
theorem d_D_finite_162 : decode b_D_finite 162 = .ok (.lcmp, 1) := by decide +kernel
theorem d_D_finite_163 : decode b_D_finite 163 = .ok (.ifCond .ne 7, 3) := by decide +kernel
theorem d_D_finite_166 : decode b_D_finite 166 = .ok (.iconst 1, 1) := by decide +kernel
theorem d_D_finite_167 : decode b_D_finite 167 = .ok (.goto 4, 3) := by decide +kernel
theorem d_D_finite_170 : decode b_D_finite 170 = .ok (.iconst 0, 1) := by decide +kernel
theorem d_D_finite_171 : decode b_D_finite 171 = .ok (.lload 13, 2) := by decide +kernel
theorem d_D_finite_173 : decode b_D_finite 173 = .ok (.iload 10, 2) := by decide +kernel
theorem d_D_finite_175 : decode b_D_finite 175 = .ok (.iload 5, 2) := by decide +kernel
theorem d_D_finite_177 : decode b_D_finite 177 = .ok (.invokestatic 119, 3) := by decide +kernel
theorem d_D_finite_180 : decode b_D_finite 180 = .ok (.iload 7, 2) := by decide +kernel
theorem d_D_finite_182 : decode b_D_finite 182 = .ok (.invokestatic 123, 3) := by decide +kernel
theorem d_D_finite_185 : decode b_D_finite 185 = .ok (.istore 17, 2) := by decide +kernel
theorem d_D_finite_187 : decode b_D_finite 187 = .ok (.lload 15, 2) := by decide +kernel
theorem d_D_finite_189 : decode b_D_finite 189 = .ok (.iload 17, 2) := by decide +kernel
theorem d_D_finite_191 : decode b_D_finite 191 = .ok (.ifCond .eq 7, 3) := by decide +kernel
theorem d_D_finite_194 : decode b_D_finite 194 = .ok (.lconst 1, 1) := by decide +kernel
theorem d_D_finite_195 : decode b_D_finite 195 = .ok (.goto 4, 3) := by decide +kernel
theorem d_D_finite_198 : decode b_D_finite 198 = .ok (.lconst 0, 1) := by decide +kernel
theorem d_D_finite_199 : decode b_D_finite 199 = .ok (.ladd, 1) := by decide +kernel
theorem d_D_finite_200 : decode b_D_finite 200 = .ok (.lstore 15, 2) := by decide +kernel
theorem d_D_finite_202 : decode b_D_finite 202 = .ok (.lload 15, 2) := by decide +kernel
theorem d_D_finite_204 : decode b_D_finite 204 = .ok (.aload 6, 2) := by decide +kernel
theorem d_D_finite_206 : decode b_D_finite 206 = .ok (.getfield 87, 3) := by decide +kernel
theorem d_D_finite_209 : decode b_D_finite 209 = .ok (.i2l, 1) := by decide +kernel
theorem d_D_finite_210 : decode b_D_finite 210 = .ok (.lcmp, 1) := by decide +kernel
theorem d_D_finite_211 : decode b_D_finite 211 = .ok (.ifCond .lt 67, 3) := by decide +kernel
theorem d_D_finite_214 : decode b_D_finite 214 = .ok (.aload_n 0, 1) := by decide +kernel
theorem d_D_finite_215 : decode b_D_finite 215 = .ok (.dup, 1) := by decide +kernel
theorem d_D_finite_216 : decode b_D_finite 216 = .ok (.getfield 9, 3) := by decide +kernel
theorem d_D_finite_219 : decode b_D_finite 219 = .ok (.bipush 10, 2) := by decide +kernel
theorem d_D_finite_221 : decode b_D_finite 221 = .ok (.ior, 1) := by decide +kernel
theorem d_D_finite_222 : decode b_D_finite 222 = .ok (.putfield 9, 3) := by decide +kernel
theorem d_D_finite_225 : decode b_D_finite 225 = .ok (.aload 6, 2) := by decide +kernel
theorem d_D_finite_227 : decode b_D_finite 227 = .ok (.getfield 84, 3) := by decide +kernel
theorem d_D_finite_230 : decode b_D_finite 230 = .ok (.ifCond .ne 16, 3) := by decide +kernel
theorem d_D_finite_233 : decode b_D_finite 233 = .ok (.iload_n 1, 1) := by decide +kernel
theorem d_D_finite_234 : decode b_D_finite 234 = .ok (.iload 7, 2) := by decide +kernel
theorem d_D_finite_236 : decode b_D_finite 236 = .ok (.invokestatic 127, 3) := by decide +kernel
theorem d_D_finite_239 : decode b_D_finite 239 = .ok (.ifCond .eq 7, 3) := by decide +kernel
theorem d_D_finite_242 : decode b_D_finite 242 = .ok (.iconst 1, 1) := by decide +kernel
theorem d_D_finite_243 : decode b_D_finite 243 = .ok (.goto 4, 3) := by decide +kernel
theorem d_D_finite_246 : decode b_D_finite 246 = .ok (.iconst 0, 1) := by decide +kernel
theorem d_D_finite_247 : decode b_D_finite 247 = .ok (.istore 17, 2) := by decide +kernel
theorem d_D_finite_249 : decode b_D_finite 249 = .ok (.iload 17, 2) := by decide +kernel
theorem d_D_finite_251 : decode b_D_finite 251 = .ok (.ifCond .eq 19, 3) := by decide +kernel
theorem d_D_finite_254 : decode b_D_finite 254 = .ok (.aload 6, 2) := by decide +kernel
theorem d_D_finite_256 : decode b_D_finite 256 = .ok (.iload_n 1, 1) := by decide +kernel
theorem d_D_finite_257 : decode b_D_finite 257 = .ok (.aload 6, 2) := by decide +kernel
theorem d_D_finite_259 : decode b_D_finite 259 = .ok (.getfield 87, 3) := by decide +kernel
theorem d_D_finite_262 : decode b_D_finite 262 = .ok (.iconst 1, 1) := by decide +kernel
theorem d_D_finite_263 : decode b_D_finite 263 = .ok (.isub, 1) := by decide +kernel
theorem d_D_finite_264 : decode b_D_finite 264 = .ok (.invokevirtual 36, 3) := by decide +kernel
theorem d_D_finite_267 : decode b_D_finite 267 = .ok (.goto 10, 3) := by decide +kernel
theorem d_D_finite_270 : decode b_D_finite 270 = .ok (.aload_n 0, 1) := by decide +kernel
theorem d_D_finite_271 : decode b_D_finite 271 = .ok (.iload_n 1, 1) := by decide +kernel
theorem d_D_finite_272 : decode b_D_finite 272 = .ok (.aload 6, 2) := by decide +kernel
theorem d_D_finite_274 : decode b_D_finite 274 = .ok (.invokevirtual 32, 3) := by decide +kernel
theorem d_D_finite_277 : decode b_D_finite 277 = .ok (.ireturn, 1) := by decide +kernel
theorem d_D_finite_278 : decode b_D_finite 278 = .ok (.aload 6, 2) := by decide +kernel
theorem d_D_finite_280 : decode b_D_finite 280 = .ok (.iload_n 1, 1) := by decide +kernel
theorem d_D_finite_281 : decode b_D_finite 281 = .ok (.lload 15, 2) := by decide +kernel
theorem d_D_finite_283 : decode b_D_finite 283 = .ok (.l2i, 1) := by decide +kernel
theorem d_D_finite_284 : decode b_D_finite 284 = .ok (.invokevirtual 36, 3) := by decide +kernel
theorem d_D_finite_287 : decode b_D_finite 287 = .ok (.ireturn, 1) := by decide +kernel
theorem d_D_shifted_0 : decode b_D_shifted 0 = .ok (.iload_n 2, 1) := by decide +kernel
theorem d_D_shifted_1 : decode b_D_shifted 1 = .ok (.bipush 62, 2) := by decide +kernel
theorem d_D_shifted_3 : decode b_D_shifted 3 = .ok (.if_icmp .le 5, 3) := by decide +kernel
theorem d_D_shifted_6 : decode b_D_shifted 6 = .ok (.lconst 0, 1) := by decide +kernel
theorem d_D_shifted_7 : decode b_D_shifted 7 = .ok (.lreturn, 1) := by decide +kernel
theorem d_D_shifted_8 : decode b_D_shifted 8 = .ok (.iload_n 2, 1) := by decide +kernel
theorem d_D_shifted_9 : decode b_D_shifted 9 = .ok (.ifCond .lt 9, 3) := by decide +kernel
theorem d_D_shifted_12 : decode b_D_shifted 12 = .ok (.lload_n 0, 1) := by decide +kernel
theorem d_D_shifted_13 : decode b_D_shifted 13 = .ok (.iload_n 2, 1) := by decide +kernel
theorem d_D_shifted_14 : decode b_D_shifted 14 = .ok (.lushr, 1) := by decide +kernel
theorem d_D_shifted_15 : decode b_D_shifted 15 = .ok (.goto 7, 3) := by decide +kernel
theorem d_D_shifted_18 : decode b_D_shifted 18 = .ok (.lload_n 0, 1) := by decide +kernel
theorem d_D_shifted_19 : decode b_D_shifted 19 = .ok (.iload_n 2, 1) := by decide +kernel
theorem d_D_shifted_20 : decode b_D_shifted 20 = .ok (.ineg, 1) := by decide +kernel
theorem d_D_shifted_21 : decode b_D_shifted 21 = .ok (.lshl, 1) := by decide +kernel
theorem d_D_shifted_22 : decode b_D_shifted 22 = .ok (.lreturn, 1) := by decide +kernel
theorem d_D_againstHalf_0 : decode b_D_againstHalf 0 = .ok (.iload_n 2, 1) := by decide +kernel
theorem d_D_againstHalf_1 : decode b_D_againstHalf 1 = .ok (.bipush 62, 2) := by decide +kernel
theorem d_D_againstHalf_3 : decode b_D_againstHalf 3 = .ok (.if_icmp .le 5, 3) := by decide +kernel
theorem d_D_againstHalf_6 : decode b_D_againstHalf 6 = .ok (.iconst (-1), 1) := by decide +kernel
theorem d_D_againstHalf_7 : decode b_D_againstHalf 7 = .ok (.ireturn, 1) := by decide +kernel
theorem d_D_againstHalf_8 : decode b_D_againstHalf 8 = .ok (.lload_n 0, 1) := by decide +kernel
theorem d_D_againstHalf_9 : decode b_D_againstHalf 9 = .ok (.lconst 1, 1) := by decide +kernel
theorem d_D_againstHalf_10 : decode b_D_againstHalf 10 = .ok (.iload_n 2, 1) := by decide +kernel
theorem d_D_againstHalf_11 : decode b_D_againstHalf 11 = .ok (.iconst 1, 1) := by decide +kernel
theorem d_D_againstHalf_12 : decode b_D_againstHalf 12 = .ok (.isub, 1) := by decide +kernel
theorem d_D_againstHalf_13 : decode b_D_againstHalf 13 = .ok (.lshl, 1) := by decide +kernel
theorem d_D_againstHalf_14 : decode b_D_againstHalf 14 = .ok (.invokestatic 131, 3) := by decide +kernel
theorem d_D_againstHalf_17 : decode b_D_againstHalf 17 = .ok (.istore 4, 2) := by decide +kernel
theorem d_D_againstHalf_19 : decode b_D_againstHalf 19 = .ok (.iload 4, 2) := by decide +kernel
theorem d_D_againstHalf_21 : decode b_D_againstHalf 21 = .ok (.ifCond .ne 11, 3) := by decide +kernel
theorem d_D_againstHalf_24 : decode b_D_againstHalf 24 = .ok (.iload_n 3, 1) := by decide +kernel
theorem d_D_againstHalf_25 : decode b_D_againstHalf 25 = .ok (.ifCond .eq 7, 3) := by decide +kernel
theorem d_D_againstHalf_28 : decode b_D_againstHalf 28 = .ok (.iconst 1, 1) := by decide +kernel
theorem d_D_againstHalf_29 : decode b_D_againstHalf 29 = .ok (.goto 5, 3) := by decide +kernel
theorem d_D_againstHalf_32 : decode b_D_againstHalf 32 = .ok (.iload 4, 2) := by decide +kernel
theorem d_D_againstHalf_34 : decode b_D_againstHalf 34 = .ok (.ireturn, 1) := by decide +kernel
theorem d_D_goesFar_0 : decode b_D_goesFar 0 = .ok (.iload_n 3, 1) := by decide +kernel
theorem d_D_goesFar_1 : decode b_D_goesFar 1 = .ok (.tableswitch 75 0 4 #[35, 53, 75, 63, 73], 35) := by decide +kernel
theorem d_D_goesFar_36 : decode b_D_goesFar 36 = .ok (.iload_n 2, 1) := by decide +kernel
theorem d_D_goesFar_37 : decode b_D_goesFar 37 = .ok (.ifCond .gt 11, 3) := by decide +kernel
theorem d_D_goesFar_40 : decode b_D_goesFar 40 = .ok (.iload_n 2, 1) := by decide +kernel
theorem d_D_goesFar_41 : decode b_D_goesFar 41 = .ok (.ifCond .ne 11, 3) := by decide +kernel
theorem d_D_goesFar_44 : decode b_D_goesFar 44 = .ok (.iload_n 1, 1) := by decide +kernel
theorem d_D_goesFar_45 : decode b_D_goesFar 45 = .ok (.ifCond .eq 7, 3) := by decide +kernel
theorem d_D_goesFar_48 : decode b_D_goesFar 48 = .ok (.iconst 1, 1) := by decide +kernel
theorem d_D_goesFar_49 : decode b_D_goesFar 49 = .ok (.goto 4, 3) := by decide +kernel
theorem d_D_goesFar_52 : decode b_D_goesFar 52 = .ok (.iconst 0, 1) := by decide +kernel
theorem d_D_goesFar_53 : decode b_D_goesFar 53 = .ok (.ireturn, 1) := by decide +kernel
theorem d_D_goesFar_54 : decode b_D_goesFar 54 = .ok (.iload_n 2, 1) := by decide +kernel
theorem d_D_goesFar_55 : decode b_D_goesFar 55 = .ok (.ifCond .lt 7, 3) := by decide +kernel
theorem d_D_goesFar_58 : decode b_D_goesFar 58 = .ok (.iconst 1, 1) := by decide +kernel
theorem d_D_goesFar_59 : decode b_D_goesFar 59 = .ok (.goto 4, 3) := by decide +kernel
theorem d_D_goesFar_62 : decode b_D_goesFar 62 = .ok (.iconst 0, 1) := by decide +kernel
theorem d_D_goesFar_63 : decode b_D_goesFar 63 = .ok (.ireturn, 1) := by decide +kernel
theorem d_D_goesFar_64 : decode b_D_goesFar 64 = .ok (.iload_n 0, 1) := by decide +kernel
theorem d_D_goesFar_65 : decode b_D_goesFar 65 = .ok (.ifCond .ne 7, 3) := by decide +kernel
theorem d_D_goesFar_68 : decode b_D_goesFar 68 = .ok (.iconst 1, 1) := by decide +kernel
theorem d_D_goesFar_69 : decode b_D_goesFar 69 = .ok (.goto 4, 3) := by decide +kernel
theorem d_D_goesFar_72 : decode b_D_goesFar 72 = .ok (.iconst 0, 1) := by decide +kernel
theorem d_D_goesFar_73 : decode b_D_goesFar 73 = .ok (.ireturn, 1) := by decide +kernel
theorem d_D_goesFar_74 : decode b_D_goesFar 74 = .ok (.iload_n 0, 1) := by decide +kernel
theorem d_D_goesFar_75 : decode b_D_goesFar 75 = .ok (.ireturn, 1) := by decide +kernel
theorem d_D_goesFar_76 : decode b_D_goesFar 76 = .ok (.iconst 0, 1) := by decide +kernel
theorem d_D_goesFar_77 : decode b_D_goesFar 77 = .ok (.ireturn, 1) := by decide +kernel
theorem d_D_stopsShort_0 : decode b_D_stopsShort 0 = .ok (.iload_n 1, 1) := by decide +kernel
theorem d_D_stopsShort_1 : decode b_D_stopsShort 1 = .ok (.iconst 2, 1) := by decide +kernel
theorem d_D_stopsShort_2 : decode b_D_stopsShort 2 = .ok (.if_icmp .eq 21, 3) := by decide +kernel
theorem d_D_stopsShort_5 : decode b_D_stopsShort 5 = .ok (.iload_n 1, 1) := by decide +kernel
theorem d_D_stopsShort_6 : decode b_D_stopsShort 6 = .ok (.iconst 3, 1) := by decide +kernel
theorem d_D_stopsShort_7 : decode b_D_stopsShort 7 = .ok (.if_icmp .ne 7, 3) := by decide +kernel
theorem d_D_stopsShort_10 : decode b_D_stopsShort 10 = .ok (.iload_n 0, 1) := by decide +kernel
theorem d_D_stopsShort_11 : decode b_D_stopsShort 11 = .ok (.ifCond .ne 12, 3) := by decide +kernel
theorem d_D_stopsShort_14 : decode b_D_stopsShort 14 = .ok (.iload_n 1, 1) := by decide +kernel
theorem d_D_stopsShort_15 : decode b_D_stopsShort 15 = .ok (.iconst 4, 1) := by decide +kernel
theorem d_D_stopsShort_16 : decode b_D_stopsShort 16 = .ok (.if_icmp .ne 11, 3) := by decide +kernel
theorem d_D_stopsShort_19 : decode b_D_stopsShort 19 = .ok (.iload_n 0, 1) := by decide +kernel
theorem d_D_stopsShort_20 : decode b_D_stopsShort 20 = .ok (.ifCond .ne 7, 3) := by decide +kernel
theorem d_D_stopsShort_23 : decode b_D_stopsShort 23 = .ok (.iconst 1, 1) := by decide +kernel
theorem d_D_stopsShort_24 : decode b_D_stopsShort 24 = .ok (.goto 4, 3) := by decide +kernel
theorem d_D_stopsShort_27 : decode b_D_stopsShort 27 = .ok (.iconst 0, 1) := by decide +kernel
theorem d_D_stopsShort_28 : decode b_D_stopsShort 28 = .ok (.ireturn, 1) := by decide +kernel
theorem d_D_draw_0 : decode b_D_draw 0 = .ok (.aload_n 0, 1) := by decide +kernel
theorem d_D_draw_1 : decode b_D_draw 1 = .ok (.aload_n 0, 1) := by decide +kernel
theorem d_D_draw_2 : decode b_D_draw 2 = .ok (.getfield 15, 3) := by decide +kernel
theorem d_D_draw_5 : decode b_D_draw 5 = .ok (.ldc2_w 135, 3) := by decide +kernel
theorem d_D_draw_8 : decode b_D_draw 8 = .ok (.lmul, 1) := by decide +kernel
theorem d_D_draw_9 : decode b_D_draw 9 = .ok (.ldc2_w 137, 3) := by decide +kernel
theorem d_D_draw_12 : decode b_D_draw 12 = .ok (.lrem, 1) := by decide +kernel
theorem d_D_draw_13 : decode b_D_draw 13 = .ok (.putfield 15, 3) := by decide +kernel
theorem d_D_draw_16 : decode b_D_draw 16 = .ok (.aload_n 0, 1) := by decide +kernel
theorem d_D_draw_17 : decode b_D_draw 17 = .ok (.getfield 15, 3) := by decide +kernel
theorem d_D_draw_20 : decode b_D_draw 20 = .ok (.iconst 4, 1) := by decide +kernel
theorem d_D_draw_21 : decode b_D_draw 21 = .ok (.lshr, 1) := by decide +kernel
theorem d_D_draw_22 : decode b_D_draw 22 = .ok (.ldc2_w 139, 3) := by decide +kernel
theorem d_D_draw_25 : decode b_D_draw 25 = .ok (.land, 1) := by decide +kernel
theorem d_D_draw_26 : decode b_D_draw 26 = .ok (.lreturn, 1) := by decide +kernel
theorem d_E_init_0 : decode b_E_init 0 = .ok (.aload_n 0, 1) := by decide +kernel
theorem d_E_init_1 : decode b_E_init 1 = .ok (.invokespecial 3, 3) := by decide +kernel
theorem d_E_init_4 : decode b_E_init 4 = .ok (.aload_n 0, 1) := by decide +kernel
theorem d_E_init_5 : decode b_E_init 5 = .ok (.bipush 20, 2) := by decide +kernel
theorem d_E_init_7 : decode b_E_init 7 = .ok (.newarray .long, 2) := by decide +kernel
theorem d_E_init_9 : decode b_E_init 9 = .ok (.putfield 11, 3) := by decide +kernel
theorem d_E_init_12 : decode b_E_init 12 = .ok (.return_, 1) := by decide +kernel
theorem d_E_begin_0 : decode b_E_begin 0 = .ok (.aload_n 0, 1) := by decide +kernel
theorem d_E_begin_1 : decode b_E_begin 1 = .ok (.iconst 0, 1) := by decide +kernel
theorem d_E_begin_2 : decode b_E_begin 2 = .ok (.putfield 15, 3) := by decide +kernel
theorem d_E_begin_5 : decode b_E_begin 5 = .ok (.aload_n 0, 1) := by decide +kernel
theorem d_E_begin_6 : decode b_E_begin 6 = .ok (.iconst 0, 1) := by decide +kernel
theorem d_E_begin_7 : decode b_E_begin 7 = .ok (.putfield 19, 3) := by decide +kernel
theorem d_E_begin_10 : decode b_E_begin 10 = .ok (.aload_n 0, 1) := by decide +kernel
theorem d_E_begin_11 : decode b_E_begin 11 = .ok (.iconst 0, 1) := by decide +kernel
theorem d_E_begin_12 : decode b_E_begin 12 = .ok (.putfield 22, 3) := by decide +kernel
theorem d_E_begin_15 : decode b_E_begin 15 = .ok (.aload_n 0, 1) := by decide +kernel
theorem d_E_begin_16 : decode b_E_begin 16 = .ok (.iconst 0, 1) := by decide +kernel
theorem d_E_begin_17 : decode b_E_begin 17 = .ok (.putfield 25, 3) := by decide +kernel
theorem d_E_begin_20 : decode b_E_begin 20 = .ok (.aload_n 0, 1) := by decide +kernel
theorem d_E_begin_21 : decode b_E_begin 21 = .ok (.iconst 0, 1) := by decide +kernel
theorem d_E_begin_22 : decode b_E_begin 22 = .ok (.putfield 28, 3) := by decide +kernel
theorem d_E_begin_25 : decode b_E_begin 25 = .ok (.aload_n 0, 1) := by decide +kernel
theorem d_E_begin_26 : decode b_E_begin 26 = .ok (.iconst 0, 1) := by decide +kernel
theorem d_E_begin_27 : decode b_E_begin 27 = .ok (.putfield 31, 3) := by decide +kernel
theorem d_E_begin_30 : decode b_E_begin 30 = .ok (.aload_n 0, 1) := by decide +kernel
theorem d_E_begin_31 : decode b_E_begin 31 = .ok (.iconst 0, 1) := by decide +kernel
theorem d_E_begin_32 : decode b_E_begin 32 = .ok (.putfield 34, 3) := by decide +kernel
theorem d_E_begin_35 : decode b_E_begin 35 = .ok (.aload_n 0, 1) := by decide +kernel
theorem d_E_begin_36 : decode b_E_begin 36 = .ok (.iconst 0, 1) := by decide +kernel
theorem d_E_begin_37 : decode b_E_begin 37 = .ok (.putfield 38, 3) := by decide +kernel
theorem d_E_begin_40 : decode b_E_begin 40 = .ok (.aload_n 0, 1) := by decide +kernel
theorem d_E_begin_41 : decode b_E_begin 41 = .ok (.lconst 0, 1) := by decide +kernel
theorem d_E_begin_42 : decode b_E_begin 42 = .ok (.putfield 41, 3) := by decide +kernel
theorem d_E_begin_45 : decode b_E_begin 45 = .ok (.aload_n 0, 1) := by decide +kernel
theorem d_E_begin_46 : decode b_E_begin 46 = .ok (.iconst 0, 1) := by decide +kernel
theorem d_E_begin_47 : decode b_E_begin 47 = .ok (.putfield 45, 3) := by decide +kernel
theorem d_E_begin_50 : decode b_E_begin 50 = .ok (.aload_n 0, 1) := by decide +kernel
theorem d_E_begin_51 : decode b_E_begin 51 = .ok (.iconst 0, 1) := by decide +kernel
theorem d_E_begin_52 : decode b_E_begin 52 = .ok (.putfield 48, 3) := by decide +kernel
theorem d_E_begin_55 : decode b_E_begin 55 = .ok (.return_, 1) := by decide +kernel
theorem d_E_addValue_0 : decode b_E_addValue 0 = .ok (.aload_n 1, 1) := by decide +kernel
theorem d_E_addValue_1 : decode b_E_addValue 1 = .ok (.iload_n 2, 1) := by decide +kernel
theorem d_E_addValue_2 : decode b_E_addValue 2 = .ok (.invokevirtual 51, 3) := by decide +kernel
theorem d_E_addValue_5 : decode b_E_addValue 5 = .ok (.istore 4, 2) := by decide +kernel
theorem d_E_addValue_7 : decode b_E_addValue 7 = .ok (.aload_n 1, 1) := by decide +kernel
theorem d_E_addValue_8 : decode b_E_addValue 8 = .ok (.iload_n 2, 1) := by decide +kernel
theorem d_E_addValue_9 : decode b_E_addValue 9 = .ok (.invokevirtual 57, 3) := by decide +kernel
theorem d_E_addValue_12 : decode b_E_addValue 12 = .ok (.iload_n 3, 1) := by decide +kernel
theorem d_E_addValue_13 : decode b_E_addValue 13 = .ok (.if_icmp .eq 7, 3) := by decide +kernel
theorem d_E_addValue_16 : decode b_E_addValue 16 = .ok (.iconst 1, 1) := by decide +kernel
theorem d_E_addValue_17 : decode b_E_addValue 17 = .ok (.goto 4, 3) := by decide +kernel
theorem d_E_addValue_20 : decode b_E_addValue 20 = .ok (.iconst 0, 1) := by decide +kernel
theorem d_E_addValue_21 : decode b_E_addValue 21 = .ok (.istore 5, 2) := by decide +kernel
theorem d_E_addValue_23 : decode b_E_addValue 23 = .ok (.iload 4, 2) := by decide +kernel
theorem d_E_addValue_25 : decode b_E_addValue 25 = .ok (.iconst 4, 1) := by decide +kernel
theorem d_E_addValue_26 : decode b_E_addValue 26 = .ok (.if_icmp .ne 11, 3) := by decide +kernel
theorem d_E_addValue_29 : decode b_E_addValue 29 = .ok (.aload_n 0, 1) := by decide +kernel
theorem d_E_addValue_30 : decode b_E_addValue 30 = .ok (.iconst 1, 1) := by decide +kernel
theorem d_E_addValue_31 : decode b_E_addValue 31 = .ok (.putfield 15, 3) := by decide +kernel
theorem d_E_addValue_34 : decode b_E_addValue 34 = .ok (.goto 34, 3) := by decide +kernel
theorem d_E_addValue_37 : decode b_E_addValue 37 = .ok (.iload 4, 2) := by decide +kernel
theorem d_E_addValue_39 : decode b_E_addValue 39 = .ok (.iconst 3, 1) := by decide +kernel
theorem d_E_addValue_40 : decode b_E_addValue 40 = .ok (.if_icmp .ne 12, 3) := by decide +kernel
theorem d_E_addValue_43 : decode b_E_addValue 43 = .ok (.aload_n 0, 1) := by decide +kernel
theorem d_E_addValue_44 : decode b_E_addValue 44 = .ok (.iload 5, 2) := by decide +kernel
theorem d_E_addValue_46 : decode b_E_addValue 46 = .ok (.invokevirtual 61, 3) := by decide +kernel
theorem d_E_addValue_49 : decode b_E_addValue 49 = .ok (.goto 19, 3) := by decide +kernel
theorem d_E_addValue_52 : decode b_E_addValue 52 = .ok (.aload_n 0, 1) := by decide +kernel
theorem d_E_addValue_53 : decode b_E_addValue 53 = .ok (.iload 5, 2) := by decide +kernel
theorem d_E_addValue_55 : decode b_E_addValue 55 = .ok (.aload_n 1, 1) := by decide +kernel
theorem d_E_addValue_56 : decode b_E_addValue 56 = .ok (.iload_n 2, 1) := by decide +kernel
theorem d_E_addValue_57 : decode b_E_addValue 57 = .ok (.invokevirtual 65, 3) := by decide +kernel
theorem d_E_addValue_60 : decode b_E_addValue 60 = .ok (.aload_n 1, 1) := by decide +kernel
theorem d_E_addValue_61 : decode b_E_addValue 61 = .ok (.iload_n 2, 1) := by decide +kernel
theorem d_E_addValue_62 : decode b_E_addValue 62 = .ok (.invokevirtual 69, 3) := by decide +kernel
theorem d_E_addValue_65 : decode b_E_addValue 65 = .ok (.invokevirtual 72, 3) := by decide +kernel
theorem d_E_addValue_68 : decode b_E_addValue 68 = .ok (.return_, 1) := by decide +kernel
theorem d_E_addProduct_0 : decode b_E_addProduct 0 = .ok (.aload_n 1, 1) := by decide +kernel
theorem d_E_addProduct_1 : decode b_E_addProduct 1 = .ok (.iload_n 2, 1) := by decide +kernel
theorem d_E_addProduct_2 : decode b_E_addProduct 2 = .ok (.invokevirtual 51, 3) := by decide +kernel
theorem d_E_addProduct_5 : decode b_E_addProduct 5 = .ok (.istore 5, 2) := by decide +kernel
theorem d_E_addProduct_7 : decode b_E_addProduct 7 = .ok (.aload_n 3, 1) := by decide +kernel
theorem d_E_addProduct_8 : decode b_E_addProduct 8 = .ok (.iload 4, 2) := by decide +kernel
theorem d_E_addProduct_10 : decode b_E_addProduct 10 = .ok (.invokevirtual 51, 3) := by decide +kernel
theorem d_E_addProduct_13 : decode b_E_addProduct 13 = .ok (.istore 6, 2) := by decide +kernel
theorem d_E_addProduct_15 : decode b_E_addProduct 15 = .ok (.aload_n 1, 1) := by decide +kernel
theorem d_E_addProduct_16 : decode b_E_addProduct 16 = .ok (.iload_n 2, 1) := by decide +kernel
theorem d_E_addProduct_17 : decode b_E_addProduct 17 = .ok (.invokevirtual 57, 3) := by decide +kernel
theorem d_E_addProduct_20 : decode b_E_addProduct 20 = .ok (.aload_n 3, 1) := by decide +kernel
theorem d_E_addProduct_21 : decode b_E_addProduct 21 = .ok (.iload 4, 2) := by decide +kernel
theorem d_E_addProduct_23 : decode b_E_addProduct 23 = .ok (.invokevirtual 57, 3) := by decide +kernel
theorem d_E_addProduct_26 : decode b_E_addProduct 26 = .ok (.if_icmp .eq 7, 3) := by decide +kernel
theorem d_E_addProduct_29 : decode b_E_addProduct 29 = .ok (.iconst 1, 1) := by decide +kernel
theorem d_E_addProduct_30 : decode b_E_addProduct 30 = .ok (.goto 4, 3) := by decide +kernel
theorem d_E_addProduct_33 : decode b_E_addProduct 33 = .ok (.iconst 0, 1) := by decide +kernel
theorem d_E_addProduct_34 : decode b_E_addProduct 34 = .ok (.istore 7, 2) := by decide +kernel
theorem d_E_addProduct_36 : decode b_E_addProduct 36 = .ok (.iload 5, 2) := by decide +kernel
theorem d_E_addProduct_38 : decode b_E_addProduct 38 = .ok (.iconst 4, 1) := by decide +kernel
theorem d_E_addProduct_39 : decode b_E_addProduct 39 = .ok (.if_icmp .eq 9, 3) := by decide +kernel
theorem d_E_addProduct_42 : decode b_E_addProduct 42 = .ok (.iload 6, 2) := by decide +kernel
theorem d_E_addProduct_44 : decode b_E_addProduct 44 = .ok (.iconst 4, 1) := by decide +kernel
theorem d_E_addProduct_45 : decode b_E_addProduct 45 = .ok (.if_icmp .ne 11, 3) := by decide +kernel
theorem d_E_addProduct_48 : decode b_E_addProduct 48 = .ok (.aload_n 0, 1) := by decide +kernel
theorem d_E_addProduct_49 : decode b_E_addProduct 49 = .ok (.iconst 1, 1) := by decide +kernel
theorem d_E_addProduct_50 : decode b_E_addProduct 50 = .ok (.putfield 15, 3) := by decide +kernel
theorem d_E_addProduct_53 : decode b_E_addProduct 53 = .ok (.goto 72, 3) := by decide +kernel
theorem d_E_addProduct_56 : decode b_E_addProduct 56 = .ok (.iload 5, 2) := by decide +kernel
theorem d_E_addProduct_58 : decode b_E_addProduct 58 = .ok (.iconst 3, 1) := by decide +kernel
theorem d_E_addProduct_59 : decode b_E_addProduct 59 = .ok (.if_icmp .eq 42, 3) := by decide +kernel
theorem d_E_addProduct_62 : decode b_E_addProduct 62 = .ok (.iload 6, 2) := by decide +kernel
theorem d_E_addProduct_64 : decode b_E_addProduct 64 = .ok (.iconst 3, 1) := by decide +kernel
theorem d_E_addProduct_65 : decode b_E_addProduct 65 = .ok (.if_icmp .eq 36, 3) := by decide +kernel
theorem d_E_addProduct_68 : decode b_E_addProduct 68 = .ok (.aload_n 0, 1) := by decide +kernel
theorem d_E_addProduct_69 : decode b_E_addProduct 69 = .ok (.iload 7, 2) := by decide +kernel
theorem d_E_addProduct_71 : decode b_E_addProduct 71 = .ok (.aload_n 1, 1) := by decide +kernel
theorem d_E_addProduct_72 : decode b_E_addProduct 72 = .ok (.iload_n 2, 1) := by decide +kernel
theorem d_E_addProduct_73 : decode b_E_addProduct 73 = .ok (.invokevirtual 65, 3) := by decide +kernel
theorem d_E_addProduct_76 : decode b_E_addProduct 76 = .ok (.aload_n 3, 1) := by decide +kernel
theorem d_E_addProduct_77 : decode b_E_addProduct 77 = .ok (.iload 4, 2) := by decide +kernel
theorem d_E_addProduct_79 : decode b_E_addProduct 79 = .ok (.invokevirtual 65, 3) := by decide +kernel
theorem d_E_addProduct_82 : decode b_E_addProduct 82 = .ok (.lmul, 1) := by decide +kernel
theorem d_E_addProduct_83 : decode b_E_addProduct 83 = .ok (.aload_n 1, 1) := by decide +kernel
theorem d_E_addProduct_84 : decode b_E_addProduct 84 = .ok (.iload_n 2, 1) := by decide +kernel
theorem d_E_addProduct_85 : decode b_E_addProduct 85 = .ok (.invokevirtual 69, 3) := by decide +kernel
theorem d_E_addProduct_88 : decode b_E_addProduct 88 = .ok (.aload_n 3, 1) := by decide +kernel
theorem d_E_addProduct_89 : decode b_E_addProduct 89 = .ok (.iload 4, 2) := by decide +kernel
theorem d_E_addProduct_91 : decode b_E_addProduct 91 = .ok (.invokevirtual 69, 3) := by decide +kernel
theorem d_E_addProduct_94 : decode b_E_addProduct 94 = .ok (.iadd, 1) := by decide +kernel
theorem d_E_addProduct_95 : decode b_E_addProduct 95 = .ok (.invokevirtual 72, 3) := by decide +kernel
theorem d_E_addProduct_98 : decode b_E_addProduct 98 = .ok (.goto 27, 3) := by decide +kernel
theorem d_E_addProduct_101 : decode b_E_addProduct 101 = .ok (.iload 5, 2) := by decide +kernel
theorem d_E_addProduct_103 : decode b_E_addProduct 103 = .ok (.ifCond .eq 8, 3) := by decide +kernel
theorem d_E_addProduct_106 : decode b_E_addProduct 106 = .ok (.iload 6, 2) := by decide +kernel
theorem d_E_addProduct_108 : decode b_E_addProduct 108 = .ok (.ifCond .ne 11, 3) := by decide +kernel
theorem d_E_addProduct_111 : decode b_E_addProduct 111 = .ok (.aload_n 0, 1) := by decide +kernel
theorem d_E_addProduct_112 : decode b_E_addProduct 112 = .ok (.iconst 1, 1) := by decide +kernel
theorem d_E_addProduct_113 : decode b_E_addProduct 113 = .ok (.putfield 19, 3) := by decide +kernel
theorem d_E_addProduct_116 : decode b_E_addProduct 116 = .ok (.goto 9, 3) := by decide +kernel
theorem d_E_addProduct_119 : decode b_E_addProduct 119 = .ok (.aload_n 0, 1) := by decide +kernel
theorem d_E_addProduct_120 : decode b_E_addProduct 120 = .ok (.iload 7, 2) := by decide +kernel
theorem d_E_addProduct_122 : decode b_E_addProduct 122 = .ok (.invokevirtual 61, 3) := by decide +kernel
theorem d_E_addProduct_125 : decode b_E_addProduct 125 = .ok (.return_, 1) := by decide +kernel
theorem d_E_noteInfinite_0 : decode b_E_noteInfinite 0 = .ok (.iload_n 1, 1) := by decide +kernel
theorem d_E_noteInfinite_1 : decode b_E_noteInfinite 1 = .ok (.ifCond .eq 11, 3) := by decide +kernel
theorem d_E_noteInfinite_4 : decode b_E_noteInfinite 4 = .ok (.aload_n 0, 1) := by decide +kernel
theorem d_E_noteInfinite_5 : decode b_E_noteInfinite 5 = .ok (.iconst 1, 1) := by decide +kernel
theorem d_E_noteInfinite_6 : decode b_E_noteInfinite 6 = .ok (.putfield 25, 3) := by decide +kernel
theorem d_E_noteInfinite_9 : decode b_E_noteInfinite 9 = .ok (.goto 8, 3) := by decide +kernel
theorem d_E_noteInfinite_12 : decode b_E_noteInfinite 12 = .ok (.aload_n 0, 1) := by decide +kernel
theorem d_E_noteInfinite_13 : decode b_E_noteInfinite 13 = .ok (.iconst 1, 1) := by decide +kernel
theorem d_E_noteInfinite_14 : decode b_E_noteInfinite 14 = .ok (.putfield 22, 3) := by decide +kernel
theorem d_E_noteInfinite_17 : decode b_E_noteInfinite 17 = .ok (.return_, 1) := by decide +kernel
theorem d_E_addFinite_0 : decode b_E_addFinite 0 = .ok (.iload_n 1, 1) := by decide +kernel
theorem d_E_addFinite_1 : decode b_E_addFinite 1 = .ok (.ifCond .eq 11, 3) := by decide +kernel
theorem d_E_addFinite_4 : decode b_E_addFinite 4 = .ok (.aload_n 0, 1) := by decide +kernel
theorem d_E_addFinite_5 : decode b_E_addFinite 5 = .ok (.iconst 1, 1) := by decide +kernel
theorem d_E_addFinite_6 : decode b_E_addFinite 6 = .ok (.putfield 31, 3) := by decide +kernel
theorem d_E_addFinite_9 : decode b_E_addFinite 9 = .ok (.goto 8, 3) := by decide +kernel
theorem d_E_addFinite_12 : decode b_E_addFinite 12 = .ok (.aload_n 0, 1) := by decide +kernel
theorem d_E_addFinite_13 : decode b_E_addFinite 13 = .ok (.iconst 1, 1) := by decide +kernel
theorem d_E_addFinite_14 : decode b_E_addFinite 14 = .ok (.putfield 28, 3) := by decide +kernel
theorem d_E_addFinite_17 : decode b_E_addFinite 17 = .ok (.lload_n 2, 1) := by decide +kernel
theorem d_E_addFinite_18 : decode b_E_addFinite 18 = .ok (.lconst 0, 1) := by decide +kernel
theorem d_E_addFinite_19 : decode b_E_addFinite 19 = .ok (.lcmp, 1) := by decide +kernel
theorem d_E_addFinite_20 : decode b_E_addFinite 20 = .ok (.ifCond .ne 4, 3) := by decide +kernel
theorem d_E_addFinite_23 : decode b_E_addFinite 23 = .ok (.return_, 1) := by decide +kernel
theorem d_E_addFinite_24 : decode b_E_addFinite 24 = .ok (.aload_n 0, 1) := by decide +kernel
theorem d_E_addFinite_25 : decode b_E_addFinite 25 = .ok (.dup, 1) := by decide +kernel
theorem d_E_addFinite_26 : decode b_E_addFinite 26 = .ok (.getfield 34, 3) := by decide +kernel
theorem d_E_addFinite_29 : decode b_E_addFinite 29 = .ok (.iconst 1, 1) := by decide +kernel
theorem d_E_addFinite_30 : decode b_E_addFinite 30 = .ok (.iadd, 1) := by decide +kernel
theorem d_E_addFinite_31 : decode b_E_addFinite 31 = .ok (.putfield 34, 3) := by decide +kernel
theorem d_E_addFinite_34 : decode b_E_addFinite 34 = .ok (.aload_n 0, 1) := by decide +kernel
theorem d_E_addFinite_35 : decode b_E_addFinite 35 = .ok (.getfield 34, 3) := by decide +kernel
theorem d_E_addFinite_38 : decode b_E_addFinite 38 = .ok (.iconst 1, 1) := by decide +kernel
theorem d_E_addFinite_39 : decode b_E_addFinite 39 = .ok (.if_icmp .ne 20, 3) := by decide +kernel
theorem d_E_addFinite_42 : decode b_E_addFinite 42 = .ok (.aload_n 0, 1) := by decide +kernel
theorem d_E_addFinite_43 : decode b_E_addFinite 43 = .ok (.iload_n 1, 1) := by decide +kernel
theorem d_E_addFinite_44 : decode b_E_addFinite 44 = .ok (.putfield 38, 3) := by decide +kernel
theorem d_E_addFinite_47 : decode b_E_addFinite 47 = .ok (.aload_n 0, 1) := by decide +kernel
theorem d_E_addFinite_48 : decode b_E_addFinite 48 = .ok (.lload_n 2, 1) := by decide +kernel
theorem d_E_addFinite_49 : decode b_E_addFinite 49 = .ok (.putfield 41, 3) := by decide +kernel
theorem d_E_addFinite_52 : decode b_E_addFinite 52 = .ok (.aload_n 0, 1) := by decide +kernel
theorem d_E_addFinite_53 : decode b_E_addFinite 53 = .ok (.iload 4, 2) := by decide +kernel
theorem d_E_addFinite_55 : decode b_E_addFinite 55 = .ok (.putfield 45, 3) := by decide +kernel
theorem d_E_addFinite_58 : decode b_E_addFinite 58 = .ok (.return_, 1) := by decide +kernel
theorem d_E_addFinite_59 : decode b_E_addFinite 59 = .ok (.aload_n 0, 1) := by decide +kernel
theorem d_E_addFinite_60 : decode b_E_addFinite 60 = .ok (.getfield 34, 3) := by decide +kernel
theorem d_E_addFinite_63 : decode b_E_addFinite 63 = .ok (.iconst 2, 1) := by decide +kernel
theorem d_E_addFinite_64 : decode b_E_addFinite 64 = .ok (.if_icmp .ne 27, 3) := by decide +kernel
theorem d_E_addFinite_67 : decode b_E_addFinite 67 = .ok (.aload_n 0, 1) := by decide +kernel
theorem d_E_addFinite_68 : decode b_E_addFinite 68 = .ok (.getfield 11, 3) := by decide +kernel
theorem d_E_addFinite_71 : decode b_E_addFinite 71 = .ok (.lconst 0, 1) := by decide +kernel
theorem d_E_addFinite_72 : decode b_E_addFinite 72 = .ok (.invokestatic 76, 3) := by decide +kernel
theorem d_E_addFinite_75 : decode b_E_addFinite 75 = .ok (.aload_n 0, 1) := by decide +kernel
theorem d_E_addFinite_76 : decode b_E_addFinite 76 = .ok (.aload_n 0, 1) := by decide +kernel
theorem d_E_addFinite_77 : decode b_E_addFinite 77 = .ok (.getfield 38, 3) := by decide +kernel
theorem d_E_addFinite_80 : decode b_E_addFinite 80 = .ok (.aload_n 0, 1) := by decide +kernel
theorem d_E_addFinite_81 : decode b_E_addFinite 81 = .ok (.getfield 41, 3) := by decide +kernel
theorem d_E_addFinite_84 : decode b_E_addFinite 84 = .ok (.aload_n 0, 1) := by decide +kernel
theorem d_E_addFinite_85 : decode b_E_addFinite 85 = .ok (.getfield 45, 3) := by decide +kernel
theorem d_E_addFinite_88 : decode b_E_addFinite 88 = .ok (.invokevirtual 82, 3) := by decide +kernel
theorem d_E_addFinite_91 : decode b_E_addFinite 91 = .ok (.aload_n 0, 1) := by decide +kernel
theorem d_E_addFinite_92 : decode b_E_addFinite 92 = .ok (.iload_n 1, 1) := by decide +kernel
theorem d_E_addFinite_93 : decode b_E_addFinite 93 = .ok (.lload_n 2, 1) := by decide +kernel
theorem d_E_addFinite_94 : decode b_E_addFinite 94 = .ok (.iload 4, 2) := by decide +kernel
theorem d_E_addFinite_96 : decode b_E_addFinite 96 = .ok (.invokevirtual 82, 3) := by decide +kernel
theorem d_E_addFinite_99 : decode b_E_addFinite 99 = .ok (.return_, 1) := by decide +kernel
theorem d_E_spread_0 : decode b_E_spread 0 = .ok (.iload 4, 2) := by decide +kernel
theorem d_E_spread_2 : decode b_E_spread 2 = .ok (.sipush (-320), 3) := by decide +kernel
theorem d_E_spread_5 : decode b_E_spread 5 = .ok (.isub, 1) := by decide +kernel
theorem d_E_spread_6 : decode b_E_spread 6 = .ok (.istore 5, 2) := by decide +kernel
theorem d_E_spread_8 : decode b_E_spread 8 = .ok (.iload 5, 2) := by decide +kernel
theorem d_E_spread_10 : decode b_E_spread 10 = .ok (.iconst 5, 1) := by decide +kernel
theorem d_E_spread_11 : decode b_E_spread 11 = .ok (.ishr, 1) := by decide +kernel
theorem d_E_spread_12 : decode b_E_spread 12 = .ok (.istore 6, 2) := by decide +kernel
theorem d_E_spread_14 : decode b_E_spread 14 = .ok (.iload 6, 2) := by decide +kernel
theorem d_E_spread_16 : decode b_E_spread 16 = .ok (.ifCond .lt 12, 3) := by decide +kernel
theorem d_E_spread_19 : decode b_E_spread 19 = .ok (.iload 6, 2) := by decide +kernel
theorem d_E_spread_21 : decode b_E_spread 21 = .ok (.iconst 2, 1) := by decide +kernel
theorem d_E_spread_22 : decode b_E_spread 22 = .ok (.iadd, 1) := by decide +kernel
theorem d_E_spread_23 : decode b_E_spread 23 = .ok (.bipush 20, 2) := by decide +kernel
theorem d_E_spread_25 : decode b_E_spread 25 = .ok (.if_icmp .lt 4, 3) := by decide +kernel
theorem d_E_spread_28 : decode b_E_spread 28 = .ok (.return_, 1) := by decide +kernel
theorem d_E_spread_29 : decode b_E_spread 29 = .ok (.iload 5, 2) := by decide +kernel
theorem d_E_spread_31 : decode b_E_spread 31 = .ok (.bipush 31, 2) := by decide +kernel
theorem d_E_spread_33 : decode b_E_spread 33 = .ok (.iand, 1) := by decide +kernel
theorem d_E_spread_34 : decode b_E_spread 34 = .ok (.istore 7, 2) := by decide +kernel
theorem d_E_spread_36 : decode b_E_spread 36 = .ok (.lload_n 2, 1) := by decide +kernel
theorem d_E_spread_37 : decode b_E_spread 37 = .ok (.ldc2_w 85, 3) := by decide +kernel
theorem d_E_spread_40 : decode b_E_spread 40 = .ok (.land, 1) := by decide +kernel
theorem d_E_spread_41 : decode b_E_spread 41 = .ok (.iload 7, 2) := by decide +kernel
theorem d_E_spread_43 : decode b_E_spread 43 = .ok (.lshl, 1) := by decide +kernel
theorem d_E_spread_44 : decode b_E_spread 44 = .ok (.lstore 8, 2) := by decide +kernel
theorem d_E_spread_46 : decode b_E_spread 46 = .ok (.lload_n 2, 1) := by decide +kernel
theorem d_E_spread_47 : decode b_E_spread 47 = .ok (.bipush 32, 2) := by decide +kernel
theorem d_E_spread_49 : decode b_E_spread 49 = .ok (.lushr, 1) := by decide +kernel
theorem d_E_spread_50 : decode b_E_spread 50 = .ok (.iload 7, 2) := by decide +kernel
theorem d_E_spread_52 : decode b_E_spread 52 = .ok (.lshl, 1) := by decide +kernel
theorem d_E_spread_53 : decode b_E_spread 53 = .ok (.lload 8, 2) := by decide +kernel
theorem d_E_spread_55 : decode b_E_spread 55 = .ok (.bipush 32, 2) := by decide +kernel
theorem d_E_spread_57 : decode b_E_spread 57 = .ok (.lushr, 1) := by decide +kernel
theorem d_E_spread_58 : decode b_E_spread 58 = .ok (.ladd, 1) := by decide +kernel
theorem d_E_spread_59 : decode b_E_spread 59 = .ok (.lstore 10, 2) := by decide +kernel
theorem d_E_spread_61 : decode b_E_spread 61 = .ok (.iload_n 1, 1) := by decide +kernel
theorem d_E_spread_62 : decode b_E_spread 62 = .ok (.ifCond .eq 9, 3) := by decide +kernel
theorem d_E_spread_65 : decode b_E_spread 65 = .ok (.ldc2_w 87, 3) := by decide +kernel
theorem d_E_spread_68 : decode b_E_spread 68 = .ok (.goto 4, 3) := by decide +kernel
theorem d_E_spread_71 : decode b_E_spread 71 = .ok (.lconst 1, 1) := by decide +kernel
theorem d_E_spread_72 : decode b_E_spread 72 = .ok (.lstore 12, 2) := by decide +kernel
theorem d_E_spread_74 : decode b_E_spread 74 = .ok (.aload_n 0, 1) := by decide +kernel
theorem d_E_spread_75 : decode b_E_spread 75 = .ok (.getfield 11, 3) := by decide +kernel
theorem d_E_spread_78 : decode b_E_spread 78 = .ok (.iload 6, 2) := by decide +kernel
theorem d_E_spread_80 : decode b_E_spread 80 = .ok (.dup2, 1) := by decide +kernel
theorem d_E_spread_81 : decode b_E_spread 81 = .ok (.laload, 1) := by decide +kernel
theorem d_E_spread_82 : decode b_E_spread 82 = .ok (.lload 12, 2) := by decide +kernel
theorem d_E_spread_84 : decode b_E_spread 84 = .ok (.lload 8, 2) := by decide +kernel
theorem d_E_spread_86 : decode b_E_spread 86 = .ok (.ldc2_w 85, 3) := by decide +kernel
theorem d_E_spread_89 : decode b_E_spread 89 = .ok (.land, 1) := by decide +kernel
theorem d_E_spread_90 : decode b_E_spread 90 = .ok (.lmul, 1) := by decide +kernel
theorem d_E_spread_91 : decode b_E_spread 91 = .ok (.ladd, 1) := by decide +kernel
theorem d_E_spread_92 : decode b_E_spread 92 = .ok (.lastore, 1) := by decide +kernel
theorem d_E_spread_93 : decode b_E_spread 93 = .ok (.aload_n 0, 1) := by decide +kernel
theorem d_E_spread_94 : decode b_E_spread 94 = .ok (.getfield 11, 3) := by decide +kernel
theorem d_E_spread_97 : decode b_E_spread 97 = .ok (.iload 6, 2) := by decide +kernel
theorem d_E_spread_99 : decode b_E_spread 99 = .ok (.iconst 1, 1) := by decide +kernel
theorem d_E_spread_100 : decode b_E_spread 100 = .ok (.iadd, 1) := by decide +kernel
theorem d_E_spread_101 : decode b_E_spread 101 = .ok (.dup2, 1) := by decide +kernel
theorem d_E_spread_102 : decode b_E_spread 102 = .ok (.laload, 1) := by decide +kernel
theorem d_E_spread_103 : decode b_E_spread 103 = .ok (.lload 12, 2) := by decide +kernel
theorem d_E_spread_105 : decode b_E_spread 105 = .ok (.lload 10, 2) := by decide +kernel
theorem d_E_spread_107 : decode b_E_spread 107 = .ok (.ldc2_w 85, 3) := by decide +kernel
theorem d_E_spread_110 : decode b_E_spread 110 = .ok (.land, 1) := by decide +kernel
theorem d_E_spread_111 : decode b_E_spread 111 = .ok (.lmul, 1) := by decide +kernel
theorem d_E_spread_112 : decode b_E_spread 112 = .ok (.ladd, 1) := by decide +kernel
theorem d_E_spread_113 : decode b_E_spread 113 = .ok (.lastore, 1) := by decide +kernel
theorem d_E_spread_114 : decode b_E_spread 114 = .ok (.aload_n 0, 1) := by decide +kernel
theorem d_E_spread_115 : decode b_E_spread 115 = .ok (.getfield 11, 3) := by decide +kernel
theorem d_E_spread_118 : decode b_E_spread 118 = .ok (.iload 6, 2) := by decide +kernel
theorem d_E_spread_120 : decode b_E_spread 120 = .ok (.iconst 2, 1) := by decide +kernel
theorem d_E_spread_121 : decode b_E_spread 121 = .ok (.iadd, 1) := by decide +kernel
theorem d_E_spread_122 : decode b_E_spread 122 = .ok (.dup2, 1) := by decide +kernel
theorem d_E_spread_123 : decode b_E_spread 123 = .ok (.laload, 1) := by decide +kernel
theorem d_E_spread_124 : decode b_E_spread 124 = .ok (.lload 12, 2) := by decide +kernel
theorem d_E_spread_126 : decode b_E_spread 126 = .ok (.lload 10, 2) := by decide +kernel
theorem d_E_spread_128 : decode b_E_spread 128 = .ok (.bipush 32, 2) := by decide +kernel
theorem d_E_spread_130 : decode b_E_spread 130 = .ok (.lushr, 1) := by decide +kernel
theorem d_E_spread_131 : decode b_E_spread 131 = .ok (.lmul, 1) := by decide +kernel
theorem d_E_spread_132 : decode b_E_spread 132 = .ok (.ladd, 1) := by decide +kernel
theorem d_E_spread_133 : decode b_E_spread 133 = .ok (.lastore, 1) := by decide +kernel
theorem d_E_spread_134 : decode b_E_spread 134 = .ok (.return_, 1) := by decide +kernel
theorem d_E_settle_0 : decode b_E_settle 0 = .ok (.aload_n 0, 1) := by decide +kernel
theorem d_E_settle_1 : decode b_E_settle 1 = .ok (.getfield 34, 3) := by decide +kernel
theorem d_E_settle_4 : decode b_E_settle 4 = .ok (.iconst 2, 1) := by decide +kernel
theorem d_E_settle_5 : decode b_E_settle 5 = .ok (.if_icmp .ge 4, 3) := by decide +kernel
theorem d_E_settle_8 : decode b_E_settle 8 = .ok (.return_, 1) := by decide +kernel
theorem d_E_settle_9 : decode b_E_settle 9 = .ok (.aload_n 0, 1) := by decide +kernel
theorem d_E_settle_10 : decode b_E_settle 10 = .ok (.aload_n 0, 1) := by decide +kernel
theorem d_E_settle_11 : decode b_E_settle 11 = .ok (.iconst 1, 1) := by decide +kernel
theorem d_E_settle_12 : decode b_E_settle 12 = .ok (.invokevirtual 89, 3) := by decide +kernel
theorem d_E_settle_15 : decode b_E_settle 15 = .ok (.lconst 0, 1) := by decide +kernel
theorem d_E_settle_16 : decode b_E_settle 16 = .ok (.lcmp, 1) := by decide +kernel
theorem d_E_settle_17 : decode b_E_settle 17 = .ok (.ifCond .ge 7, 3) := by decide +kernel
theorem d_E_settle_20 : decode b_E_settle 20 = .ok (.iconst 1, 1) := by decide +kernel
theorem d_E_settle_21 : decode b_E_settle 21 = .ok (.goto 4, 3) := by decide +kernel
theorem d_E_settle_24 : decode b_E_settle 24 = .ok (.iconst 0, 1) := by decide +kernel
theorem d_E_settle_25 : decode b_E_settle 25 = .ok (.putfield 38, 3) := by decide +kernel
theorem d_E_settle_28 : decode b_E_settle 28 = .ok (.aload_n 0, 1) := by decide +kernel
theorem d_E_settle_29 : decode b_E_settle 29 = .ok (.getfield 38, 3) := by decide +kernel
theorem d_E_settle_32 : decode b_E_settle 32 = .ok (.ifCond .eq 9, 3) := by decide +kernel
theorem d_E_settle_35 : decode b_E_settle 35 = .ok (.aload_n 0, 1) := by decide +kernel
theorem d_E_settle_36 : decode b_E_settle 36 = .ok (.iconst (-1), 1) := by decide +kernel
theorem d_E_settle_37 : decode b_E_settle 37 = .ok (.invokevirtual 89, 3) := by decide +kernel
theorem d_E_settle_40 : decode b_E_settle 40 = .ok (.pop2, 1) := by decide +kernel
theorem d_E_settle_41 : decode b_E_settle 41 = .ok (.bipush 19, 2) := by decide +kernel
theorem d_E_settle_43 : decode b_E_settle 43 = .ok (.istore_n 1, 1) := by decide +kernel
theorem d_E_settle_44 : decode b_E_settle 44 = .ok (.iload_n 1, 1) := by decide +kernel
theorem d_E_settle_45 : decode b_E_settle 45 = .ok (.ifCond .le 20, 3) := by decide +kernel
theorem d_E_settle_48 : decode b_E_settle 48 = .ok (.aload_n 0, 1) := by decide +kernel
theorem d_E_settle_49 : decode b_E_settle 49 = .ok (.getfield 11, 3) := by decide +kernel
theorem d_E_settle_52 : decode b_E_settle 52 = .ok (.iload_n 1, 1) := by decide +kernel
theorem d_E_settle_53 : decode b_E_settle 53 = .ok (.laload, 1) := by decide +kernel
theorem d_E_settle_54 : decode b_E_settle 54 = .ok (.lconst 0, 1) := by decide +kernel
theorem d_E_settle_55 : decode b_E_settle 55 = .ok (.lcmp, 1) := by decide +kernel
theorem d_E_settle_56 : decode b_E_settle 56 = .ok (.ifCond .ne 9, 3) := by decide +kernel
theorem d_E_settle_59 : decode b_E_settle 59 = .ok (.iinc 1 (-1), 3) := by decide +kernel
theorem d_E_settle_62 : decode b_E_settle 62 = .ok (.goto (-18), 3) := by decide +kernel
theorem d_E_settle_65 : decode b_E_settle 65 = .ok (.aload_n 0, 1) := by decide +kernel
theorem d_E_settle_66 : decode b_E_settle 66 = .ok (.iload_n 1, 1) := by decide +kernel
theorem d_E_settle_67 : decode b_E_settle 67 = .ok (.invokevirtual 92, 3) := by decide +kernel
theorem d_E_settle_70 : decode b_E_settle 70 = .ok (.return_, 1) := by decide +kernel
theorem d_E_carry_0 : decode b_E_carry 0 = .ok (.lconst 0, 1) := by decide +kernel
theorem d_E_carry_1 : decode b_E_carry 1 = .ok (.lstore_n 2, 1) := by decide +kernel
theorem d_E_carry_2 : decode b_E_carry 2 = .ok (.iconst 0, 1) := by decide +kernel
theorem d_E_carry_3 : decode b_E_carry 3 = .ok (.istore 4, 2) := by decide +kernel
theorem d_E_carry_5 : decode b_E_carry 5 = .ok (.iload 4, 2) := by decide +kernel
theorem d_E_carry_7 : decode b_E_carry 7 = .ok (.bipush 20, 2) := by decide +kernel
theorem d_E_carry_9 : decode b_E_carry 9 = .ok (.if_icmp .ge 42, 3) := by decide +kernel
theorem d_E_carry_12 : decode b_E_carry 12 = .ok (.iload_n 1, 1) := by decide +kernel
theorem d_E_carry_13 : decode b_E_carry 13 = .ok (.i2l, 1) := by decide +kernel
theorem d_E_carry_14 : decode b_E_carry 14 = .ok (.aload_n 0, 1) := by decide +kernel
theorem d_E_carry_15 : decode b_E_carry 15 = .ok (.getfield 11, 3) := by decide +kernel
theorem d_E_carry_18 : decode b_E_carry 18 = .ok (.iload 4, 2) := by decide +kernel
theorem d_E_carry_20 : decode b_E_carry 20 = .ok (.laload, 1) := by decide +kernel
theorem d_E_carry_21 : decode b_E_carry 21 = .ok (.lmul, 1) := by decide +kernel
theorem d_E_carry_22 : decode b_E_carry 22 = .ok (.lload_n 2, 1) := by decide +kernel
theorem d_E_carry_23 : decode b_E_carry 23 = .ok (.ladd, 1) := by decide +kernel
theorem d_E_carry_24 : decode b_E_carry 24 = .ok (.lstore 5, 2) := by decide +kernel
theorem d_E_carry_26 : decode b_E_carry 26 = .ok (.aload_n 0, 1) := by decide +kernel
theorem d_E_carry_27 : decode b_E_carry 27 = .ok (.getfield 11, 3) := by decide +kernel
theorem d_E_carry_30 : decode b_E_carry 30 = .ok (.iload 4, 2) := by decide +kernel
theorem d_E_carry_32 : decode b_E_carry 32 = .ok (.lload 5, 2) := by decide +kernel
theorem d_E_carry_34 : decode b_E_carry 34 = .ok (.ldc2_w 85, 3) := by decide +kernel
theorem d_E_carry_37 : decode b_E_carry 37 = .ok (.land, 1) := by decide +kernel
theorem d_E_carry_38 : decode b_E_carry 38 = .ok (.lastore, 1) := by decide +kernel
theorem d_E_carry_39 : decode b_E_carry 39 = .ok (.lload 5, 2) := by decide +kernel
theorem d_E_carry_41 : decode b_E_carry 41 = .ok (.bipush 32, 2) := by decide +kernel
theorem d_E_carry_43 : decode b_E_carry 43 = .ok (.lshr, 1) := by decide +kernel
theorem d_E_carry_44 : decode b_E_carry 44 = .ok (.lstore_n 2, 1) := by decide +kernel
theorem d_E_carry_45 : decode b_E_carry 45 = .ok (.iinc 4 1, 3) := by decide +kernel
theorem d_E_carry_48 : decode b_E_carry 48 = .ok (.goto (-43), 3) := by decide +kernel
theorem d_E_carry_51 : decode b_E_carry 51 = .ok (.lload_n 2, 1) := by decide +kernel
theorem d_E_carry_52 : decode b_E_carry 52 = .ok (.lreturn, 1) := by decide +kernel
theorem d_E_take_0 : decode b_E_take 0 = .ok (.bipush 32, 2) := by decide +kernel
theorem d_E_take_2 : decode b_E_take 2 = .ok (.iload_n 1, 1) := by decide +kernel
theorem d_E_take_3 : decode b_E_take 3 = .ok (.imul, 1) := by decide +kernel
theorem d_E_take_4 : decode b_E_take 4 = .ok (.bipush 64, 2) := by decide +kernel
theorem d_E_take_6 : decode b_E_take 6 = .ok (.iadd, 1) := by decide +kernel
theorem d_E_take_7 : decode b_E_take 7 = .ok (.aload_n 0, 1) := by decide +kernel
theorem d_E_take_8 : decode b_E_take 8 = .ok (.getfield 11, 3) := by decide +kernel
theorem d_E_take_11 : decode b_E_take 11 = .ok (.iload_n 1, 1) := by decide +kernel
theorem d_E_take_12 : decode b_E_take 12 = .ok (.laload, 1) := by decide +kernel
theorem d_E_take_13 : decode b_E_take 13 = .ok (.invokestatic 96, 3) := by decide +kernel
theorem d_E_take_16 : decode b_E_take 16 = .ok (.isub, 1) := by decide +kernel
theorem d_E_take_17 : decode b_E_take 17 = .ok (.istore_n 2, 1) := by decide +kernel
theorem d_E_take_18 : decode b_E_take 18 = .ok (.iload_n 2, 1) := by decide +kernel
theorem d_E_take_19 : decode b_E_take 19 = .ok (.bipush 62, 2) := by decide +kernel
theorem d_E_take_21 : decode b_E_take 21 = .ok (.isub, 1) := by decide +kernel
theorem d_E_take_22 : decode b_E_take 22 = .ok (.iconst 0, 1) := by decide +kernel
theorem d_E_take_23 : decode b_E_take 23 = .ok (.invokestatic 102, 3) := by decide +kernel
theorem d_E_take_26 : decode b_E_take 26 = .ok (.istore_n 3, 1) := by decide +kernel
theorem d_E_take_27 : decode b_E_take 27 = .ok (.iload_n 3, 1) := by decide +kernel
theorem d_E_take_28 : decode b_E_take 28 = .ok (.iconst 5, 1) := by decide +kernel
theorem d_E_take_29 : decode b_E_take 29 = .ok (.ishr, 1) := by decide +kernel
theorem d_E_take_30 : decode b_E_take 30 = .ok (.istore 4, 2) := by decide +kernel
theorem d_E_take_32 : decode b_E_take 32 = .ok (.aload_n 0, 1) := by decide +kernel
theorem d_E_take_33 : decode b_E_take 33 = .ok (.aload_n 0, 1) := by decide +kernel
theorem d_E_take_34 : decode b_E_take 34 = .ok (.getfield 11, 3) := by decide +kernel
theorem d_E_take_37 : decode b_E_take 37 = .ok (.iload 4, 2) := by decide +kernel
theorem d_E_take_39 : decode b_E_take 39 = .ok (.laload, 1) := by decide +kernel
theorem d_E_take_40 : decode b_E_take 40 = .ok (.iload_n 3, 1) := by decide +kernel
theorem d_E_take_41 : decode b_E_take 41 = .ok (.bipush 31, 2) := by decide +kernel
theorem d_E_take_43 : decode b_E_take 43 = .ok (.iand, 1) := by decide +kernel
theorem d_E_take_44 : decode b_E_take 44 = .ok (.lushr, 1) := by decide +kernel
theorem d_E_take_45 : decode b_E_take 45 = .ok (.putfield 41, 3) := by decide +kernel
theorem d_E_take_48 : decode b_E_take 48 = .ok (.iload 4, 2) := by decide +kernel
theorem d_E_take_50 : decode b_E_take 50 = .ok (.iconst 1, 1) := by decide +kernel
theorem d_E_take_51 : decode b_E_take 51 = .ok (.iadd, 1) := by decide +kernel
theorem d_E_take_52 : decode b_E_take 52 = .ok (.istore 5, 2) := by decide +kernel
theorem d_E_take_54 : decode b_E_take 54 = .ok (.iload 5, 2) := by decide +kernel
theorem d_E_take_56 : decode b_E_take 56 = .ok (.iload_n 1, 1) := by decide +kernel
theorem d_E_take_57 : decode b_E_take 57 = .ok (.if_icmp .gt 33, 3) := by decide +kernel
theorem d_E_take_60 : decode b_E_take 60 = .ok (.aload_n 0, 1) := by decide +kernel
theorem d_E_take_61 : decode b_E_take 61 = .ok (.dup, 1) := by decide +kernel
theorem d_E_take_62 : decode b_E_take 62 = .ok (.getfield 41, 3) := by decide +kernel
theorem d_E_take_65 : decode b_E_take 65 = .ok (.aload_n 0, 1) := by decide +kernel
theorem d_E_take_66 : decode b_E_take 66 = .ok (.getfield 11, 3) := by decide +kernel
theorem d_E_take_69 : decode b_E_take 69 = .ok (.iload 5, 2) := by decide +kernel
theorem d_E_take_71 : decode b_E_take 71 = .ok (.laload, 1) := by decide +kernel
theorem d_E_take_72 : decode b_E_take 72 = .ok (.bipush 32, 2) := by decide +kernel
theorem d_E_take_74 : decode b_E_take 74 = .ok (.iload 5, 2) := by decide +kernel
theorem d_E_take_76 : decode b_E_take 76 = .ok (.imul, 1) := by decide +kernel
theorem d_E_take_77 : decode b_E_take 77 = .ok (.iload_n 3, 1) := by decide +kernel
theorem d_E_take_78 : decode b_E_take 78 = .ok (.isub, 1) := by decide +kernel
theorem d_E_take_79 : decode b_E_take 79 = .ok (.lshl, 1) := by decide +kernel
theorem d_E_take_80 : decode b_E_take 80 = .ok (.ladd, 1) := by decide +kernel
theorem d_E_take_81 : decode b_E_take 81 = .ok (.putfield 41, 3) := by decide +kernel
theorem d_E_take_84 : decode b_E_take 84 = .ok (.iinc 5 1, 3) := by decide +kernel
theorem d_E_take_87 : decode b_E_take 87 = .ok (.goto (-33), 3) := by decide +kernel
theorem d_E_take_90 : decode b_E_take 90 = .ok (.aload_n 0, 1) := by decide +kernel
theorem d_E_take_91 : decode b_E_take 91 = .ok (.sipush (-320), 3) := by decide +kernel
theorem d_E_take_94 : decode b_E_take 94 = .ok (.iload_n 3, 1) := by decide +kernel
theorem d_E_take_95 : decode b_E_take 95 = .ok (.iadd, 1) := by decide +kernel
theorem d_E_take_96 : decode b_E_take 96 = .ok (.putfield 45, 3) := by decide +kernel
theorem d_E_take_99 : decode b_E_take 99 = .ok (.aload_n 0, 1) := by decide +kernel
theorem d_E_take_100 : decode b_E_take 100 = .ok (.aload_n 0, 1) := by decide +kernel
theorem d_E_take_101 : decode b_E_take 101 = .ok (.getfield 11, 3) := by decide +kernel
theorem d_E_take_104 : decode b_E_take 104 = .ok (.iload 4, 2) := by decide +kernel
theorem d_E_take_106 : decode b_E_take 106 = .ok (.laload, 1) := by decide +kernel
theorem d_E_take_107 : decode b_E_take 107 = .ok (.lconst 1, 1) := by decide +kernel
theorem d_E_take_108 : decode b_E_take 108 = .ok (.iload_n 3, 1) := by decide +kernel
theorem d_E_take_109 : decode b_E_take 109 = .ok (.bipush 31, 2) := by decide +kernel
theorem d_E_take_111 : decode b_E_take 111 = .ok (.iand, 1) := by decide +kernel
theorem d_E_take_112 : decode b_E_take 112 = .ok (.lshl, 1) := by decide +kernel
theorem d_E_take_113 : decode b_E_take 113 = .ok (.lconst 1, 1) := by decide +kernel
theorem d_E_take_114 : decode b_E_take 114 = .ok (.lsub, 1) := by decide +kernel
theorem d_E_take_115 : decode b_E_take 115 = .ok (.land, 1) := by decide +kernel
theorem d_E_take_116 : decode b_E_take 116 = .ok (.lconst 0, 1) := by decide +kernel
theorem d_E_take_117 : decode b_E_take 117 = .ok (.lcmp, 1) := by decide +kernel
theorem d_E_take_118 : decode b_E_take 118 = .ok (.ifCond .eq 7, 3) := by decide +kernel
theorem d_E_take_121 : decode b_E_take 121 = .ok (.iconst 1, 1) := by decide +kernel
theorem d_E_take_122 : decode b_E_take 122 = .ok (.goto 4, 3) := by decide +kernel
theorem d_E_take_125 : decode b_E_take 125 = .ok (.iconst 0, 1) := by decide +kernel
theorem d_E_take_126 : decode b_E_take 126 = .ok (.putfield 48, 3) := by decide +kernel
theorem d_E_take_129 : decode b_E_take 129 = .ok (.iconst 0, 1) := by decide +kernel
theorem d_E_take_130 : decode b_E_take 130 = .ok (.istore 5, 2) := by decide +kernel
theorem d_E_take_132 : decode b_E_take 132 = .ok (.iload 5, 2) := by decide +kernel
theorem d_E_take_134 : decode b_E_take 134 = .ok (.iload 4, 2) := by decide +kernel
theorem d_E_take_136 : decode b_E_take 136 = .ok (.if_icmp .ge 37, 3) := by decide +kernel
theorem d_E_take_139 : decode b_E_take 139 = .ok (.aload_n 0, 1) := by decide +kernel
theorem d_E_take_140 : decode b_E_take 140 = .ok (.aload_n 0, 1) := by decide +kernel
theorem d_E_take_141 : decode b_E_take 141 = .ok (.getfield 48, 3) := by decide +kernel
theorem d_E_take_144 : decode b_E_take 144 = .ok (.ifCond .ne 15, 3) := by decide +kernel
theorem d_E_take_147 : decode b_E_take 147 = .ok (.aload_n 0, 1) := by decide +kernel
theorem d_E_take_148 : decode b_E_take 148 = .ok (.getfield 11, 3) := by decide +kernel
theorem d_E_take_151 : decode b_E_take 151 = .ok (.iload 5, 2) := by decide +kernel
theorem d_E_take_153 : decode b_E_take 153 = .ok (.laload, 1) := by decide +kernel
theorem d_E_take_154 : decode b_E_take 154 = .ok (.lconst 0, 1) := by decide +kernel
theorem d_E_take_155 : decode b_E_take 155 = .ok (.lcmp, 1) := by decide +kernel
theorem d_E_take_156 : decode b_E_take 156 = .ok (.ifCond .eq 7, 3) := by decide +kernel
theorem d_E_take_159 : decode b_E_take 159 = .ok (.iconst 1, 1) := by decide +kernel
theorem d_E_take_160 : decode b_E_take 160 = .ok (.goto 4, 3) := by decide +kernel
theorem d_E_take_163 : decode b_E_take 163 = .ok (.iconst 0, 1) := by decide +kernel
theorem d_E_take_164 : decode b_E_take 164 = .ok (.putfield 48, 3) := by decide +kernel
theorem d_E_take_167 : decode b_E_take 167 = .ok (.iinc 5 1, 3) := by decide +kernel
theorem d_E_take_170 : decode b_E_take 170 = .ok (.goto (-38), 3) := by decide +kernel
theorem d_E_take_173 : decode b_E_take 173 = .ok (.return_, 1) := by decide +kernel
theorem d_E_zeroIsNegative_0 : decode b_E_zeroIsNegative 0 = .ok (.aload_n 0, 1) := by decide +kernel
theorem d_E_zeroIsNegative_1 : decode b_E_zeroIsNegative 1 = .ok (.getfield 34, 3) := by decide +kernel
theorem d_E_zeroIsNegative_4 : decode b_E_zeroIsNegative 4 = .ok (.ifCond .ne 22, 3) := by decide +kernel
theorem d_E_zeroIsNegative_7 : decode b_E_zeroIsNegative 7 = .ok (.aload_n 0, 1) := by decide +kernel
theorem d_E_zeroIsNegative_8 : decode b_E_zeroIsNegative 8 = .ok (.getfield 28, 3) := by decide +kernel
theorem d_E_zeroIsNegative_11 : decode b_E_zeroIsNegative 11 = .ok (.ifCond .eq 10, 3) := by decide +kernel
theorem d_E_zeroIsNegative_14 : decode b_E_zeroIsNegative 14 = .ok (.aload_n 0, 1) := by decide +kernel
theorem d_E_zeroIsNegative_15 : decode b_E_zeroIsNegative 15 = .ok (.getfield 31, 3) := by decide +kernel
theorem d_E_zeroIsNegative_18 : decode b_E_zeroIsNegative 18 = .ok (.ifCond .ne 8, 3) := by decide +kernel
theorem d_E_zeroIsNegative_21 : decode b_E_zeroIsNegative 21 = .ok (.aload_n 0, 1) := by decide +kernel
theorem d_E_zeroIsNegative_22 : decode b_E_zeroIsNegative 22 = .ok (.getfield 31, 3) := by decide +kernel
theorem d_E_zeroIsNegative_25 : decode b_E_zeroIsNegative 25 = .ok (.ireturn, 1) := by decide +kernel
theorem d_E_zeroIsNegative_26 : decode b_E_zeroIsNegative 26 = .ok (.iload_n 1, 1) := by decide +kernel
theorem d_E_zeroIsNegative_27 : decode b_E_zeroIsNegative 27 = .ok (.iconst 4, 1) := by decide +kernel
theorem d_E_zeroIsNegative_28 : decode b_E_zeroIsNegative 28 = .ok (.if_icmp .ne 7, 3) := by decide +kernel
theorem d_E_zeroIsNegative_31 : decode b_E_zeroIsNegative 31 = .ok (.iconst 1, 1) := by decide +kernel
theorem d_E_zeroIsNegative_32 : decode b_E_zeroIsNegative 32 = .ok (.goto 4, 3) := by decide +kernel
theorem d_E_zeroIsNegative_35 : decode b_E_zeroIsNegative 35 = .ok (.iconst 0, 1) := by decide +kernel
theorem d_E_zeroIsNegative_36 : decode b_E_zeroIsNegative 36 = .ok (.ireturn, 1) := by decide +kernel
theorem d_E_side_0 : decode b_E_side 0 = .ok (.aload_n 0, 1) := by decide +kernel
theorem d_E_side_1 : decode b_E_side 1 = .ok (.getfield 22, 3) := by decide +kernel
theorem d_E_side_4 : decode b_E_side 4 = .ok (.ifCond .ne 10, 3) := by decide +kernel
theorem d_E_side_7 : decode b_E_side 7 = .ok (.aload_n 0, 1) := by decide +kernel
theorem d_E_side_8 : decode b_E_side 8 = .ok (.getfield 25, 3) := by decide +kernel
theorem d_E_side_11 : decode b_E_side 11 = .ok (.ifCond .eq 29, 3) := by decide +kernel
theorem d_E_side_14 : decode b_E_side 14 = .ok (.aload_n 0, 1) := by decide +kernel
theorem d_E_side_15 : decode b_E_side 15 = .ok (.getfield 22, 3) := by decide +kernel
theorem d_E_side_18 : decode b_E_side 18 = .ok (.ifCond .eq 7, 3) := by decide +kernel
theorem d_E_side_21 : decode b_E_side 21 = .ok (.iconst 1, 1) := by decide +kernel
theorem d_E_side_22 : decode b_E_side 22 = .ok (.goto 4, 3) := by decide +kernel
theorem d_E_side_25 : decode b_E_side 25 = .ok (.iconst 0, 1) := by decide +kernel
theorem d_E_side_26 : decode b_E_side 26 = .ok (.aload_n 0, 1) := by decide +kernel
theorem d_E_side_27 : decode b_E_side 27 = .ok (.getfield 25, 3) := by decide +kernel
theorem d_E_side_30 : decode b_E_side 30 = .ok (.ifCond .eq 7, 3) := by decide +kernel
theorem d_E_side_33 : decode b_E_side 33 = .ok (.iconst 1, 1) := by decide +kernel
theorem d_E_side_34 : decode b_E_side 34 = .ok (.goto 4, 3) := by decide +kernel
theorem d_E_side_37 : decode b_E_side 37 = .ok (.iconst 0, 1) := by decide +kernel
theorem d_E_side_38 : decode b_E_side 38 = .ok (.isub, 1) := by decide +kernel
theorem d_E_side_39 : decode b_E_side 39 = .ok (.ireturn, 1) := by decide +kernel
theorem d_E_side_40 : decode b_E_side 40 = .ok (.aload_n 0, 1) := by decide +kernel
theorem d_E_side_41 : decode b_E_side 41 = .ok (.invokevirtual 108, 3) := by decide +kernel
theorem d_E_side_44 : decode b_E_side 44 = .ok (.aload_n 0, 1) := by decide +kernel
theorem d_E_side_45 : decode b_E_side 45 = .ok (.getfield 41, 3) := by decide +kernel
theorem d_E_side_48 : decode b_E_side 48 = .ok (.lconst 0, 1) := by decide +kernel
theorem d_E_side_49 : decode b_E_side 49 = .ok (.lcmp, 1) := by decide +kernel
theorem d_E_side_50 : decode b_E_side 50 = .ok (.ifCond .ne 5, 3) := by decide +kernel
theorem d_E_side_53 : decode b_E_side 53 = .ok (.iconst 0, 1) := by decide +kernel
theorem d_E_side_54 : decode b_E_side 54 = .ok (.ireturn, 1) := by decide +kernel
theorem d_E_side_55 : decode b_E_side 55 = .ok (.aload_n 0, 1) := by decide +kernel
theorem d_E_side_56 : decode b_E_side 56 = .ok (.getfield 38, 3) := by decide +kernel
theorem d_E_side_59 : decode b_E_side 59 = .ok (.ifCond .eq 7, 3) := by decide +kernel
theorem d_E_side_62 : decode b_E_side 62 = .ok (.iconst (-1), 1) := by decide +kernel
theorem d_E_side_63 : decode b_E_side 63 = .ok (.goto 4, 3) := by decide +kernel
theorem d_E_side_66 : decode b_E_side 66 = .ok (.iconst 1, 1) := by decide +kernel
theorem d_E_side_67 : decode b_E_side 67 = .ok (.ireturn, 1) := by decide +kernel
