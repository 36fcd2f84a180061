/-! Decoded: constructors, the law and its wrappers. -/
theorem d_PT_init_0 : decode b_PT_init 0 = .ok (.aload_n 0, 1) := by decide +kernel
theorem d_PT_init_1 : decode b_PT_init 1 = .ok (.invokespecial 3, 3) := by decide +kernel
theorem d_PT_init_4 : decode b_PT_init 4 = .ok (.aload_n 0, 1) := by decide +kernel
theorem d_PT_init_5 : decode b_PT_init 5 = .ok (.new 9, 3) := by decide +kernel
theorem d_PT_init_8 : decode b_PT_init 8 = .ok (.dup, 1) := by decide +kernel
theorem d_PT_init_9 : decode b_PT_init 9 = .ok (.invokespecial 11, 3) := by decide +kernel
theorem d_PT_init_12 : decode b_PT_init 12 = .ok (.putfield 12, 3) := by decide +kernel
theorem d_PT_init_15 : decode b_PT_init 15 = .ok (.aload_n 0, 1) := by decide +kernel
theorem d_PT_init_16 : decode b_PT_init 16 = .ok (.iconst (4), 1) := by decide +kernel
theorem d_PT_init_17 : decode b_PT_init 17 = .ok (.newarray .int, 2) := by decide +kernel
theorem d_PT_init_19 : decode b_PT_init 19 = .ok (.putfield 16, 3) := by decide +kernel
theorem d_PT_init_22 : decode b_PT_init 22 = .ok (.aload_n 0, 1) := by decide +kernel
theorem d_PT_init_23 : decode b_PT_init 23 = .ok (.new 20, 3) := by decide +kernel
theorem d_PT_init_26 : decode b_PT_init 26 = .ok (.dup, 1) := by decide +kernel
theorem d_PT_init_27 : decode b_PT_init 27 = .ok (.invokespecial 22, 3) := by decide +kernel
theorem d_PT_init_30 : decode b_PT_init 30 = .ok (.putfield 23, 3) := by decide +kernel
theorem d_PT_init_33 : decode b_PT_init 33 = .ok (.aload_n 0, 1) := by decide +kernel
theorem d_PT_init_34 : decode b_PT_init 34 = .ok (.new 27, 3) := by decide +kernel
theorem d_PT_init_37 : decode b_PT_init 37 = .ok (.dup, 1) := by decide +kernel
theorem d_PT_init_38 : decode b_PT_init 38 = .ok (.invokespecial 29, 3) := by decide +kernel
theorem d_PT_init_41 : decode b_PT_init 41 = .ok (.putfield 30, 3) := by decide +kernel
theorem d_PT_init_44 : decode b_PT_init 44 = .ok (.return_, 1) := by decide +kernel
theorem d_MD_init_0 : decode b_MD_init 0 = .ok (.aload_n 0, 1) := by decide +kernel
theorem d_MD_init_1 : decode b_MD_init 1 = .ok (.invokespecial 1, 3) := by decide +kernel
theorem d_MD_init_4 : decode b_MD_init 4 = .ok (.aload_n 0, 1) := by decide +kernel
theorem d_MD_init_5 : decode b_MD_init 5 = .ok (.iconst (4), 1) := by decide +kernel
theorem d_MD_init_6 : decode b_MD_init 6 = .ok (.newarray .int, 2) := by decide +kernel
theorem d_MD_init_8 : decode b_MD_init 8 = .ok (.putfield 7, 3) := by decide +kernel
theorem d_MD_init_11 : decode b_MD_init 11 = .ok (.aload_n 0, 1) := by decide +kernel
theorem d_MD_init_12 : decode b_MD_init 12 = .ok (.bipush (16), 2) := by decide +kernel
theorem d_MD_init_14 : decode b_MD_init 14 = .ok (.newarray .boolean, 2) := by decide +kernel
theorem d_MD_init_16 : decode b_MD_init 16 = .ok (.putfield 13, 3) := by decide +kernel
theorem d_MD_init_19 : decode b_MD_init 19 = .ok (.aload_n 0, 1) := by decide +kernel
theorem d_MD_init_20 : decode b_MD_init 20 = .ok (.iconst (4), 1) := by decide +kernel
theorem d_MD_init_21 : decode b_MD_init 21 = .ok (.newarray .int, 2) := by decide +kernel
theorem d_MD_init_23 : decode b_MD_init 23 = .ok (.putfield 17, 3) := by decide +kernel
theorem d_MD_init_26 : decode b_MD_init 26 = .ok (.aload_n 0, 1) := by decide +kernel
theorem d_MD_init_27 : decode b_MD_init 27 = .ok (.bipush (48), 2) := by decide +kernel
theorem d_MD_init_29 : decode b_MD_init 29 = .ok (.newarray .int, 2) := by decide +kernel
theorem d_MD_init_31 : decode b_MD_init 31 = .ok (.putfield 20, 3) := by decide +kernel
theorem d_MD_init_34 : decode b_MD_init 34 = .ok (.aload_n 0, 1) := by decide +kernel
theorem d_MD_init_35 : decode b_MD_init 35 = .ok (.sipush (192), 3) := by decide +kernel
theorem d_MD_init_38 : decode b_MD_init 38 = .ok (.newarray .int, 2) := by decide +kernel
theorem d_MD_init_40 : decode b_MD_init 40 = .ok (.putfield 23, 3) := by decide +kernel
theorem d_MD_init_43 : decode b_MD_init 43 = .ok (.aload_n 0, 1) := by decide +kernel
theorem d_MD_init_44 : decode b_MD_init 44 = .ok (.bipush (40), 2) := by decide +kernel
theorem d_MD_init_46 : decode b_MD_init 46 = .ok (.newarray .int, 2) := by decide +kernel
theorem d_MD_init_48 : decode b_MD_init 48 = .ok (.putfield 26, 3) := by decide +kernel
theorem d_MD_init_51 : decode b_MD_init 51 = .ok (.aload_n 0, 1) := by decide +kernel
theorem d_MD_init_52 : decode b_MD_init 52 = .ok (.bipush (40), 2) := by decide +kernel
theorem d_MD_init_54 : decode b_MD_init 54 = .ok (.newarray .int, 2) := by decide +kernel
theorem d_MD_init_56 : decode b_MD_init 56 = .ok (.putfield 29, 3) := by decide +kernel
theorem d_MD_init_59 : decode b_MD_init 59 = .ok (.aload_n 0, 1) := by decide +kernel
theorem d_MD_init_60 : decode b_MD_init 60 = .ok (.bipush (40), 2) := by decide +kernel
theorem d_MD_init_62 : decode b_MD_init 62 = .ok (.newarray .int, 2) := by decide +kernel
theorem d_MD_init_64 : decode b_MD_init 64 = .ok (.putfield 32, 3) := by decide +kernel
theorem d_MD_init_67 : decode b_MD_init 67 = .ok (.aload_n 0, 1) := by decide +kernel
theorem d_MD_init_68 : decode b_MD_init 68 = .ok (.bipush (40), 2) := by decide +kernel
theorem d_MD_init_70 : decode b_MD_init 70 = .ok (.newarray .int, 2) := by decide +kernel
theorem d_MD_init_72 : decode b_MD_init 72 = .ok (.putfield 35, 3) := by decide +kernel
theorem d_MD_init_75 : decode b_MD_init 75 = .ok (.aload_n 0, 1) := by decide +kernel
theorem d_MD_init_76 : decode b_MD_init 76 = .ok (.bipush (8), 2) := by decide +kernel
theorem d_MD_init_78 : decode b_MD_init 78 = .ok (.newarray .int, 2) := by decide +kernel
theorem d_MD_init_80 : decode b_MD_init 80 = .ok (.putfield 38, 3) := by decide +kernel
theorem d_MD_init_83 : decode b_MD_init 83 = .ok (.aload_n 0, 1) := by decide +kernel
theorem d_MD_init_84 : decode b_MD_init 84 = .ok (.bipush (40), 2) := by decide +kernel
theorem d_MD_init_86 : decode b_MD_init 86 = .ok (.newarray .int, 2) := by decide +kernel
theorem d_MD_init_88 : decode b_MD_init 88 = .ok (.putfield 41, 3) := by decide +kernel
theorem d_MD_init_91 : decode b_MD_init 91 = .ok (.aload_n 0, 1) := by decide +kernel
theorem d_MD_init_92 : decode b_MD_init 92 = .ok (.bipush (40), 2) := by decide +kernel
theorem d_MD_init_94 : decode b_MD_init 94 = .ok (.newarray .int, 2) := by decide +kernel
theorem d_MD_init_96 : decode b_MD_init 96 = .ok (.putfield 44, 3) := by decide +kernel
theorem d_MD_init_99 : decode b_MD_init 99 = .ok (.aload_n 0, 1) := by decide +kernel
theorem d_MD_init_100 : decode b_MD_init 100 = .ok (.bipush (40), 2) := by decide +kernel
theorem d_MD_init_102 : decode b_MD_init 102 = .ok (.newarray .boolean, 2) := by decide +kernel
theorem d_MD_init_104 : decode b_MD_init 104 = .ok (.putfield 47, 3) := by decide +kernel
theorem d_MD_init_107 : decode b_MD_init 107 = .ok (.aload_n 0, 1) := by decide +kernel
theorem d_MD_init_108 : decode b_MD_init 108 = .ok (.sipush (320), 3) := by decide +kernel
theorem d_MD_init_111 : decode b_MD_init 111 = .ok (.newarray .int, 2) := by decide +kernel
theorem d_MD_init_113 : decode b_MD_init 113 = .ok (.putfield 50, 3) := by decide +kernel
theorem d_MD_init_116 : decode b_MD_init 116 = .ok (.aload_n 0, 1) := by decide +kernel
theorem d_MD_init_117 : decode b_MD_init 117 = .ok (.bipush (64), 2) := by decide +kernel
theorem d_MD_init_119 : decode b_MD_init 119 = .ok (.newarray .int, 2) := by decide +kernel
theorem d_MD_init_121 : decode b_MD_init 121 = .ok (.putfield 53, 3) := by decide +kernel
theorem d_MD_init_124 : decode b_MD_init 124 = .ok (.return_, 1) := by decide +kernel
theorem d_OP_init_0 : decode b_OP_init 0 = .ok (.aload_n 0, 1) := by decide +kernel
theorem d_OP_init_1 : decode b_OP_init 1 = .ok (.invokespecial 3, 3) := by decide +kernel
theorem d_OP_init_4 : decode b_OP_init 4 = .ok (.aload_n 0, 1) := by decide +kernel
theorem d_OP_init_5 : decode b_OP_init 5 = .ok (.bipush (64), 2) := by decide +kernel
theorem d_OP_init_7 : decode b_OP_init 7 = .ok (.newarray .int, 2) := by decide +kernel
theorem d_OP_init_9 : decode b_OP_init 9 = .ok (.putfield 9, 3) := by decide +kernel
theorem d_OP_init_12 : decode b_OP_init 12 = .ok (.return_, 1) := by decide +kernel
theorem d_PN_init_0 : decode b_PN_init 0 = .ok (.aload_n 0, 1) := by decide +kernel
theorem d_PN_init_1 : decode b_PN_init 1 = .ok (.invokespecial 3, 3) := by decide +kernel
theorem d_PN_init_4 : decode b_PN_init 4 = .ok (.aload_n 0, 1) := by decide +kernel
theorem d_PN_init_5 : decode b_PN_init 5 = .ok (.bipush (40), 2) := by decide +kernel
theorem d_PN_init_7 : decode b_PN_init 7 = .ok (.newarray .int, 2) := by decide +kernel
theorem d_PN_init_9 : decode b_PN_init 9 = .ok (.putfield 9, 3) := by decide +kernel
theorem d_PN_init_12 : decode b_PN_init 12 = .ok (.aload_n 0, 1) := by decide +kernel
theorem d_PN_init_13 : decode b_PN_init 13 = .ok (.bipush (39), 2) := by decide +kernel
theorem d_PN_init_15 : decode b_PN_init 15 = .ok (.anewarray 15, 3) := by decide +kernel
theorem d_PN_init_18 : decode b_PN_init 18 = .ok (.putfield 17, 3) := by decide +kernel
theorem d_PN_init_21 : decode b_PN_init 21 = .ok (.iconst (0), 1) := by decide +kernel
theorem d_PN_init_22 : decode b_PN_init 22 = .ok (.istore_n 1, 1) := by decide +kernel
theorem d_PN_init_23 : decode b_PN_init 23 = .ok (.iload_n 1, 1) := by decide +kernel
theorem d_PN_init_24 : decode b_PN_init 24 = .ok (.bipush (39), 2) := by decide +kernel
theorem d_PN_init_26 : decode b_PN_init 26 = .ok (.if_icmp .ge (22), 3) := by decide +kernel
theorem d_PN_init_29 : decode b_PN_init 29 = .ok (.aload_n 0, 1) := by decide +kernel
theorem d_PN_init_30 : decode b_PN_init 30 = .ok (.getfield 17, 3) := by decide +kernel
theorem d_PN_init_33 : decode b_PN_init 33 = .ok (.iload_n 1, 1) := by decide +kernel
theorem d_PN_init_34 : decode b_PN_init 34 = .ok (.new 15, 3) := by decide +kernel
theorem d_PN_init_37 : decode b_PN_init 37 = .ok (.dup, 1) := by decide +kernel
theorem d_PN_init_38 : decode b_PN_init 38 = .ok (.invokespecial 21, 3) := by decide +kernel
theorem d_PN_init_41 : decode b_PN_init 41 = .ok (.aastore, 1) := by decide +kernel
theorem d_PN_init_42 : decode b_PN_init 42 = .ok (.iinc 1 (1), 3) := by decide +kernel
theorem d_PN_init_45 : decode b_PN_init 45 = .ok (.goto (-22), 3) := by decide +kernel
theorem d_PN_init_48 : decode b_PN_init 48 = .ok (.return_, 1) := by decide +kernel
theorem d_RN_init_0 : decode b_RN_init 0 = .ok (.aload_n 0, 1) := by decide +kernel
theorem d_RN_init_1 : decode b_RN_init 1 = .ok (.invokespecial 3, 3) := by decide +kernel
theorem d_RN_init_4 : decode b_RN_init 4 = .ok (.aload_n 0, 1) := by decide +kernel
theorem d_RN_init_5 : decode b_RN_init 5 = .ok (.bipush (8), 2) := by decide +kernel
theorem d_RN_init_7 : decode b_RN_init 7 = .ok (.newarray .int, 2) := by decide +kernel
theorem d_RN_init_9 : decode b_RN_init 9 = .ok (.putfield 9, 3) := by decide +kernel
theorem d_RN_init_12 : decode b_RN_init 12 = .ok (.aload_n 0, 1) := by decide +kernel
theorem d_RN_init_13 : decode b_RN_init 13 = .ok (.aload_n 1, 1) := by decide +kernel
theorem d_RN_init_14 : decode b_RN_init 14 = .ok (.putfield 15, 3) := by decide +kernel
theorem d_RN_init_17 : decode b_RN_init 17 = .ok (.aload_n 0, 1) := by decide +kernel
theorem d_RN_init_18 : decode b_RN_init 18 = .ok (.aload_n 2, 1) := by decide +kernel
theorem d_RN_init_19 : decode b_RN_init 19 = .ok (.putfield 19, 3) := by decide +kernel
theorem d_RN_init_22 : decode b_RN_init 22 = .ok (.aload_n 0, 1) := by decide +kernel
theorem d_RN_init_23 : decode b_RN_init 23 = .ok (.aload_n 3, 1) := by decide +kernel
theorem d_RN_init_24 : decode b_RN_init 24 = .ok (.putfield 23, 3) := by decide +kernel
theorem d_RN_init_27 : decode b_RN_init 27 = .ok (.aload_n 0, 1) := by decide +kernel
theorem d_RN_init_28 : decode b_RN_init 28 = .ok (.iload 4, 2) := by decide +kernel
theorem d_RN_init_30 : decode b_RN_init 30 = .ok (.putfield 27, 3) := by decide +kernel
theorem d_RN_init_33 : decode b_RN_init 33 = .ok (.return_, 1) := by decide +kernel
theorem d_SP_init_0 : decode b_SP_init 0 = .ok (.aload_n 0, 1) := by decide +kernel
theorem d_SP_init_1 : decode b_SP_init 1 = .ok (.invokespecial 3, 3) := by decide +kernel
theorem d_SP_init_4 : decode b_SP_init 4 = .ok (.aload_n 0, 1) := by decide +kernel
theorem d_SP_init_5 : decode b_SP_init 5 = .ok (.bipush (8), 2) := by decide +kernel
theorem d_SP_init_7 : decode b_SP_init 7 = .ok (.newarray .int, 2) := by decide +kernel
theorem d_SP_init_9 : decode b_SP_init 9 = .ok (.putfield 9, 3) := by decide +kernel
theorem d_SP_init_12 : decode b_SP_init 12 = .ok (.return_, 1) := by decide +kernel
theorem d_TB_init_0 : decode b_TB_init 0 = .ok (.aload_n 0, 1) := by decide +kernel
theorem d_TB_init_1 : decode b_TB_init 1 = .ok (.invokespecial 3, 3) := by decide +kernel
theorem d_TB_init_4 : decode b_TB_init 4 = .ok (.aload_n 0, 1) := by decide +kernel
theorem d_TB_init_5 : decode b_TB_init 5 = .ok (.iconst (4), 1) := by decide +kernel
theorem d_TB_init_6 : decode b_TB_init 6 = .ok (.newarray .boolean, 2) := by decide +kernel
theorem d_TB_init_8 : decode b_TB_init 8 = .ok (.putfield 9, 3) := by decide +kernel
theorem d_TB_init_11 : decode b_TB_init 11 = .ok (.aload_n 0, 1) := by decide +kernel
theorem d_TB_init_12 : decode b_TB_init 12 = .ok (.iconst (4), 1) := by decide +kernel
theorem d_TB_init_13 : decode b_TB_init 13 = .ok (.bipush (48), 2) := by decide +kernel
theorem d_TB_init_15 : decode b_TB_init 15 = .ok (.multianewarray 15 2, 4) := by decide +kernel
theorem d_TB_init_19 : decode b_TB_init 19 = .ok (.putfield 17, 3) := by decide +kernel
theorem d_TB_init_22 : decode b_TB_init 22 = .ok (.aload_n 0, 1) := by decide +kernel
theorem d_TB_init_23 : decode b_TB_init 23 = .ok (.iconst (4), 1) := by decide +kernel
theorem d_TB_init_24 : decode b_TB_init 24 = .ok (.bipush (48), 2) := by decide +kernel
theorem d_TB_init_26 : decode b_TB_init 26 = .ok (.multianewarray 15 2, 4) := by decide +kernel
theorem d_TB_init_30 : decode b_TB_init 30 = .ok (.putfield 20, 3) := by decide +kernel
theorem d_TB_init_33 : decode b_TB_init 33 = .ok (.return_, 1) := by decide +kernel
theorem d_TS_init_0 : decode b_TS_init 0 = .ok (.aload_n 0, 1) := by decide +kernel
theorem d_TS_init_1 : decode b_TS_init 1 = .ok (.invokespecial 3, 3) := by decide +kernel
theorem d_TS_init_4 : decode b_TS_init 4 = .ok (.aload_n 0, 1) := by decide +kernel
theorem d_TS_init_5 : decode b_TS_init 5 = .ok (.iconst (4), 1) := by decide +kernel
theorem d_TS_init_6 : decode b_TS_init 6 = .ok (.anewarray 9, 3) := by decide +kernel
theorem d_TS_init_9 : decode b_TS_init 9 = .ok (.putfield 11, 3) := by decide +kernel
theorem d_TS_init_12 : decode b_TS_init 12 = .ok (.iconst (0), 1) := by decide +kernel
theorem d_TS_init_13 : decode b_TS_init 13 = .ok (.istore_n 1, 1) := by decide +kernel
theorem d_TS_init_14 : decode b_TS_init 14 = .ok (.iload_n 1, 1) := by decide +kernel
theorem d_TS_init_15 : decode b_TS_init 15 = .ok (.iconst (4), 1) := by decide +kernel
theorem d_TS_init_16 : decode b_TS_init 16 = .ok (.if_icmp .ge (22), 3) := by decide +kernel
theorem d_TS_init_19 : decode b_TS_init 19 = .ok (.aload_n 0, 1) := by decide +kernel
theorem d_TS_init_20 : decode b_TS_init 20 = .ok (.getfield 11, 3) := by decide +kernel
theorem d_TS_init_23 : decode b_TS_init 23 = .ok (.iload_n 1, 1) := by decide +kernel
theorem d_TS_init_24 : decode b_TS_init 24 = .ok (.new 9, 3) := by decide +kernel
theorem d_TS_init_27 : decode b_TS_init 27 = .ok (.dup, 1) := by decide +kernel
theorem d_TS_init_28 : decode b_TS_init 28 = .ok (.invokespecial 17, 3) := by decide +kernel
theorem d_TS_init_31 : decode b_TS_init 31 = .ok (.aastore, 1) := by decide +kernel
theorem d_TS_init_32 : decode b_TS_init 32 = .ok (.iinc 1 (1), 3) := by decide +kernel
theorem d_TS_init_35 : decode b_TS_init 35 = .ok (.goto (-21), 3) := by decide +kernel
theorem d_TS_init_38 : decode b_TS_init 38 = .ok (.return_, 1) := by decide +kernel
theorem d_LW_table_0 : decode b_LW_table 0 = .ok (.aload_n 2, 1) := by decide +kernel
theorem d_LW_table_1 : decode b_LW_table 1 = .ok (.iconst (0), 1) := by decide +kernel
theorem d_LW_table_2 : decode b_LW_table 2 = .ok (.aload_n 0, 1) := by decide +kernel
theorem d_LW_table_3 : decode b_LW_table 3 = .ok (.iload_n 1, 1) := by decide +kernel
theorem d_LW_table_4 : decode b_LW_table 4 = .ok (.invokevirtual 7, 3) := by decide +kernel
theorem d_LW_table_7 : decode b_LW_table 7 = .ok (.i2l, 1) := by decide +kernel
theorem d_LW_table_8 : decode b_LW_table 8 = .ok (.lastore, 1) := by decide +kernel
theorem d_LW_table_9 : decode b_LW_table 9 = .ok (.goto (9), 3) := by decide +kernel
theorem d_LW_table_12 : decode b_LW_table 12 = .ok (.astore_n 3, 1) := by decide +kernel
theorem d_LW_table_13 : decode b_LW_table 13 = .ok (.iconst (1), 1) := by decide +kernel
theorem d_LW_table_14 : decode b_LW_table 14 = .ok (.ireturn, 1) := by decide +kernel
theorem d_LW_table_15 : decode b_LW_table 15 = .ok (.astore_n 3, 1) := by decide +kernel
theorem d_LW_table_16 : decode b_LW_table 16 = .ok (.iconst (2), 1) := by decide +kernel
theorem d_LW_table_17 : decode b_LW_table 17 = .ok (.ireturn, 1) := by decide +kernel
theorem d_LW_table_18 : decode b_LW_table 18 = .ok (.iconst (0), 1) := by decide +kernel
theorem d_LW_table_19 : decode b_LW_table 19 = .ok (.ireturn, 1) := by decide +kernel
theorem d_LW_index_0 : decode b_LW_index 0 = .ok (.aload_n 3, 1) := by decide +kernel
theorem d_LW_index_1 : decode b_LW_index 1 = .ok (.iconst (0), 1) := by decide +kernel
theorem d_LW_index_2 : decode b_LW_index 2 = .ok (.aload_n 0, 1) := by decide +kernel
theorem d_LW_index_3 : decode b_LW_index 3 = .ok (.iload_n 1, 1) := by decide +kernel
theorem d_LW_index_4 : decode b_LW_index 4 = .ok (.iload_n 2, 1) := by decide +kernel
theorem d_LW_index_5 : decode b_LW_index 5 = .ok (.invokevirtual 17, 3) := by decide +kernel
theorem d_LW_index_8 : decode b_LW_index 8 = .ok (.ifCond .eq (7), 3) := by decide +kernel
theorem d_LW_index_11 : decode b_LW_index 11 = .ok (.lconst 1, 1) := by decide +kernel
theorem d_LW_index_12 : decode b_LW_index 12 = .ok (.goto (4), 3) := by decide +kernel
theorem d_LW_index_15 : decode b_LW_index 15 = .ok (.lconst 0, 1) := by decide +kernel
theorem d_LW_index_16 : decode b_LW_index 16 = .ok (.lastore, 1) := by decide +kernel
theorem d_LW_index_17 : decode b_LW_index 17 = .ok (.goto (7), 3) := by decide +kernel
theorem d_LW_index_20 : decode b_LW_index 20 = .ok (.astore 4, 2) := by decide +kernel
theorem d_LW_index_22 : decode b_LW_index 22 = .ok (.iconst (1), 1) := by decide +kernel
theorem d_LW_index_23 : decode b_LW_index 23 = .ok (.ireturn, 1) := by decide +kernel
theorem d_LW_index_24 : decode b_LW_index 24 = .ok (.iconst (0), 1) := by decide +kernel
theorem d_LW_index_25 : decode b_LW_index 25 = .ok (.ireturn, 1) := by decide +kernel
theorem d_LW_insert_0 : decode b_LW_insert 0 = .ok (.aload_n 2, 1) := by decide +kernel
theorem d_LW_insert_1 : decode b_LW_insert 1 = .ok (.iconst (0), 1) := by decide +kernel
theorem d_LW_insert_2 : decode b_LW_insert 2 = .ok (.aload_n 0, 1) := by decide +kernel
theorem d_LW_insert_3 : decode b_LW_insert 3 = .ok (.iload_n 1, 1) := by decide +kernel
theorem d_LW_insert_4 : decode b_LW_insert 4 = .ok (.invokevirtual 23, 3) := by decide +kernel
theorem d_LW_insert_7 : decode b_LW_insert 7 = .ok (.i2l, 1) := by decide +kernel
theorem d_LW_insert_8 : decode b_LW_insert 8 = .ok (.lastore, 1) := by decide +kernel
theorem d_LW_insert_9 : decode b_LW_insert 9 = .ok (.goto (12), 3) := by decide +kernel
theorem d_LW_insert_12 : decode b_LW_insert 12 = .ok (.astore_n 3, 1) := by decide +kernel
theorem d_LW_insert_13 : decode b_LW_insert 13 = .ok (.iconst (1), 1) := by decide +kernel
theorem d_LW_insert_14 : decode b_LW_insert 14 = .ok (.ireturn, 1) := by decide +kernel
theorem d_LW_insert_15 : decode b_LW_insert 15 = .ok (.astore_n 3, 1) := by decide +kernel
theorem d_LW_insert_16 : decode b_LW_insert 16 = .ok (.iconst (2), 1) := by decide +kernel
theorem d_LW_insert_17 : decode b_LW_insert 17 = .ok (.ireturn, 1) := by decide +kernel
theorem d_LW_insert_18 : decode b_LW_insert 18 = .ok (.astore_n 3, 1) := by decide +kernel
theorem d_LW_insert_19 : decode b_LW_insert 19 = .ok (.iconst (3), 1) := by decide +kernel
theorem d_LW_insert_20 : decode b_LW_insert 20 = .ok (.ireturn, 1) := by decide +kernel
theorem d_LW_insert_21 : decode b_LW_insert 21 = .ok (.iconst (0), 1) := by decide +kernel
theorem d_LW_insert_22 : decode b_LW_insert 22 = .ok (.ireturn, 1) := by decide +kernel
theorem d_LW_delete_0 : decode b_LW_delete 0 = .ok (.aload_n 3, 1) := by decide +kernel
theorem d_LW_delete_1 : decode b_LW_delete 1 = .ok (.iconst (0), 1) := by decide +kernel
theorem d_LW_delete_2 : decode b_LW_delete 2 = .ok (.aload_n 0, 1) := by decide +kernel
theorem d_LW_delete_3 : decode b_LW_delete 3 = .ok (.iload_n 1, 1) := by decide +kernel
theorem d_LW_delete_4 : decode b_LW_delete 4 = .ok (.iload_n 2, 1) := by decide +kernel
theorem d_LW_delete_5 : decode b_LW_delete 5 = .ok (.invokevirtual 28, 3) := by decide +kernel
theorem d_LW_delete_8 : decode b_LW_delete 8 = .ok (.i2l, 1) := by decide +kernel
theorem d_LW_delete_9 : decode b_LW_delete 9 = .ok (.lastore, 1) := by decide +kernel
theorem d_LW_delete_10 : decode b_LW_delete 10 = .ok (.goto (11), 3) := by decide +kernel
theorem d_LW_delete_13 : decode b_LW_delete 13 = .ok (.astore 4, 2) := by decide +kernel
theorem d_LW_delete_15 : decode b_LW_delete 15 = .ok (.iconst (1), 1) := by decide +kernel
theorem d_LW_delete_16 : decode b_LW_delete 16 = .ok (.ireturn, 1) := by decide +kernel
theorem d_LW_delete_17 : decode b_LW_delete 17 = .ok (.astore 4, 2) := by decide +kernel
theorem d_LW_delete_19 : decode b_LW_delete 19 = .ok (.iconst (2), 1) := by decide +kernel
theorem d_LW_delete_20 : decode b_LW_delete 20 = .ok (.ireturn, 1) := by decide +kernel
theorem d_LW_delete_21 : decode b_LW_delete 21 = .ok (.iconst (0), 1) := by decide +kernel
theorem d_LW_delete_22 : decode b_LW_delete 22 = .ok (.ireturn, 1) := by decide +kernel
theorem d_LW_cell_0 : decode b_LW_cell 0 = .ok (.aload 4, 2) := by decide +kernel
theorem d_LW_cell_2 : decode b_LW_cell 2 = .ok (.iconst (0), 1) := by decide +kernel
theorem d_LW_cell_3 : decode b_LW_cell 3 = .ok (.aload_n 0, 1) := by decide +kernel
theorem d_LW_cell_4 : decode b_LW_cell 4 = .ok (.iload_n 1, 1) := by decide +kernel
theorem d_LW_cell_5 : decode b_LW_cell 5 = .ok (.iload_n 2, 1) := by decide +kernel
theorem d_LW_cell_6 : decode b_LW_cell 6 = .ok (.iload_n 3, 1) := by decide +kernel
theorem d_LW_cell_7 : decode b_LW_cell 7 = .ok (.invokevirtual 34, 3) := by decide +kernel
theorem d_LW_cell_10 : decode b_LW_cell 10 = .ok (.i2l, 1) := by decide +kernel
theorem d_LW_cell_11 : decode b_LW_cell 11 = .ok (.lastore, 1) := by decide +kernel
theorem d_LW_cell_12 : decode b_LW_cell 12 = .ok (.goto (11), 3) := by decide +kernel
theorem d_LW_cell_15 : decode b_LW_cell 15 = .ok (.astore 5, 2) := by decide +kernel
theorem d_LW_cell_17 : decode b_LW_cell 17 = .ok (.iconst (1), 1) := by decide +kernel
theorem d_LW_cell_18 : decode b_LW_cell 18 = .ok (.ireturn, 1) := by decide +kernel
theorem d_LW_cell_19 : decode b_LW_cell 19 = .ok (.astore 5, 2) := by decide +kernel
theorem d_LW_cell_21 : decode b_LW_cell 21 = .ok (.iconst (2), 1) := by decide +kernel
theorem d_LW_cell_22 : decode b_LW_cell 22 = .ok (.ireturn, 1) := by decide +kernel
theorem d_LW_cell_23 : decode b_LW_cell 23 = .ok (.iconst (0), 1) := by decide +kernel
theorem d_LW_cell_24 : decode b_LW_cell 24 = .ok (.ireturn, 1) := by decide +kernel
theorem d_LW_keyFrom_0 : decode b_LW_keyFrom 0 = .ok (.aload_n 3, 1) := by decide +kernel
theorem d_LW_keyFrom_1 : decode b_LW_keyFrom 1 = .ok (.iconst (0), 1) := by decide +kernel
theorem d_LW_keyFrom_2 : decode b_LW_keyFrom 2 = .ok (.aload_n 0, 1) := by decide +kernel
theorem d_LW_keyFrom_3 : decode b_LW_keyFrom 3 = .ok (.iload_n 1, 1) := by decide +kernel
theorem d_LW_keyFrom_4 : decode b_LW_keyFrom 4 = .ok (.iload_n 2, 1) := by decide +kernel
theorem d_LW_keyFrom_5 : decode b_LW_keyFrom 5 = .ok (.invokevirtual 38, 3) := by decide +kernel
theorem d_LW_keyFrom_8 : decode b_LW_keyFrom 8 = .ok (.i2l, 1) := by decide +kernel
theorem d_LW_keyFrom_9 : decode b_LW_keyFrom 9 = .ok (.lastore, 1) := by decide +kernel
theorem d_LW_keyFrom_10 : decode b_LW_keyFrom 10 = .ok (.goto (11), 3) := by decide +kernel
theorem d_LW_keyFrom_13 : decode b_LW_keyFrom 13 = .ok (.astore 4, 2) := by decide +kernel
theorem d_LW_keyFrom_15 : decode b_LW_keyFrom 15 = .ok (.iconst (1), 1) := by decide +kernel
theorem d_LW_keyFrom_16 : decode b_LW_keyFrom 16 = .ok (.ireturn, 1) := by decide +kernel
theorem d_LW_keyFrom_17 : decode b_LW_keyFrom 17 = .ok (.astore 4, 2) := by decide +kernel
theorem d_LW_keyFrom_19 : decode b_LW_keyFrom 19 = .ok (.iconst (2), 1) := by decide +kernel
theorem d_LW_keyFrom_20 : decode b_LW_keyFrom 20 = .ok (.ireturn, 1) := by decide +kernel
theorem d_LW_keyFrom_21 : decode b_LW_keyFrom 21 = .ok (.iconst (0), 1) := by decide +kernel
theorem d_LW_keyFrom_22 : decode b_LW_keyFrom 22 = .ok (.ireturn, 1) := by decide +kernel
theorem d_LW_run_0 : decode b_LW_run 0 = .ok (.aload_n 2, 1) := by decide +kernel
theorem d_LW_run_1 : decode b_LW_run 1 = .ok (.iconst (0), 1) := by decide +kernel
theorem d_LW_run_2 : decode b_LW_run 2 = .ok (.aload_n 0, 1) := by decide +kernel
theorem d_LW_run_3 : decode b_LW_run 3 = .ok (.iload_n 1, 1) := by decide +kernel
theorem d_LW_run_4 : decode b_LW_run 4 = .ok (.invokevirtual 41, 3) := by decide +kernel
theorem d_LW_run_7 : decode b_LW_run 7 = .ok (.i2l, 1) := by decide +kernel
theorem d_LW_run_8 : decode b_LW_run 8 = .ok (.lastore, 1) := by decide +kernel
theorem d_LW_run_9 : decode b_LW_run 9 = .ok (.goto (12), 3) := by decide +kernel
theorem d_LW_run_12 : decode b_LW_run 12 = .ok (.astore_n 3, 1) := by decide +kernel
theorem d_LW_run_13 : decode b_LW_run 13 = .ok (.iconst (1), 1) := by decide +kernel
theorem d_LW_run_14 : decode b_LW_run 14 = .ok (.ireturn, 1) := by decide +kernel
theorem d_LW_run_15 : decode b_LW_run 15 = .ok (.astore_n 3, 1) := by decide +kernel
theorem d_LW_run_16 : decode b_LW_run 16 = .ok (.iconst (2), 1) := by decide +kernel
theorem d_LW_run_17 : decode b_LW_run 17 = .ok (.ireturn, 1) := by decide +kernel
theorem d_LW_run_18 : decode b_LW_run 18 = .ok (.astore_n 3, 1) := by decide +kernel
theorem d_LW_run_19 : decode b_LW_run 19 = .ok (.iconst (3), 1) := by decide +kernel
theorem d_LW_run_20 : decode b_LW_run 20 = .ok (.ireturn, 1) := by decide +kernel
theorem d_LW_run_21 : decode b_LW_run 21 = .ok (.iconst (0), 1) := by decide +kernel
theorem d_LW_run_22 : decode b_LW_run 22 = .ok (.ireturn, 1) := by decide +kernel
