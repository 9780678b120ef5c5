theorem dX0_init_0 : decode cX0_init 0 = .ok (.aload_n 0, 1) := by decide +kernel
theorem dX0_init_1 : decode cX0_init 1 = .ok (.invokespecial 3, 3) := by decide +kernel
theorem dX0_init_4 : decode cX0_init 4 = .ok (.aload_n 0, 1) := by decide +kernel
theorem dX0_init_5 : decode cX0_init 5 = .ok (.iconst 5, 1) := by decide +kernel
theorem dX0_init_6 : decode cX0_init 6 = .ok (.bipush 6, 2) := by decide +kernel
theorem dX0_init_8 : decode cX0_init 8 = .ok (.multianewarray 11 2, 4) := by decide +kernel
theorem dX0_init_12 : decode cX0_init 12 = .ok (.putfield 13, 3) := by decide +kernel
theorem dX0_init_15 : decode cX0_init 15 = .ok (.aload_n 0, 1) := by decide +kernel
theorem dX0_init_16 : decode cX0_init 16 = .ok (.bipush 6, 2) := by decide +kernel
theorem dX0_init_18 : decode cX0_init 18 = .ok (.bipush 6, 2) := by decide +kernel
theorem dX0_init_20 : decode cX0_init 20 = .ok (.multianewarray 16 2, 4) := by decide +kernel
theorem dX0_init_24 : decode cX0_init 24 = .ok (.putfield 18, 3) := by decide +kernel
theorem dX0_init_27 : decode cX0_init 27 = .ok (.aload_n 0, 1) := by decide +kernel
theorem dX0_init_28 : decode cX0_init 28 = .ok (.iconst 0, 1) := by decide +kernel
theorem dX0_init_29 : decode cX0_init 29 = .ok (.putfield 21, 3) := by decide +kernel
theorem dX0_init_32 : decode cX0_init 32 = .ok (.aload_n 0, 1) := by decide +kernel
theorem dX0_init_33 : decode cX0_init 33 = .ok (.lconst 1, 1) := by decide +kernel
theorem dX0_init_34 : decode cX0_init 34 = .ok (.putfield 25, 3) := by decide +kernel
theorem dX0_init_37 : decode cX0_init 37 = .ok (.return_, 1) := by decide +kernel
theorem dX0_add_0 : decode cX0_add 0 = .ok (.aload_n 0, 1) := by decide +kernel
theorem dX0_add_1 : decode cX0_add 1 = .ok (.getfield 21, 3) := by decide +kernel
theorem dX0_add_4 : decode cX0_add 4 = .ok (.ifCond .lt 11, 3) := by decide +kernel
theorem dX0_add_7 : decode cX0_add 7 = .ok (.aload_n 0, 1) := by decide +kernel
theorem dX0_add_8 : decode cX0_add 8 = .ok (.getfield 21, 3) := by decide +kernel
theorem dX0_add_11 : decode cX0_add 11 = .ok (.iconst 5, 1) := by decide +kernel
theorem dX0_add_12 : decode cX0_add 12 = .ok (.if_icmp .lt 5, 3) := by decide +kernel
theorem dX0_add_15 : decode cX0_add 15 = .ok (.iconst 0, 1) := by decide +kernel
theorem dX0_add_16 : decode cX0_add 16 = .ok (.ireturn, 1) := by decide +kernel
theorem dX0_add_17 : decode cX0_add 17 = .ok (.aload_n 1, 1) := by decide +kernel
theorem dX0_add_18 : decode cX0_add 18 = .ok (.aload_n 0, 1) := by decide +kernel
theorem dX0_add_19 : decode cX0_add 19 = .ok (.getfield 13, 3) := by decide +kernel
theorem dX0_add_22 : decode cX0_add 22 = .ok (.aload_n 0, 1) := by decide +kernel
theorem dX0_add_23 : decode cX0_add 23 = .ok (.getfield 21, 3) := by decide +kernel
theorem dX0_add_26 : decode cX0_add 26 = .ok (.aaload, 1) := by decide +kernel
theorem dX0_add_27 : decode cX0_add 27 = .ok (.invokestatic 29, 3) := by decide +kernel
theorem dX0_add_30 : decode cX0_add 30 = .ok (.aload_n 0, 1) := by decide +kernel
theorem dX0_add_31 : decode cX0_add 31 = .ok (.dup, 1) := by decide +kernel
theorem dX0_add_32 : decode cX0_add 32 = .ok (.getfield 21, 3) := by decide +kernel
theorem dX0_add_35 : decode cX0_add 35 = .ok (.iconst 1, 1) := by decide +kernel
theorem dX0_add_36 : decode cX0_add 36 = .ok (.iadd, 1) := by decide +kernel
theorem dX0_add_37 : decode cX0_add 37 = .ok (.putfield 21, 3) := by decide +kernel
theorem dX0_add_40 : decode cX0_add 40 = .ok (.iconst 1, 1) := by decide +kernel
theorem dX0_add_41 : decode cX0_add 41 = .ok (.ireturn, 1) := by decide +kernel
theorem dX0_findRank_0 : decode cX0_findRank 0 = .ok (.aload_n 0, 1) := by decide +kernel
theorem dX0_findRank_1 : decode cX0_findRank 1 = .ok (.invokevirtual 35, 3) := by decide +kernel
theorem dX0_findRank_4 : decode cX0_findRank 4 = .ok (.aload_n 0, 1) := by decide +kernel
theorem dX0_findRank_5 : decode cX0_findRank 5 = .ok (.aload_n 0, 1) := by decide +kernel
theorem dX0_findRank_6 : decode cX0_findRank 6 = .ok (.getfield 21, 3) := by decide +kernel
theorem dX0_findRank_9 : decode cX0_findRank 9 = .ok (.bipush 6, 2) := by decide +kernel
theorem dX0_findRank_11 : decode cX0_findRank 11 = .ok (.invokevirtual 38, 3) := by decide +kernel
theorem dX0_findRank_14 : decode cX0_findRank 14 = .ok (.ireturn, 1) := by decide +kernel
theorem dX0_spans_0 : decode cX0_spans 0 = .ok (.aload_n 0, 1) := by decide +kernel
theorem dX0_spans_1 : decode cX0_spans 1 = .ok (.invokevirtual 42, 3) := by decide +kernel
theorem dX0_spans_4 : decode cX0_spans 4 = .ok (.istore_n 2, 1) := by decide +kernel
theorem dX0_spans_5 : decode cX0_spans 5 = .ok (.aload_n 0, 1) := by decide +kernel
theorem dX0_spans_6 : decode cX0_spans 6 = .ok (.invokevirtual 35, 3) := by decide +kernel
theorem dX0_spans_9 : decode cX0_spans 9 = .ok (.iconst 0, 1) := by decide +kernel
theorem dX0_spans_10 : decode cX0_spans 10 = .ok (.istore_n 3, 1) := by decide +kernel
theorem dX0_spans_11 : decode cX0_spans 11 = .ok (.iload_n 3, 1) := by decide +kernel
theorem dX0_spans_12 : decode cX0_spans 12 = .ok (.bipush 6, 2) := by decide +kernel
theorem dX0_spans_14 : decode cX0_spans 14 = .ok (.if_icmp .ge 24, 3) := by decide +kernel
theorem dX0_spans_17 : decode cX0_spans 17 = .ok (.aload_n 0, 1) := by decide +kernel
theorem dX0_spans_18 : decode cX0_spans 18 = .ok (.getfield 18, 3) := by decide +kernel
theorem dX0_spans_21 : decode cX0_spans 21 = .ok (.aload_n 0, 1) := by decide +kernel
theorem dX0_spans_22 : decode cX0_spans 22 = .ok (.getfield 21, 3) := by decide +kernel
theorem dX0_spans_25 : decode cX0_spans 25 = .ok (.aaload, 1) := by decide +kernel
theorem dX0_spans_26 : decode cX0_spans 26 = .ok (.iload_n 3, 1) := by decide +kernel
theorem dX0_spans_27 : decode cX0_spans 27 = .ok (.aload_n 1, 1) := by decide +kernel
theorem dX0_spans_28 : decode cX0_spans 28 = .ok (.iload_n 3, 1) := by decide +kernel
theorem dX0_spans_29 : decode cX0_spans 29 = .ok (.iaload, 1) := by decide +kernel
theorem dX0_spans_30 : decode cX0_spans 30 = .ok (.i2l, 1) := by decide +kernel
theorem dX0_spans_31 : decode cX0_spans 31 = .ok (.lastore, 1) := by decide +kernel
theorem dX0_spans_32 : decode cX0_spans 32 = .ok (.iinc 3 1, 3) := by decide +kernel
theorem dX0_spans_35 : decode cX0_spans 35 = .ok (.goto (-24), 3) := by decide +kernel
theorem dX0_spans_38 : decode cX0_spans 38 = .ok (.aload_n 0, 1) := by decide +kernel
theorem dX0_spans_39 : decode cX0_spans 39 = .ok (.aload_n 0, 1) := by decide +kernel
theorem dX0_spans_40 : decode cX0_spans 40 = .ok (.getfield 21, 3) := by decide +kernel
theorem dX0_spans_43 : decode cX0_spans 43 = .ok (.iconst 1, 1) := by decide +kernel
theorem dX0_spans_44 : decode cX0_spans 44 = .ok (.iadd, 1) := by decide +kernel
theorem dX0_spans_45 : decode cX0_spans 45 = .ok (.bipush 6, 2) := by decide +kernel
theorem dX0_spans_47 : decode cX0_spans 47 = .ok (.invokevirtual 38, 3) := by decide +kernel
theorem dX0_spans_50 : decode cX0_spans 50 = .ok (.iload_n 2, 1) := by decide +kernel
theorem dX0_spans_51 : decode cX0_spans 51 = .ok (.if_icmp .ne 7, 3) := by decide +kernel
theorem dX0_spans_54 : decode cX0_spans 54 = .ok (.iconst 1, 1) := by decide +kernel
theorem dX0_spans_55 : decode cX0_spans 55 = .ok (.goto 4, 3) := by decide +kernel
theorem dX0_spans_58 : decode cX0_spans 58 = .ok (.iconst 0, 1) := by decide +kernel
theorem dX0_spans_59 : decode cX0_spans 59 = .ok (.ireturn, 1) := by decide +kernel
theorem dX0_findTwist_0 : decode cX0_findTwist 0 = .ok (.aload_n 0, 1) := by decide +kernel
theorem dX0_findTwist_1 : decode cX0_findTwist 1 = .ok (.invokevirtual 42, 3) := by decide +kernel
theorem dX0_findTwist_4 : decode cX0_findTwist 4 = .ok (.istore_n 1, 1) := by decide +kernel
theorem dX0_findTwist_5 : decode cX0_findTwist 5 = .ok (.iload_n 1, 1) := by decide +kernel
theorem dX0_findTwist_6 : decode cX0_findTwist 6 = .ok (.ifCond .ne 5, 3) := by decide +kernel
theorem dX0_findTwist_9 : decode cX0_findTwist 9 = .ok (.lconst 1, 1) := by decide +kernel
theorem dX0_findTwist_10 : decode cX0_findTwist 10 = .ok (.lreturn, 1) := by decide +kernel
theorem dX0_findTwist_11 : decode cX0_findTwist 11 = .ok (.lconst 0, 1) := by decide +kernel
theorem dX0_findTwist_12 : decode cX0_findTwist 12 = .ok (.lstore_n 2, 1) := by decide +kernel
theorem dX0_findTwist_13 : decode cX0_findTwist 13 = .ok (.iconst 0, 1) := by decide +kernel
theorem dX0_findTwist_14 : decode cX0_findTwist 14 = .ok (.istore 4, 2) := by decide +kernel
theorem dX0_findTwist_16 : decode cX0_findTwist 16 = .ok (.iload 4, 2) := by decide +kernel
theorem dX0_findTwist_18 : decode cX0_findTwist 18 = .ok (.iconst 1, 1) := by decide +kernel
theorem dX0_findTwist_19 : decode cX0_findTwist 19 = .ok (.aload_n 0, 1) := by decide +kernel
theorem dX0_findTwist_20 : decode cX0_findTwist 20 = .ok (.getfield 21, 3) := by decide +kernel
theorem dX0_findTwist_23 : decode cX0_findTwist 23 = .ok (.ishl, 1) := by decide +kernel
theorem dX0_findTwist_24 : decode cX0_findTwist 24 = .ok (.if_icmp .ge 63, 3) := by decide +kernel
theorem dX0_findTwist_27 : decode cX0_findTwist 27 = .ok (.iconst 0, 1) := by decide +kernel
theorem dX0_findTwist_28 : decode cX0_findTwist 28 = .ok (.istore 5, 2) := by decide +kernel
theorem dX0_findTwist_30 : decode cX0_findTwist 30 = .ok (.iload 5, 2) := by decide +kernel
theorem dX0_findTwist_32 : decode cX0_findTwist 32 = .ok (.bipush 64, 2) := by decide +kernel
theorem dX0_findTwist_34 : decode cX0_findTwist 34 = .ok (.if_icmp .ge 47, 3) := by decide +kernel
theorem dX0_findTwist_37 : decode cX0_findTwist 37 = .ok (.lload_n 2, 1) := by decide +kernel
theorem dX0_findTwist_38 : decode cX0_findTwist 38 = .ok (.lconst 1, 1) := by decide +kernel
theorem dX0_findTwist_39 : decode cX0_findTwist 39 = .ok (.lcmp, 1) := by decide +kernel
theorem dX0_findTwist_40 : decode cX0_findTwist 40 = .ok (.ifCond .eq 41, 3) := by decide +kernel
theorem dX0_findTwist_43 : decode cX0_findTwist 43 = .ok (.iload 4, 2) := by decide +kernel
theorem dX0_findTwist_45 : decode cX0_findTwist 45 = .ok (.invokestatic 46, 3) := by decide +kernel
theorem dX0_findTwist_48 : decode cX0_findTwist 48 = .ok (.iload_n 1, 1) := by decide +kernel
theorem dX0_findTwist_49 : decode cX0_findTwist 49 = .ok (.if_icmp .ne 26, 3) := by decide +kernel
theorem dX0_findTwist_52 : decode cX0_findTwist 52 = .ok (.iload 5, 2) := by decide +kernel
theorem dX0_findTwist_54 : decode cX0_findTwist 54 = .ok (.invokestatic 46, 3) := by decide +kernel
theorem dX0_findTwist_57 : decode cX0_findTwist 57 = .ok (.iload_n 1, 1) := by decide +kernel
theorem dX0_findTwist_58 : decode cX0_findTwist 58 = .ok (.if_icmp .ne 17, 3) := by decide +kernel
theorem dX0_findTwist_61 : decode cX0_findTwist 61 = .ok (.lload_n 2, 1) := by decide +kernel
theorem dX0_findTwist_62 : decode cX0_findTwist 62 = .ok (.aload_n 0, 1) := by decide +kernel
theorem dX0_findTwist_63 : decode cX0_findTwist 63 = .ok (.iload 4, 2) := by decide +kernel
theorem dX0_findTwist_65 : decode cX0_findTwist 65 = .ok (.iload 5, 2) := by decide +kernel
theorem dX0_findTwist_67 : decode cX0_findTwist 67 = .ok (.iload_n 1, 1) := by decide +kernel
theorem dX0_findTwist_68 : decode cX0_findTwist 68 = .ok (.invokevirtual 52, 3) := by decide +kernel
theorem dX0_findTwist_71 : decode cX0_findTwist 71 = .ok (.invokestatic 56, 3) := by decide +kernel
theorem dX0_findTwist_74 : decode cX0_findTwist 74 = .ok (.lstore_n 2, 1) := by decide +kernel
theorem dX0_findTwist_75 : decode cX0_findTwist 75 = .ok (.iinc 5 1, 3) := by decide +kernel
theorem dX0_findTwist_78 : decode cX0_findTwist 78 = .ok (.goto (-48), 3) := by decide +kernel
theorem dX0_findTwist_81 : decode cX0_findTwist 81 = .ok (.iinc 4 1, 3) := by decide +kernel
theorem dX0_findTwist_84 : decode cX0_findTwist 84 = .ok (.goto (-68), 3) := by decide +kernel
theorem dX0_findTwist_87 : decode cX0_findTwist 87 = .ok (.lload_n 2, 1) := by decide +kernel
theorem dX0_findTwist_88 : decode cX0_findTwist 88 = .ok (.lreturn, 1) := by decide +kernel
theorem dX0_firstSupport_0 : decode cX0_firstSupport 0 = .ok (.iload_n 1, 1) := by decide +kernel
theorem dX0_firstSupport_1 : decode cX0_firstSupport 1 = .ok (.istore_n 2, 1) := by decide +kernel
theorem dX0_firstSupport_2 : decode cX0_firstSupport 2 = .ok (.iload_n 2, 1) := by decide +kernel
theorem dX0_firstSupport_3 : decode cX0_firstSupport 3 = .ok (.bipush 99, 2) := by decide +kernel
theorem dX0_firstSupport_5 : decode cX0_firstSupport 5 = .ok (.if_icmp .gt 19, 3) := by decide +kernel
theorem dX0_firstSupport_8 : decode cX0_firstSupport 8 = .ok (.aload_n 0, 1) := by decide +kernel
theorem dX0_firstSupport_9 : decode cX0_firstSupport 9 = .ok (.iload_n 2, 1) := by decide +kernel
theorem dX0_firstSupport_10 : decode cX0_firstSupport 10 = .ok (.invokevirtual 62, 3) := by decide +kernel
theorem dX0_firstSupport_13 : decode cX0_firstSupport 13 = .ok (.ifCond .eq 5, 3) := by decide +kernel
theorem dX0_firstSupport_16 : decode cX0_firstSupport 16 = .ok (.iload_n 2, 1) := by decide +kernel
theorem dX0_firstSupport_17 : decode cX0_firstSupport 17 = .ok (.ireturn, 1) := by decide +kernel
theorem dX0_firstSupport_18 : decode cX0_firstSupport 18 = .ok (.iinc 2 1, 3) := by decide +kernel
theorem dX0_firstSupport_21 : decode cX0_firstSupport 21 = .ok (.goto (-19), 3) := by decide +kernel
theorem dX0_firstSupport_24 : decode cX0_firstSupport 24 = .ok (.iconst 0, 1) := by decide +kernel
theorem dX0_firstSupport_25 : decode cX0_firstSupport 25 = .ok (.ireturn, 1) := by decide +kernel
theorem dX0_isSupportedBy_0 : decode cX0_isSupportedBy 0 = .ok (.iconst 0, 1) := by decide +kernel
theorem dX0_isSupportedBy_1 : decode cX0_isSupportedBy 1 = .ok (.istore_n 2, 1) := by decide +kernel
theorem dX0_isSupportedBy_2 : decode cX0_isSupportedBy 2 = .ok (.iload_n 2, 1) := by decide +kernel
theorem dX0_isSupportedBy_3 : decode cX0_isSupportedBy 3 = .ok (.aload_n 0, 1) := by decide +kernel
theorem dX0_isSupportedBy_4 : decode cX0_isSupportedBy 4 = .ok (.getfield 21, 3) := by decide +kernel
theorem dX0_isSupportedBy_7 : decode cX0_isSupportedBy 7 = .ok (.if_icmp .ge 24, 3) := by decide +kernel
theorem dX0_isSupportedBy_10 : decode cX0_isSupportedBy 10 = .ok (.aload_n 0, 1) := by decide +kernel
theorem dX0_isSupportedBy_11 : decode cX0_isSupportedBy 11 = .ok (.getfield 13, 3) := by decide +kernel
theorem dX0_isSupportedBy_14 : decode cX0_isSupportedBy 14 = .ok (.iload_n 2, 1) := by decide +kernel
theorem dX0_isSupportedBy_15 : decode cX0_isSupportedBy 15 = .ok (.aaload, 1) := by decide +kernel
theorem dX0_isSupportedBy_16 : decode cX0_isSupportedBy 16 = .ok (.iload_n 1, 1) := by decide +kernel
theorem dX0_isSupportedBy_17 : decode cX0_isSupportedBy 17 = .ok (.invokestatic 66, 3) := by decide +kernel
theorem dX0_isSupportedBy_20 : decode cX0_isSupportedBy 20 = .ok (.ifCond .eq 5, 3) := by decide +kernel
theorem dX0_isSupportedBy_23 : decode cX0_isSupportedBy 23 = .ok (.iconst 0, 1) := by decide +kernel
theorem dX0_isSupportedBy_24 : decode cX0_isSupportedBy 24 = .ok (.ireturn, 1) := by decide +kernel
theorem dX0_isSupportedBy_25 : decode cX0_isSupportedBy 25 = .ok (.iinc 2 1, 3) := by decide +kernel
theorem dX0_isSupportedBy_28 : decode cX0_isSupportedBy 28 = .ok (.goto (-26), 3) := by decide +kernel
theorem dX0_isSupportedBy_31 : decode cX0_isSupportedBy 31 = .ok (.iconst 1, 1) := by decide +kernel
theorem dX0_isSupportedBy_32 : decode cX0_isSupportedBy 32 = .ok (.ireturn, 1) := by decide +kernel
theorem dX0_fillTable_0 : decode cX0_fillTable 0 = .ok (.iconst 0, 1) := by decide +kernel
theorem dX0_fillTable_1 : decode cX0_fillTable 1 = .ok (.istore_n 1, 1) := by decide +kernel
theorem dX0_fillTable_2 : decode cX0_fillTable 2 = .ok (.iload_n 1, 1) := by decide +kernel
theorem dX0_fillTable_3 : decode cX0_fillTable 3 = .ok (.aload_n 0, 1) := by decide +kernel
theorem dX0_fillTable_4 : decode cX0_fillTable 4 = .ok (.getfield 21, 3) := by decide +kernel
theorem dX0_fillTable_7 : decode cX0_fillTable 7 = .ok (.if_icmp .ge 40, 3) := by decide +kernel
theorem dX0_fillTable_10 : decode cX0_fillTable 10 = .ok (.iconst 0, 1) := by decide +kernel
theorem dX0_fillTable_11 : decode cX0_fillTable 11 = .ok (.istore_n 2, 1) := by decide +kernel
theorem dX0_fillTable_12 : decode cX0_fillTable 12 = .ok (.iload_n 2, 1) := by decide +kernel
theorem dX0_fillTable_13 : decode cX0_fillTable 13 = .ok (.bipush 6, 2) := by decide +kernel
theorem dX0_fillTable_15 : decode cX0_fillTable 15 = .ok (.if_icmp .ge 26, 3) := by decide +kernel
theorem dX0_fillTable_18 : decode cX0_fillTable 18 = .ok (.aload_n 0, 1) := by decide +kernel
theorem dX0_fillTable_19 : decode cX0_fillTable 19 = .ok (.getfield 18, 3) := by decide +kernel
theorem dX0_fillTable_22 : decode cX0_fillTable 22 = .ok (.iload_n 1, 1) := by decide +kernel
theorem dX0_fillTable_23 : decode cX0_fillTable 23 = .ok (.aaload, 1) := by decide +kernel
theorem dX0_fillTable_24 : decode cX0_fillTable 24 = .ok (.iload_n 2, 1) := by decide +kernel
theorem dX0_fillTable_25 : decode cX0_fillTable 25 = .ok (.aload_n 0, 1) := by decide +kernel
theorem dX0_fillTable_26 : decode cX0_fillTable 26 = .ok (.getfield 13, 3) := by decide +kernel
theorem dX0_fillTable_29 : decode cX0_fillTable 29 = .ok (.iload_n 1, 1) := by decide +kernel
theorem dX0_fillTable_30 : decode cX0_fillTable 30 = .ok (.aaload, 1) := by decide +kernel
theorem dX0_fillTable_31 : decode cX0_fillTable 31 = .ok (.iload_n 2, 1) := by decide +kernel
theorem dX0_fillTable_32 : decode cX0_fillTable 32 = .ok (.iaload, 1) := by decide +kernel
theorem dX0_fillTable_33 : decode cX0_fillTable 33 = .ok (.i2l, 1) := by decide +kernel
theorem dX0_fillTable_34 : decode cX0_fillTable 34 = .ok (.lastore, 1) := by decide +kernel
theorem dX0_fillTable_35 : decode cX0_fillTable 35 = .ok (.iinc 2 1, 3) := by decide +kernel
theorem dX0_fillTable_38 : decode cX0_fillTable 38 = .ok (.goto (-26), 3) := by decide +kernel
theorem dX0_fillTable_41 : decode cX0_fillTable 41 = .ok (.iinc 1 1, 3) := by decide +kernel
theorem dX0_fillTable_44 : decode cX0_fillTable 44 = .ok (.goto (-42), 3) := by decide +kernel
theorem dX0_fillTable_47 : decode cX0_fillTable 47 = .ok (.return_, 1) := by decide +kernel
theorem dX0_determinant_0 : decode cX0_determinant 0 = .ok (.iconst 0, 1) := by decide +kernel
theorem dX0_determinant_1 : decode cX0_determinant 1 = .ok (.istore 4, 2) := by decide +kernel
theorem dX0_determinant_3 : decode cX0_determinant 3 = .ok (.iconst 0, 1) := by decide +kernel
theorem dX0_determinant_4 : decode cX0_determinant 4 = .ok (.istore 5, 2) := by decide +kernel
theorem dX0_determinant_6 : decode cX0_determinant 6 = .ok (.iload 5, 2) := by decide +kernel
theorem dX0_determinant_8 : decode cX0_determinant 8 = .ok (.aload_n 0, 1) := by decide +kernel
theorem dX0_determinant_9 : decode cX0_determinant 9 = .ok (.getfield 21, 3) := by decide +kernel
theorem dX0_determinant_12 : decode cX0_determinant 12 = .ok (.if_icmp .ge 73, 3) := by decide +kernel
theorem dX0_determinant_15 : decode cX0_determinant 15 = .ok (.iload_n 1, 1) := by decide +kernel
theorem dX0_determinant_16 : decode cX0_determinant 16 = .ok (.iload 5, 2) := by decide +kernel
theorem dX0_determinant_18 : decode cX0_determinant 18 = .ok (.ishr, 1) := by decide +kernel
theorem dX0_determinant_19 : decode cX0_determinant 19 = .ok (.iconst 1, 1) := by decide +kernel
theorem dX0_determinant_20 : decode cX0_determinant 20 = .ok (.iand, 1) := by decide +kernel
theorem dX0_determinant_21 : decode cX0_determinant 21 = .ok (.ifCond .eq 58, 3) := by decide +kernel
theorem dX0_determinant_24 : decode cX0_determinant 24 = .ok (.iconst 0, 1) := by decide +kernel
theorem dX0_determinant_25 : decode cX0_determinant 25 = .ok (.istore 6, 2) := by decide +kernel
theorem dX0_determinant_27 : decode cX0_determinant 27 = .ok (.iconst 0, 1) := by decide +kernel
theorem dX0_determinant_28 : decode cX0_determinant 28 = .ok (.istore 7, 2) := by decide +kernel
theorem dX0_determinant_30 : decode cX0_determinant 30 = .ok (.iload 7, 2) := by decide +kernel
theorem dX0_determinant_32 : decode cX0_determinant 32 = .ok (.bipush 6, 2) := by decide +kernel
theorem dX0_determinant_34 : decode cX0_determinant 34 = .ok (.if_icmp .ge 42, 3) := by decide +kernel
theorem dX0_determinant_37 : decode cX0_determinant 37 = .ok (.iload_n 2, 1) := by decide +kernel
theorem dX0_determinant_38 : decode cX0_determinant 38 = .ok (.iload 7, 2) := by decide +kernel
theorem dX0_determinant_40 : decode cX0_determinant 40 = .ok (.ishr, 1) := by decide +kernel
theorem dX0_determinant_41 : decode cX0_determinant 41 = .ok (.iconst 1, 1) := by decide +kernel
theorem dX0_determinant_42 : decode cX0_determinant 42 = .ok (.iand, 1) := by decide +kernel
theorem dX0_determinant_43 : decode cX0_determinant 43 = .ok (.ifCond .eq 27, 3) := by decide +kernel
theorem dX0_determinant_46 : decode cX0_determinant 46 = .ok (.aload_n 0, 1) := by decide +kernel
theorem dX0_determinant_47 : decode cX0_determinant 47 = .ok (.getfield 18, 3) := by decide +kernel
theorem dX0_determinant_50 : decode cX0_determinant 50 = .ok (.iload 4, 2) := by decide +kernel
theorem dX0_determinant_52 : decode cX0_determinant 52 = .ok (.aaload, 1) := by decide +kernel
theorem dX0_determinant_53 : decode cX0_determinant 53 = .ok (.iload 6, 2) := by decide +kernel
theorem dX0_determinant_55 : decode cX0_determinant 55 = .ok (.aload_n 0, 1) := by decide +kernel
theorem dX0_determinant_56 : decode cX0_determinant 56 = .ok (.getfield 13, 3) := by decide +kernel
theorem dX0_determinant_59 : decode cX0_determinant 59 = .ok (.iload 5, 2) := by decide +kernel
theorem dX0_determinant_61 : decode cX0_determinant 61 = .ok (.aaload, 1) := by decide +kernel
theorem dX0_determinant_62 : decode cX0_determinant 62 = .ok (.iload 7, 2) := by decide +kernel
theorem dX0_determinant_64 : decode cX0_determinant 64 = .ok (.iaload, 1) := by decide +kernel
theorem dX0_determinant_65 : decode cX0_determinant 65 = .ok (.i2l, 1) := by decide +kernel
theorem dX0_determinant_66 : decode cX0_determinant 66 = .ok (.lastore, 1) := by decide +kernel
theorem dX0_determinant_67 : decode cX0_determinant 67 = .ok (.iinc 6 1, 3) := by decide +kernel
theorem dX0_determinant_70 : decode cX0_determinant 70 = .ok (.iinc 7 1, 3) := by decide +kernel
theorem dX0_determinant_73 : decode cX0_determinant 73 = .ok (.goto (-43), 3) := by decide +kernel
theorem dX0_determinant_76 : decode cX0_determinant 76 = .ok (.iinc 4 1, 3) := by decide +kernel
theorem dX0_determinant_79 : decode cX0_determinant 79 = .ok (.iinc 5 1, 3) := by decide +kernel
theorem dX0_determinant_82 : decode cX0_determinant 82 = .ok (.goto (-76), 3) := by decide +kernel
theorem dX0_determinant_85 : decode cX0_determinant 85 = .ok (.aload_n 0, 1) := by decide +kernel
theorem dX0_determinant_86 : decode cX0_determinant 86 = .ok (.iload_n 3, 1) := by decide +kernel
theorem dX0_determinant_87 : decode cX0_determinant 87 = .ok (.iload_n 3, 1) := by decide +kernel
theorem dX0_determinant_88 : decode cX0_determinant 88 = .ok (.invokevirtual 38, 3) := by decide +kernel
theorem dX0_determinant_91 : decode cX0_determinant 91 = .ok (.iload_n 3, 1) := by decide +kernel
theorem dX0_determinant_92 : decode cX0_determinant 92 = .ok (.if_icmp .ne 13, 3) := by decide +kernel
theorem dX0_determinant_95 : decode cX0_determinant 95 = .ok (.aload_n 0, 1) := by decide +kernel
theorem dX0_determinant_96 : decode cX0_determinant 96 = .ok (.getfield 25, 3) := by decide +kernel
theorem dX0_determinant_99 : decode cX0_determinant 99 = .ok (.invokestatic 70, 3) := by decide +kernel
theorem dX0_determinant_102 : decode cX0_determinant 102 = .ok (.goto 4, 3) := by decide +kernel
theorem dX0_determinant_105 : decode cX0_determinant 105 = .ok (.lconst 0, 1) := by decide +kernel
theorem dX0_determinant_106 : decode cX0_determinant 106 = .ok (.lreturn, 1) := by decide +kernel
theorem dX0_eliminate_0 : decode cX0_eliminate 0 = .ok (.iconst 0, 1) := by decide +kernel
theorem dX0_eliminate_1 : decode cX0_eliminate 1 = .ok (.istore_n 3, 1) := by decide +kernel
theorem dX0_eliminate_2 : decode cX0_eliminate 2 = .ok (.aload_n 0, 1) := by decide +kernel
theorem dX0_eliminate_3 : decode cX0_eliminate 3 = .ok (.lconst 1, 1) := by decide +kernel
theorem dX0_eliminate_4 : decode cX0_eliminate 4 = .ok (.putfield 25, 3) := by decide +kernel
theorem dX0_eliminate_7 : decode cX0_eliminate 7 = .ok (.iconst 0, 1) := by decide +kernel
theorem dX0_eliminate_8 : decode cX0_eliminate 8 = .ok (.istore 4, 2) := by decide +kernel
theorem dX0_eliminate_10 : decode cX0_eliminate 10 = .ok (.iload 4, 2) := by decide +kernel
theorem dX0_eliminate_12 : decode cX0_eliminate 12 = .ok (.iload_n 2, 1) := by decide +kernel
theorem dX0_eliminate_13 : decode cX0_eliminate 13 = .ok (.if_icmp .ge 82, 3) := by decide +kernel
theorem dX0_eliminate_16 : decode cX0_eliminate 16 = .ok (.iload_n 3, 1) := by decide +kernel
theorem dX0_eliminate_17 : decode cX0_eliminate 17 = .ok (.iload_n 1, 1) := by decide +kernel
theorem dX0_eliminate_18 : decode cX0_eliminate 18 = .ok (.if_icmp .ge 77, 3) := by decide +kernel
theorem dX0_eliminate_21 : decode cX0_eliminate 21 = .ok (.aload_n 0, 1) := by decide +kernel
theorem dX0_eliminate_22 : decode cX0_eliminate 22 = .ok (.iload_n 3, 1) := by decide +kernel
theorem dX0_eliminate_23 : decode cX0_eliminate 23 = .ok (.iload_n 1, 1) := by decide +kernel
theorem dX0_eliminate_24 : decode cX0_eliminate 24 = .ok (.iload 4, 2) := by decide +kernel
theorem dX0_eliminate_26 : decode cX0_eliminate 26 = .ok (.invokevirtual 76, 3) := by decide +kernel
theorem dX0_eliminate_29 : decode cX0_eliminate 29 = .ok (.ifCond .eq 60, 3) := by decide +kernel
theorem dX0_eliminate_32 : decode cX0_eliminate 32 = .ok (.aload_n 0, 1) := by decide +kernel
theorem dX0_eliminate_33 : decode cX0_eliminate 33 = .ok (.getfield 18, 3) := by decide +kernel
theorem dX0_eliminate_36 : decode cX0_eliminate 36 = .ok (.iload_n 3, 1) := by decide +kernel
theorem dX0_eliminate_37 : decode cX0_eliminate 37 = .ok (.aaload, 1) := by decide +kernel
theorem dX0_eliminate_38 : decode cX0_eliminate 38 = .ok (.iload 4, 2) := by decide +kernel
theorem dX0_eliminate_40 : decode cX0_eliminate 40 = .ok (.laload, 1) := by decide +kernel
theorem dX0_eliminate_41 : decode cX0_eliminate 41 = .ok (.lstore 5, 2) := by decide +kernel
theorem dX0_eliminate_43 : decode cX0_eliminate 43 = .ok (.iload_n 3, 1) := by decide +kernel
theorem dX0_eliminate_44 : decode cX0_eliminate 44 = .ok (.iconst 1, 1) := by decide +kernel
theorem dX0_eliminate_45 : decode cX0_eliminate 45 = .ok (.iadd, 1) := by decide +kernel
theorem dX0_eliminate_46 : decode cX0_eliminate 46 = .ok (.istore 7, 2) := by decide +kernel
theorem dX0_eliminate_48 : decode cX0_eliminate 48 = .ok (.iload 7, 2) := by decide +kernel
theorem dX0_eliminate_50 : decode cX0_eliminate 50 = .ok (.iload_n 1, 1) := by decide +kernel
theorem dX0_eliminate_51 : decode cX0_eliminate 51 = .ok (.if_icmp .ge 29, 3) := by decide +kernel
theorem dX0_eliminate_54 : decode cX0_eliminate 54 = .ok (.aload_n 0, 1) := by decide +kernel
theorem dX0_eliminate_55 : decode cX0_eliminate 55 = .ok (.aload_n 0, 1) := by decide +kernel
theorem dX0_eliminate_56 : decode cX0_eliminate 56 = .ok (.getfield 18, 3) := by decide +kernel
theorem dX0_eliminate_59 : decode cX0_eliminate 59 = .ok (.iload 7, 2) := by decide +kernel
theorem dX0_eliminate_61 : decode cX0_eliminate 61 = .ok (.aaload, 1) := by decide +kernel
theorem dX0_eliminate_62 : decode cX0_eliminate 62 = .ok (.aload_n 0, 1) := by decide +kernel
theorem dX0_eliminate_63 : decode cX0_eliminate 63 = .ok (.getfield 18, 3) := by decide +kernel
theorem dX0_eliminate_66 : decode cX0_eliminate 66 = .ok (.iload_n 3, 1) := by decide +kernel
theorem dX0_eliminate_67 : decode cX0_eliminate 67 = .ok (.aaload, 1) := by decide +kernel
theorem dX0_eliminate_68 : decode cX0_eliminate 68 = .ok (.iload 4, 2) := by decide +kernel
theorem dX0_eliminate_70 : decode cX0_eliminate 70 = .ok (.iload_n 2, 1) := by decide +kernel
theorem dX0_eliminate_71 : decode cX0_eliminate 71 = .ok (.invokevirtual 80, 3) := by decide +kernel
theorem dX0_eliminate_74 : decode cX0_eliminate 74 = .ok (.iinc 7 1, 3) := by decide +kernel
theorem dX0_eliminate_77 : decode cX0_eliminate 77 = .ok (.goto (-29), 3) := by decide +kernel
theorem dX0_eliminate_80 : decode cX0_eliminate 80 = .ok (.aload_n 0, 1) := by decide +kernel
theorem dX0_eliminate_81 : decode cX0_eliminate 81 = .ok (.lload 5, 2) := by decide +kernel
theorem dX0_eliminate_83 : decode cX0_eliminate 83 = .ok (.putfield 25, 3) := by decide +kernel
theorem dX0_eliminate_86 : decode cX0_eliminate 86 = .ok (.iinc 3 1, 3) := by decide +kernel
theorem dX0_eliminate_89 : decode cX0_eliminate 89 = .ok (.iinc 4 1, 3) := by decide +kernel
theorem dX0_eliminate_92 : decode cX0_eliminate 92 = .ok (.goto (-82), 3) := by decide +kernel
theorem dX0_eliminate_95 : decode cX0_eliminate 95 = .ok (.iload_n 3, 1) := by decide +kernel
theorem dX0_eliminate_96 : decode cX0_eliminate 96 = .ok (.ireturn, 1) := by decide +kernel
theorem dX0_raisePivot_0 : decode cX0_raisePivot 0 = .ok (.iload_n 1, 1) := by decide +kernel
theorem dX0_raisePivot_1 : decode cX0_raisePivot 1 = .ok (.istore 4, 2) := by decide +kernel
theorem dX0_raisePivot_3 : decode cX0_raisePivot 3 = .ok (.iload 4, 2) := by decide +kernel
theorem dX0_raisePivot_5 : decode cX0_raisePivot 5 = .ok (.iload_n 2, 1) := by decide +kernel
theorem dX0_raisePivot_6 : decode cX0_raisePivot 6 = .ok (.if_icmp .ge 55, 3) := by decide +kernel
theorem dX0_raisePivot_9 : decode cX0_raisePivot 9 = .ok (.aload_n 0, 1) := by decide +kernel
theorem dX0_raisePivot_10 : decode cX0_raisePivot 10 = .ok (.getfield 18, 3) := by decide +kernel
theorem dX0_raisePivot_13 : decode cX0_raisePivot 13 = .ok (.iload 4, 2) := by decide +kernel
theorem dX0_raisePivot_15 : decode cX0_raisePivot 15 = .ok (.aaload, 1) := by decide +kernel
theorem dX0_raisePivot_16 : decode cX0_raisePivot 16 = .ok (.iload_n 3, 1) := by decide +kernel
theorem dX0_raisePivot_17 : decode cX0_raisePivot 17 = .ok (.laload, 1) := by decide +kernel
theorem dX0_raisePivot_18 : decode cX0_raisePivot 18 = .ok (.lconst 0, 1) := by decide +kernel
theorem dX0_raisePivot_19 : decode cX0_raisePivot 19 = .ok (.lcmp, 1) := by decide +kernel
theorem dX0_raisePivot_20 : decode cX0_raisePivot 20 = .ok (.ifCond .eq 35, 3) := by decide +kernel
theorem dX0_raisePivot_23 : decode cX0_raisePivot 23 = .ok (.aload_n 0, 1) := by decide +kernel
theorem dX0_raisePivot_24 : decode cX0_raisePivot 24 = .ok (.getfield 18, 3) := by decide +kernel
theorem dX0_raisePivot_27 : decode cX0_raisePivot 27 = .ok (.iload 4, 2) := by decide +kernel
theorem dX0_raisePivot_29 : decode cX0_raisePivot 29 = .ok (.aaload, 1) := by decide +kernel
theorem dX0_raisePivot_30 : decode cX0_raisePivot 30 = .ok (.astore 5, 2) := by decide +kernel
theorem dX0_raisePivot_32 : decode cX0_raisePivot 32 = .ok (.aload_n 0, 1) := by decide +kernel
theorem dX0_raisePivot_33 : decode cX0_raisePivot 33 = .ok (.getfield 18, 3) := by decide +kernel
theorem dX0_raisePivot_36 : decode cX0_raisePivot 36 = .ok (.iload 4, 2) := by decide +kernel
theorem dX0_raisePivot_38 : decode cX0_raisePivot 38 = .ok (.aload_n 0, 1) := by decide +kernel
theorem dX0_raisePivot_39 : decode cX0_raisePivot 39 = .ok (.getfield 18, 3) := by decide +kernel
theorem dX0_raisePivot_42 : decode cX0_raisePivot 42 = .ok (.iload_n 1, 1) := by decide +kernel
theorem dX0_raisePivot_43 : decode cX0_raisePivot 43 = .ok (.aaload, 1) := by decide +kernel
theorem dX0_raisePivot_44 : decode cX0_raisePivot 44 = .ok (.aastore, 1) := by decide +kernel
theorem dX0_raisePivot_45 : decode cX0_raisePivot 45 = .ok (.aload_n 0, 1) := by decide +kernel
theorem dX0_raisePivot_46 : decode cX0_raisePivot 46 = .ok (.getfield 18, 3) := by decide +kernel
theorem dX0_raisePivot_49 : decode cX0_raisePivot 49 = .ok (.iload_n 1, 1) := by decide +kernel
theorem dX0_raisePivot_50 : decode cX0_raisePivot 50 = .ok (.aload 5, 2) := by decide +kernel
theorem dX0_raisePivot_52 : decode cX0_raisePivot 52 = .ok (.aastore, 1) := by decide +kernel
theorem dX0_raisePivot_53 : decode cX0_raisePivot 53 = .ok (.iconst 1, 1) := by decide +kernel
theorem dX0_raisePivot_54 : decode cX0_raisePivot 54 = .ok (.ireturn, 1) := by decide +kernel
theorem dX0_raisePivot_55 : decode cX0_raisePivot 55 = .ok (.iinc 4 1, 3) := by decide +kernel
theorem dX0_raisePivot_58 : decode cX0_raisePivot 58 = .ok (.goto (-55), 3) := by decide +kernel
theorem dX0_raisePivot_61 : decode cX0_raisePivot 61 = .ok (.iconst 0, 1) := by decide +kernel
theorem dX0_raisePivot_62 : decode cX0_raisePivot 62 = .ok (.ireturn, 1) := by decide +kernel
theorem dX0_reduceLine_0 : decode cX0_reduceLine 0 = .ok (.aload_n 0, 1) := by decide +kernel
theorem dX0_reduceLine_1 : decode cX0_reduceLine 1 = .ok (.getfield 25, 3) := by decide +kernel
theorem dX0_reduceLine_4 : decode cX0_reduceLine 4 = .ok (.lconst 0, 1) := by decide +kernel
theorem dX0_reduceLine_5 : decode cX0_reduceLine 5 = .ok (.lcmp, 1) := by decide +kernel
theorem dX0_reduceLine_6 : decode cX0_reduceLine 6 = .ok (.ifCond .ne 4, 3) := by decide +kernel
theorem dX0_reduceLine_9 : decode cX0_reduceLine 9 = .ok (.return_, 1) := by decide +kernel
theorem dX0_reduceLine_10 : decode cX0_reduceLine 10 = .ok (.aload_n 1, 1) := by decide +kernel
theorem dX0_reduceLine_11 : decode cX0_reduceLine 11 = .ok (.iload_n 3, 1) := by decide +kernel
theorem dX0_reduceLine_12 : decode cX0_reduceLine 12 = .ok (.laload, 1) := by decide +kernel
theorem dX0_reduceLine_13 : decode cX0_reduceLine 13 = .ok (.lstore 5, 2) := by decide +kernel
theorem dX0_reduceLine_15 : decode cX0_reduceLine 15 = .ok (.iload_n 3, 1) := by decide +kernel
theorem dX0_reduceLine_16 : decode cX0_reduceLine 16 = .ok (.istore 7, 2) := by decide +kernel
theorem dX0_reduceLine_18 : decode cX0_reduceLine 18 = .ok (.iload 7, 2) := by decide +kernel
theorem dX0_reduceLine_20 : decode cX0_reduceLine 20 = .ok (.iload 4, 2) := by decide +kernel
theorem dX0_reduceLine_22 : decode cX0_reduceLine 22 = .ok (.if_icmp .ge 34, 3) := by decide +kernel
theorem dX0_reduceLine_25 : decode cX0_reduceLine 25 = .ok (.aload_n 1, 1) := by decide +kernel
theorem dX0_reduceLine_26 : decode cX0_reduceLine 26 = .ok (.iload 7, 2) := by decide +kernel
theorem dX0_reduceLine_28 : decode cX0_reduceLine 28 = .ok (.aload_n 1, 1) := by decide +kernel
theorem dX0_reduceLine_29 : decode cX0_reduceLine 29 = .ok (.iload 7, 2) := by decide +kernel
theorem dX0_reduceLine_31 : decode cX0_reduceLine 31 = .ok (.laload, 1) := by decide +kernel
theorem dX0_reduceLine_32 : decode cX0_reduceLine 32 = .ok (.aload_n 2, 1) := by decide +kernel
theorem dX0_reduceLine_33 : decode cX0_reduceLine 33 = .ok (.iload_n 3, 1) := by decide +kernel
theorem dX0_reduceLine_34 : decode cX0_reduceLine 34 = .ok (.laload, 1) := by decide +kernel
theorem dX0_reduceLine_35 : decode cX0_reduceLine 35 = .ok (.lmul, 1) := by decide +kernel
theorem dX0_reduceLine_36 : decode cX0_reduceLine 36 = .ok (.lload 5, 2) := by decide +kernel
theorem dX0_reduceLine_38 : decode cX0_reduceLine 38 = .ok (.aload_n 2, 1) := by decide +kernel
theorem dX0_reduceLine_39 : decode cX0_reduceLine 39 = .ok (.iload 7, 2) := by decide +kernel
theorem dX0_reduceLine_41 : decode cX0_reduceLine 41 = .ok (.laload, 1) := by decide +kernel
theorem dX0_reduceLine_42 : decode cX0_reduceLine 42 = .ok (.lmul, 1) := by decide +kernel
theorem dX0_reduceLine_43 : decode cX0_reduceLine 43 = .ok (.lsub, 1) := by decide +kernel
theorem dX0_reduceLine_44 : decode cX0_reduceLine 44 = .ok (.aload_n 0, 1) := by decide +kernel
theorem dX0_reduceLine_45 : decode cX0_reduceLine 45 = .ok (.getfield 25, 3) := by decide +kernel
theorem dX0_reduceLine_48 : decode cX0_reduceLine 48 = .ok (.ldiv, 1) := by decide +kernel
theorem dX0_reduceLine_49 : decode cX0_reduceLine 49 = .ok (.lastore, 1) := by decide +kernel
theorem dX0_reduceLine_50 : decode cX0_reduceLine 50 = .ok (.iinc 7 1, 3) := by decide +kernel
theorem dX0_reduceLine_53 : decode cX0_reduceLine 53 = .ok (.goto (-35), 3) := by decide +kernel
theorem dX0_reduceLine_56 : decode cX0_reduceLine 56 = .ok (.return_, 1) := by decide +kernel
theorem dX1_isDivision_0 : decode cX1_isDivision 0 = .ok (.iload_n 0, 1) := by decide +kernel
theorem dX1_isDivision_1 : decode cX1_isDivision 1 = .ok (.iconst 1, 1) := by decide +kernel
theorem dX1_isDivision_2 : decode cX1_isDivision 2 = .ok (.if_icmp .lt 13, 3) := by decide +kernel
theorem dX1_isDivision_5 : decode cX1_isDivision 5 = .ok (.iload_n 0, 1) := by decide +kernel
theorem dX1_isDivision_6 : decode cX1_isDivision 6 = .ok (.bipush 99, 2) := by decide +kernel
theorem dX1_isDivision_8 : decode cX1_isDivision 8 = .ok (.if_icmp .gt 7, 3) := by decide +kernel
theorem dX1_isDivision_11 : decode cX1_isDivision 11 = .ok (.iconst 1, 1) := by decide +kernel
theorem dX1_isDivision_12 : decode cX1_isDivision 12 = .ok (.goto 4, 3) := by decide +kernel
theorem dX1_isDivision_15 : decode cX1_isDivision 15 = .ok (.iconst 0, 1) := by decide +kernel
theorem dX1_isDivision_16 : decode cX1_isDivision 16 = .ok (.ireturn, 1) := by decide +kernel
theorem dX1_nearest_0 : decode cX1_nearest 0 = .ok (.iload_n 1, 1) := by decide +kernel
theorem dX1_nearest_1 : decode cX1_nearest 1 = .ok (.invokestatic 11, 3) := by decide +kernel
theorem dX1_nearest_4 : decode cX1_nearest 4 = .ok (.ifCond .ne 5, 3) := by decide +kernel
theorem dX1_nearest_7 : decode cX1_nearest 7 = .ok (.iconst 0, 1) := by decide +kernel
theorem dX1_nearest_8 : decode cX1_nearest 8 = .ok (.ireturn, 1) := by decide +kernel
theorem dX1_nearest_9 : decode cX1_nearest 9 = .ok (.iconst 2, 1) := by decide +kernel
theorem dX1_nearest_10 : decode cX1_nearest 10 = .ok (.iload_n 0, 1) := by decide +kernel
theorem dX1_nearest_11 : decode cX1_nearest 11 = .ok (.imul, 1) := by decide +kernel
theorem dX1_nearest_12 : decode cX1_nearest 12 = .ok (.i2l, 1) := by decide +kernel
theorem dX1_nearest_13 : decode cX1_nearest 13 = .ok (.getstatic 15, 3) := by decide +kernel
theorem dX1_nearest_16 : decode cX1_nearest 16 = .ok (.iload_n 1, 1) := by decide +kernel
theorem dX1_nearest_17 : decode cX1_nearest 17 = .ok (.laload, 1) := by decide +kernel
theorem dX1_nearest_18 : decode cX1_nearest 18 = .ok (.lmul, 1) := by decide +kernel
theorem dX1_nearest_19 : decode cX1_nearest 19 = .ok (.ldc2_w 19, 3) := by decide +kernel
theorem dX1_nearest_22 : decode cX1_nearest 22 = .ok (.ladd, 1) := by decide +kernel
theorem dX1_nearest_23 : decode cX1_nearest 23 = .ok (.ldc2_w 21, 3) := by decide +kernel
theorem dX1_nearest_26 : decode cX1_nearest 26 = .ok (.ldiv, 1) := by decide +kernel
theorem dX1_nearest_27 : decode cX1_nearest 27 = .ok (.l2i, 1) := by decide +kernel
theorem dX1_nearest_28 : decode cX1_nearest 28 = .ok (.ireturn, 1) := by decide +kernel
theorem dX1_stepsOf_0 : decode cX1_stepsOf 0 = .ok (.iconst 0, 1) := by decide +kernel
theorem dX1_stepsOf_1 : decode cX1_stepsOf 1 = .ok (.istore_n 2, 1) := by decide +kernel
theorem dX1_stepsOf_2 : decode cX1_stepsOf 2 = .ok (.iconst 0, 1) := by decide +kernel
theorem dX1_stepsOf_3 : decode cX1_stepsOf 3 = .ok (.istore_n 3, 1) := by decide +kernel
theorem dX1_stepsOf_4 : decode cX1_stepsOf 4 = .ok (.iload_n 3, 1) := by decide +kernel
theorem dX1_stepsOf_5 : decode cX1_stepsOf 5 = .ok (.bipush 6, 2) := by decide +kernel
theorem dX1_stepsOf_7 : decode cX1_stepsOf 7 = .ok (.if_icmp .ge 27, 3) := by decide +kernel
theorem dX1_stepsOf_10 : decode cX1_stepsOf 10 = .ok (.aload_n 0, 1) := by decide +kernel
theorem dX1_stepsOf_11 : decode cX1_stepsOf 11 = .ok (.iload_n 3, 1) := by decide +kernel
theorem dX1_stepsOf_12 : decode cX1_stepsOf 12 = .ok (.iaload, 1) := by decide +kernel
theorem dX1_stepsOf_13 : decode cX1_stepsOf 13 = .ok (.ifCond .eq 15, 3) := by decide +kernel
theorem dX1_stepsOf_16 : decode cX1_stepsOf 16 = .ok (.iload_n 2, 1) := by decide +kernel
theorem dX1_stepsOf_17 : decode cX1_stepsOf 17 = .ok (.aload_n 0, 1) := by decide +kernel
theorem dX1_stepsOf_18 : decode cX1_stepsOf 18 = .ok (.iload_n 3, 1) := by decide +kernel
theorem dX1_stepsOf_19 : decode cX1_stepsOf 19 = .ok (.iaload, 1) := by decide +kernel
theorem dX1_stepsOf_20 : decode cX1_stepsOf 20 = .ok (.iload_n 1, 1) := by decide +kernel
theorem dX1_stepsOf_21 : decode cX1_stepsOf 21 = .ok (.iload_n 3, 1) := by decide +kernel
theorem dX1_stepsOf_22 : decode cX1_stepsOf 22 = .ok (.invokestatic 23, 3) := by decide +kernel
theorem dX1_stepsOf_25 : decode cX1_stepsOf 25 = .ok (.imul, 1) := by decide +kernel
theorem dX1_stepsOf_26 : decode cX1_stepsOf 26 = .ok (.iadd, 1) := by decide +kernel
theorem dX1_stepsOf_27 : decode cX1_stepsOf 27 = .ok (.istore_n 2, 1) := by decide +kernel
theorem dX1_stepsOf_28 : decode cX1_stepsOf 28 = .ok (.iinc 3 1, 3) := by decide +kernel
theorem dX1_stepsOf_31 : decode cX1_stepsOf 31 = .ok (.goto (-27), 3) := by decide +kernel
theorem dX1_stepsOf_34 : decode cX1_stepsOf 34 = .ok (.iload_n 2, 1) := by decide +kernel
theorem dX1_stepsOf_35 : decode cX1_stepsOf 35 = .ok (.ireturn, 1) := by decide +kernel
theorem dX2_init_0 : decode cX2_init 0 = .ok (.aload_n 0, 1) := by decide +kernel
theorem dX2_init_1 : decode cX2_init 1 = .ok (.invokespecial 3, 3) := by decide +kernel
theorem dX2_init_4 : decode cX2_init 4 = .ok (.aload_n 0, 1) := by decide +kernel
theorem dX2_init_5 : decode cX2_init 5 = .ok (.aload_n 1, 1) := by decide +kernel
theorem dX2_init_6 : decode cX2_init 6 = .ok (.putfield 9, 3) := by decide +kernel
theorem dX2_init_9 : decode cX2_init 9 = .ok (.aload_n 0, 1) := by decide +kernel
theorem dX2_init_10 : decode cX2_init 10 = .ok (.bipush 6, 2) := by decide +kernel
theorem dX2_init_12 : decode cX2_init 12 = .ok (.newarray .int, 2) := by decide +kernel
theorem dX2_init_14 : decode cX2_init 14 = .ok (.putfield 15, 3) := by decide +kernel
theorem dX2_init_17 : decode cX2_init 17 = .ok (.aload_n 0, 1) := by decide +kernel
theorem dX2_init_18 : decode cX2_init 18 = .ok (.bipush 6, 2) := by decide +kernel
theorem dX2_init_20 : decode cX2_init 20 = .ok (.newarray .int, 2) := by decide +kernel
theorem dX2_init_22 : decode cX2_init 22 = .ok (.putfield 19, 3) := by decide +kernel
theorem dX2_init_25 : decode cX2_init 25 = .ok (.aload_n 0, 1) := by decide +kernel
theorem dX2_init_26 : decode cX2_init 26 = .ok (.bipush 6, 2) := by decide +kernel
theorem dX2_init_28 : decode cX2_init 28 = .ok (.newarray .int, 2) := by decide +kernel
theorem dX2_init_30 : decode cX2_init 30 = .ok (.putfield 22, 3) := by decide +kernel
theorem dX2_init_33 : decode cX2_init 33 = .ok (.return_, 1) := by decide +kernel
theorem dX2_tell_0 : decode cX2_tell 0 = .ok (.aload_n 1, 1) := by decide +kernel
theorem dX2_tell_1 : decode cX2_tell 1 = .ok (.aload_n 0, 1) := by decide +kernel
theorem dX2_tell_2 : decode cX2_tell 2 = .ok (.getfield 19, 3) := by decide +kernel
theorem dX2_tell_5 : decode cX2_tell 5 = .ok (.invokestatic 25, 3) := by decide +kernel
theorem dX2_tell_8 : decode cX2_tell 8 = .ok (.aload_n 2, 1) := by decide +kernel
theorem dX2_tell_9 : decode cX2_tell 9 = .ok (.aload_n 0, 1) := by decide +kernel
theorem dX2_tell_10 : decode cX2_tell 10 = .ok (.getfield 22, 3) := by decide +kernel
theorem dX2_tell_13 : decode cX2_tell 13 = .ok (.invokestatic 25, 3) := by decide +kernel
theorem dX2_tell_16 : decode cX2_tell 16 = .ok (.iconst 0, 1) := by decide +kernel
theorem dX2_tell_17 : decode cX2_tell 17 = .ok (.istore 4, 2) := by decide +kernel
theorem dX2_tell_19 : decode cX2_tell 19 = .ok (.iload 4, 2) := by decide +kernel
theorem dX2_tell_21 : decode cX2_tell 21 = .ok (.iload_n 3, 1) := by decide +kernel
theorem dX2_tell_22 : decode cX2_tell 22 = .ok (.if_icmp .gt 85, 3) := by decide +kernel
theorem dX2_tell_25 : decode cX2_tell 25 = .ok (.aload_n 0, 1) := by decide +kernel
theorem dX2_tell_26 : decode cX2_tell 26 = .ok (.invokevirtual 31, 3) := by decide +kernel
theorem dX2_tell_29 : decode cX2_tell 29 = .ok (.istore 5, 2) := by decide +kernel
theorem dX2_tell_31 : decode cX2_tell 31 = .ok (.iload 5, 2) := by decide +kernel
theorem dX2_tell_33 : decode cX2_tell 33 = .ok (.ifCond .ne 5, 3) := by decide +kernel
theorem dX2_tell_36 : decode cX2_tell 36 = .ok (.iconst (-1), 1) := by decide +kernel
theorem dX2_tell_37 : decode cX2_tell 37 = .ok (.ireturn, 1) := by decide +kernel
theorem dX2_tell_38 : decode cX2_tell 38 = .ok (.iload 4, 2) := by decide +kernel
theorem dX2_tell_40 : decode cX2_tell 40 = .ok (.iload_n 3, 1) := by decide +kernel
theorem dX2_tell_41 : decode cX2_tell 41 = .ok (.if_icmp .ne 8, 3) := by decide +kernel
theorem dX2_tell_44 : decode cX2_tell 44 = .ok (.iload 5, 2) := by decide +kernel
theorem dX2_tell_46 : decode cX2_tell 46 = .ok (.iconst 1, 1) := by decide +kernel
theorem dX2_tell_47 : decode cX2_tell 47 = .ok (.isub, 1) := by decide +kernel
theorem dX2_tell_48 : decode cX2_tell 48 = .ok (.ireturn, 1) := by decide +kernel
theorem dX2_tell_49 : decode cX2_tell 49 = .ok (.aload_n 0, 1) := by decide +kernel
theorem dX2_tell_50 : decode cX2_tell 50 = .ok (.getfield 19, 3) := by decide +kernel
theorem dX2_tell_53 : decode cX2_tell 53 = .ok (.aload_n 0, 1) := by decide +kernel
theorem dX2_tell_54 : decode cX2_tell 54 = .ok (.getfield 22, 3) := by decide +kernel
theorem dX2_tell_57 : decode cX2_tell 57 = .ok (.iconst 1, 1) := by decide +kernel
theorem dX2_tell_58 : decode cX2_tell 58 = .ok (.iload 5, 2) := by decide +kernel
theorem dX2_tell_60 : decode cX2_tell 60 = .ok (.isub, 1) := by decide +kernel
theorem dX2_tell_61 : decode cX2_tell 61 = .ok (.aload_n 0, 1) := by decide +kernel
theorem dX2_tell_62 : decode cX2_tell 62 = .ok (.getfield 19, 3) := by decide +kernel
theorem dX2_tell_65 : decode cX2_tell 65 = .ok (.invokestatic 35, 3) := by decide +kernel
theorem dX2_tell_68 : decode cX2_tell 68 = .ok (.aload_n 0, 1) := by decide +kernel
theorem dX2_tell_69 : decode cX2_tell 69 = .ok (.getfield 19, 3) := by decide +kernel
theorem dX2_tell_72 : decode cX2_tell 72 = .ok (.invokestatic 39, 3) := by decide +kernel
theorem dX2_tell_75 : decode cX2_tell 75 = .ok (.ifCond .eq 6, 3) := by decide +kernel
theorem dX2_tell_78 : decode cX2_tell 78 = .ok (.bipush (-2), 2) := by decide +kernel
theorem dX2_tell_80 : decode cX2_tell 80 = .ok (.ireturn, 1) := by decide +kernel
theorem dX2_tell_81 : decode cX2_tell 81 = .ok (.aload_n 0, 1) := by decide +kernel
theorem dX2_tell_82 : decode cX2_tell 82 = .ok (.getfield 19, 3) := by decide +kernel
theorem dX2_tell_85 : decode cX2_tell 85 = .ok (.astore 6, 2) := by decide +kernel
theorem dX2_tell_87 : decode cX2_tell 87 = .ok (.aload_n 0, 1) := by decide +kernel
theorem dX2_tell_88 : decode cX2_tell 88 = .ok (.aload_n 0, 1) := by decide +kernel
theorem dX2_tell_89 : decode cX2_tell 89 = .ok (.getfield 22, 3) := by decide +kernel
theorem dX2_tell_92 : decode cX2_tell 92 = .ok (.putfield 19, 3) := by decide +kernel
theorem dX2_tell_95 : decode cX2_tell 95 = .ok (.aload_n 0, 1) := by decide +kernel
theorem dX2_tell_96 : decode cX2_tell 96 = .ok (.aload 6, 2) := by decide +kernel
theorem dX2_tell_98 : decode cX2_tell 98 = .ok (.putfield 22, 3) := by decide +kernel
theorem dX2_tell_101 : decode cX2_tell 101 = .ok (.iinc 4 1, 3) := by decide +kernel
theorem dX2_tell_104 : decode cX2_tell 104 = .ok (.goto (-85), 3) := by decide +kernel
theorem dX2_tell_107 : decode cX2_tell 107 = .ok (.bipush (-2), 2) := by decide +kernel
theorem dX2_tell_109 : decode cX2_tell 109 = .ok (.ireturn, 1) := by decide +kernel
theorem dX2_firstBelowOne_0 : decode cX2_firstBelowOne 0 = .ok (.iconst 0, 1) := by decide +kernel
theorem dX2_firstBelowOne_1 : decode cX2_firstBelowOne 1 = .ok (.istore_n 1, 1) := by decide +kernel
theorem dX2_firstBelowOne_2 : decode cX2_firstBelowOne 2 = .ok (.iconst 1, 1) := by decide +kernel
theorem dX2_firstBelowOne_3 : decode cX2_firstBelowOne 3 = .ok (.istore_n 2, 1) := by decide +kernel
theorem dX2_firstBelowOne_4 : decode cX2_firstBelowOne 4 = .ok (.iconst 0, 1) := by decide +kernel
theorem dX2_firstBelowOne_5 : decode cX2_firstBelowOne 5 = .ok (.istore_n 3, 1) := by decide +kernel
theorem dX2_firstBelowOne_6 : decode cX2_firstBelowOne 6 = .ok (.iload_n 3, 1) := by decide +kernel
theorem dX2_firstBelowOne_7 : decode cX2_firstBelowOne 7 = .ok (.bipush 10, 2) := by decide +kernel
theorem dX2_firstBelowOne_9 : decode cX2_firstBelowOne 9 = .ok (.if_icmp .ge 23, 3) := by decide +kernel
theorem dX2_firstBelowOne_12 : decode cX2_firstBelowOne 12 = .ok (.aload_n 0, 1) := by decide +kernel
theorem dX2_firstBelowOne_13 : decode cX2_firstBelowOne 13 = .ok (.iload_n 2, 1) := by decide +kernel
theorem dX2_firstBelowOne_14 : decode cX2_firstBelowOne 14 = .ok (.invokevirtual 43, 3) := by decide +kernel
theorem dX2_firstBelowOne_17 : decode cX2_firstBelowOne 17 = .ok (.ifCond .eq 15, 3) := by decide +kernel
theorem dX2_firstBelowOne_20 : decode cX2_firstBelowOne 20 = .ok (.iload_n 2, 1) := by decide +kernel
theorem dX2_firstBelowOne_21 : decode cX2_firstBelowOne 21 = .ok (.istore_n 1, 1) := by decide +kernel
theorem dX2_firstBelowOne_22 : decode cX2_firstBelowOne 22 = .ok (.iload_n 2, 1) := by decide +kernel
theorem dX2_firstBelowOne_23 : decode cX2_firstBelowOne 23 = .ok (.iconst 2, 1) := by decide +kernel
theorem dX2_firstBelowOne_24 : decode cX2_firstBelowOne 24 = .ok (.imul, 1) := by decide +kernel
theorem dX2_firstBelowOne_25 : decode cX2_firstBelowOne 25 = .ok (.istore_n 2, 1) := by decide +kernel
theorem dX2_firstBelowOne_26 : decode cX2_firstBelowOne 26 = .ok (.iinc 3 1, 3) := by decide +kernel
theorem dX2_firstBelowOne_29 : decode cX2_firstBelowOne 29 = .ok (.goto (-23), 3) := by decide +kernel
theorem dX2_firstBelowOne_32 : decode cX2_firstBelowOne 32 = .ok (.iconst 0, 1) := by decide +kernel
theorem dX2_firstBelowOne_33 : decode cX2_firstBelowOne 33 = .ok (.istore_n 3, 1) := by decide +kernel
theorem dX2_firstBelowOne_34 : decode cX2_firstBelowOne 34 = .ok (.iload_n 3, 1) := by decide +kernel
theorem dX2_firstBelowOne_35 : decode cX2_firstBelowOne 35 = .ok (.bipush 10, 2) := by decide +kernel
theorem dX2_firstBelowOne_37 : decode cX2_firstBelowOne 37 = .ok (.if_icmp .ge 41, 3) := by decide +kernel
theorem dX2_firstBelowOne_40 : decode cX2_firstBelowOne 40 = .ok (.iload_n 1, 1) := by decide +kernel
theorem dX2_firstBelowOne_41 : decode cX2_firstBelowOne 41 = .ok (.iconst 1, 1) := by decide +kernel
theorem dX2_firstBelowOne_42 : decode cX2_firstBelowOne 42 = .ok (.iadd, 1) := by decide +kernel
theorem dX2_firstBelowOne_43 : decode cX2_firstBelowOne 43 = .ok (.iload_n 2, 1) := by decide +kernel
theorem dX2_firstBelowOne_44 : decode cX2_firstBelowOne 44 = .ok (.if_icmp .ge 34, 3) := by decide +kernel
theorem dX2_firstBelowOne_47 : decode cX2_firstBelowOne 47 = .ok (.iload_n 1, 1) := by decide +kernel
theorem dX2_firstBelowOne_48 : decode cX2_firstBelowOne 48 = .ok (.iload_n 2, 1) := by decide +kernel
theorem dX2_firstBelowOne_49 : decode cX2_firstBelowOne 49 = .ok (.iadd, 1) := by decide +kernel
theorem dX2_firstBelowOne_50 : decode cX2_firstBelowOne 50 = .ok (.iconst 2, 1) := by decide +kernel
theorem dX2_firstBelowOne_51 : decode cX2_firstBelowOne 51 = .ok (.idiv, 1) := by decide +kernel
theorem dX2_firstBelowOne_52 : decode cX2_firstBelowOne 52 = .ok (.istore 4, 2) := by decide +kernel
theorem dX2_firstBelowOne_54 : decode cX2_firstBelowOne 54 = .ok (.aload_n 0, 1) := by decide +kernel
theorem dX2_firstBelowOne_55 : decode cX2_firstBelowOne 55 = .ok (.iload 4, 2) := by decide +kernel
theorem dX2_firstBelowOne_57 : decode cX2_firstBelowOne 57 = .ok (.invokevirtual 43, 3) := by decide +kernel
theorem dX2_firstBelowOne_60 : decode cX2_firstBelowOne 60 = .ok (.ifCond .eq 9, 3) := by decide +kernel
theorem dX2_firstBelowOne_63 : decode cX2_firstBelowOne 63 = .ok (.iload 4, 2) := by decide +kernel
theorem dX2_firstBelowOne_65 : decode cX2_firstBelowOne 65 = .ok (.istore_n 1, 1) := by decide +kernel
theorem dX2_firstBelowOne_66 : decode cX2_firstBelowOne 66 = .ok (.goto 6, 3) := by decide +kernel
theorem dX2_firstBelowOne_69 : decode cX2_firstBelowOne 69 = .ok (.iload 4, 2) := by decide +kernel
theorem dX2_firstBelowOne_71 : decode cX2_firstBelowOne 71 = .ok (.istore_n 2, 1) := by decide +kernel
theorem dX2_firstBelowOne_72 : decode cX2_firstBelowOne 72 = .ok (.iinc 3 1, 3) := by decide +kernel
theorem dX2_firstBelowOne_75 : decode cX2_firstBelowOne 75 = .ok (.goto (-41), 3) := by decide +kernel
theorem dX2_firstBelowOne_78 : decode cX2_firstBelowOne 78 = .ok (.aload_n 0, 1) := by decide +kernel
theorem dX2_firstBelowOne_79 : decode cX2_firstBelowOne 79 = .ok (.getfield 19, 3) := by decide +kernel
theorem dX2_firstBelowOne_82 : decode cX2_firstBelowOne 82 = .ok (.aload_n 0, 1) := by decide +kernel
theorem dX2_firstBelowOne_83 : decode cX2_firstBelowOne 83 = .ok (.getfield 22, 3) := by decide +kernel
theorem dX2_firstBelowOne_86 : decode cX2_firstBelowOne 86 = .ok (.iload_n 2, 1) := by decide +kernel
theorem dX2_firstBelowOne_87 : decode cX2_firstBelowOne 87 = .ok (.ineg, 1) := by decide +kernel
theorem dX2_firstBelowOne_88 : decode cX2_firstBelowOne 88 = .ok (.aload_n 0, 1) := by decide +kernel
theorem dX2_firstBelowOne_89 : decode cX2_firstBelowOne 89 = .ok (.getfield 15, 3) := by decide +kernel
theorem dX2_firstBelowOne_92 : decode cX2_firstBelowOne 92 = .ok (.invokestatic 35, 3) := by decide +kernel
theorem dX2_firstBelowOne_95 : decode cX2_firstBelowOne 95 = .ok (.aload_n 0, 1) := by decide +kernel
theorem dX2_firstBelowOne_96 : decode cX2_firstBelowOne 96 = .ok (.getfield 15, 3) := by decide +kernel
theorem dX2_firstBelowOne_99 : decode cX2_firstBelowOne 99 = .ok (.sipush 200, 3) := by decide +kernel
theorem dX2_firstBelowOne_102 : decode cX2_firstBelowOne 102 = .ok (.invokestatic 47, 3) := by decide +kernel
theorem dX2_firstBelowOne_105 : decode cX2_firstBelowOne 105 = .ok (.ifCond .eq 7, 3) := by decide +kernel
theorem dX2_firstBelowOne_108 : decode cX2_firstBelowOne 108 = .ok (.iload_n 2, 1) := by decide +kernel
theorem dX2_firstBelowOne_109 : decode cX2_firstBelowOne 109 = .ok (.goto 4, 3) := by decide +kernel
theorem dX2_firstBelowOne_112 : decode cX2_firstBelowOne 112 = .ok (.iconst 0, 1) := by decide +kernel
theorem dX2_firstBelowOne_113 : decode cX2_firstBelowOne 113 = .ok (.ireturn, 1) := by decide +kernel
theorem dX2_stays_0 : decode cX2_stays 0 = .ok (.aload_n 0, 1) := by decide +kernel
theorem dX2_stays_1 : decode cX2_stays 1 = .ok (.getfield 19, 3) := by decide +kernel
theorem dX2_stays_4 : decode cX2_stays 4 = .ok (.aload_n 0, 1) := by decide +kernel
theorem dX2_stays_5 : decode cX2_stays 5 = .ok (.getfield 22, 3) := by decide +kernel
theorem dX2_stays_8 : decode cX2_stays 8 = .ok (.iload_n 1, 1) := by decide +kernel
theorem dX2_stays_9 : decode cX2_stays 9 = .ok (.ineg, 1) := by decide +kernel
theorem dX2_stays_10 : decode cX2_stays 10 = .ok (.aload_n 0, 1) := by decide +kernel
theorem dX2_stays_11 : decode cX2_stays 11 = .ok (.getfield 15, 3) := by decide +kernel
theorem dX2_stays_14 : decode cX2_stays 14 = .ok (.invokestatic 35, 3) := by decide +kernel
theorem dX2_stays_17 : decode cX2_stays 17 = .ok (.aload_n 0, 1) := by decide +kernel
theorem dX2_stays_18 : decode cX2_stays 18 = .ok (.getfield 15, 3) := by decide +kernel
theorem dX2_stays_21 : decode cX2_stays 21 = .ok (.sipush 200, 3) := by decide +kernel
theorem dX2_stays_24 : decode cX2_stays 24 = .ok (.invokestatic 47, 3) := by decide +kernel
theorem dX2_stays_27 : decode cX2_stays 27 = .ok (.ifCond .eq 21, 3) := by decide +kernel
theorem dX2_stays_30 : decode cX2_stays 30 = .ok (.aload_n 0, 1) := by decide +kernel
theorem dX2_stays_31 : decode cX2_stays 31 = .ok (.getfield 9, 3) := by decide +kernel
theorem dX2_stays_34 : decode cX2_stays 34 = .ok (.aload_n 0, 1) := by decide +kernel
theorem dX2_stays_35 : decode cX2_stays 35 = .ok (.getfield 15, 3) := by decide +kernel
theorem dX2_stays_38 : decode cX2_stays 38 = .ok (.invokevirtual 51, 3) := by decide +kernel
theorem dX2_stays_41 : decode cX2_stays 41 = .ok (.ifCond .lt 7, 3) := by decide +kernel
theorem dX2_stays_44 : decode cX2_stays 44 = .ok (.iconst 1, 1) := by decide +kernel
theorem dX2_stays_45 : decode cX2_stays 45 = .ok (.goto 4, 3) := by decide +kernel
theorem dX2_stays_48 : decode cX2_stays 48 = .ok (.iconst 0, 1) := by decide +kernel
theorem dX2_stays_49 : decode cX2_stays 49 = .ok (.ireturn, 1) := by decide +kernel
theorem dX3_init_0 : decode cX3_init 0 = .ok (.aload_n 0, 1) := by decide +kernel
theorem dX3_init_1 : decode cX3_init 1 = .ok (.invokespecial 3, 3) := by decide +kernel
theorem dX3_init_4 : decode cX3_init 4 = .ok (.aload_n 0, 1) := by decide +kernel
theorem dX3_init_5 : decode cX3_init 5 = .ok (.bipush 104, 2) := by decide +kernel
theorem dX3_init_7 : decode cX3_init 7 = .ok (.newarray .int, 2) := by decide +kernel
theorem dX3_init_9 : decode cX3_init 9 = .ok (.putfield 11, 3) := by decide +kernel
theorem dX3_init_12 : decode cX3_init 12 = .ok (.aload_n 0, 1) := by decide +kernel
theorem dX3_init_13 : decode cX3_init 13 = .ok (.getfield 11, 3) := by decide +kernel
theorem dX3_init_16 : decode cX3_init 16 = .ok (.iconst 0, 1) := by decide +kernel
theorem dX3_init_17 : decode cX3_init 17 = .ok (.iconst 1, 1) := by decide +kernel
theorem dX3_init_18 : decode cX3_init 18 = .ok (.iastore, 1) := by decide +kernel
theorem dX3_init_19 : decode cX3_init 19 = .ok (.aload_n 0, 1) := by decide +kernel
theorem dX3_init_20 : decode cX3_init 20 = .ok (.iconst 1, 1) := by decide +kernel
theorem dX3_init_21 : decode cX3_init 21 = .ok (.putfield 15, 3) := by decide +kernel
theorem dX3_init_24 : decode cX3_init 24 = .ok (.aload_n 0, 1) := by decide +kernel
theorem dX3_init_25 : decode cX3_init 25 = .ok (.lconst 1, 1) := by decide +kernel
theorem dX3_init_26 : decode cX3_init 26 = .ok (.putfield 19, 3) := by decide +kernel
theorem dX3_init_29 : decode cX3_init 29 = .ok (.return_, 1) := by decide +kernel
theorem dX3_build_0 : decode cX3_build 0 = .ok (.aload_n 0, 1) := by decide +kernel
theorem dX3_build_1 : decode cX3_build 1 = .ok (.getfield 11, 3) := by decide +kernel
theorem dX3_build_4 : decode cX3_build 4 = .ok (.iconst 0, 1) := by decide +kernel
theorem dX3_build_5 : decode cX3_build 5 = .ok (.iconst 1, 1) := by decide +kernel
theorem dX3_build_6 : decode cX3_build 6 = .ok (.iastore, 1) := by decide +kernel
theorem dX3_build_7 : decode cX3_build 7 = .ok (.aload_n 0, 1) := by decide +kernel
theorem dX3_build_8 : decode cX3_build 8 = .ok (.iconst 1, 1) := by decide +kernel
theorem dX3_build_9 : decode cX3_build 9 = .ok (.putfield 15, 3) := by decide +kernel
theorem dX3_build_12 : decode cX3_build 12 = .ok (.aload_n 0, 1) := by decide +kernel
theorem dX3_build_13 : decode cX3_build 13 = .ok (.lconst 1, 1) := by decide +kernel
theorem dX3_build_14 : decode cX3_build 14 = .ok (.putfield 19, 3) := by decide +kernel
theorem dX3_build_17 : decode cX3_build 17 = .ok (.iconst 0, 1) := by decide +kernel
theorem dX3_build_18 : decode cX3_build 18 = .ok (.istore_n 3, 1) := by decide +kernel
theorem dX3_build_19 : decode cX3_build 19 = .ok (.iload_n 3, 1) := by decide +kernel
theorem dX3_build_20 : decode cX3_build 20 = .ok (.bipush 6, 2) := by decide +kernel
theorem dX3_build_22 : decode cX3_build 22 = .ok (.if_icmp .ge 62, 3) := by decide +kernel
theorem dX3_build_25 : decode cX3_build 25 = .ok (.iload_n 2, 1) := by decide +kernel
theorem dX3_build_26 : decode cX3_build 26 = .ok (.aload_n 1, 1) := by decide +kernel
theorem dX3_build_27 : decode cX3_build 27 = .ok (.iload_n 3, 1) := by decide +kernel
theorem dX3_build_28 : decode cX3_build 28 = .ok (.iaload, 1) := by decide +kernel
theorem dX3_build_29 : decode cX3_build 29 = .ok (.imul, 1) := by decide +kernel
theorem dX3_build_30 : decode cX3_build 30 = .ok (.istore 4, 2) := by decide +kernel
theorem dX3_build_32 : decode cX3_build 32 = .ok (.iconst 0, 1) := by decide +kernel
theorem dX3_build_33 : decode cX3_build 33 = .ok (.istore 5, 2) := by decide +kernel
theorem dX3_build_35 : decode cX3_build 35 = .ok (.iload 5, 2) := by decide +kernel
theorem dX3_build_37 : decode cX3_build 37 = .ok (.iload 4, 2) := by decide +kernel
theorem dX3_build_39 : decode cX3_build 39 = .ok (.if_icmp .ge 39, 3) := by decide +kernel
theorem dX3_build_42 : decode cX3_build 42 = .ok (.aload_n 0, 1) := by decide +kernel
theorem dX3_build_43 : decode cX3_build 43 = .ok (.getfield 19, 3) := by decide +kernel
theorem dX3_build_46 : decode cX3_build 46 = .ok (.ldc2_w 23, 3) := by decide +kernel
theorem dX3_build_49 : decode cX3_build 49 = .ok (.lcmp, 1) := by decide +kernel
theorem dX3_build_50 : decode cX3_build 50 = .ok (.ifCond .le 7, 3) := by decide +kernel
theorem dX3_build_53 : decode cX3_build 53 = .ok (.aload_n 0, 1) := by decide +kernel
theorem dX3_build_54 : decode cX3_build 54 = .ok (.invokevirtual 25, 3) := by decide +kernel
theorem dX3_build_57 : decode cX3_build 57 = .ok (.aload_n 0, 1) := by decide +kernel
theorem dX3_build_58 : decode cX3_build 58 = .ok (.dup, 1) := by decide +kernel
theorem dX3_build_59 : decode cX3_build 59 = .ok (.getfield 19, 3) := by decide +kernel
theorem dX3_build_62 : decode cX3_build 62 = .ok (.getstatic 28, 3) := by decide +kernel
theorem dX3_build_65 : decode cX3_build 65 = .ok (.iload_n 3, 1) := by decide +kernel
theorem dX3_build_66 : decode cX3_build 66 = .ok (.iaload, 1) := by decide +kernel
theorem dX3_build_67 : decode cX3_build 67 = .ok (.i2l, 1) := by decide +kernel
theorem dX3_build_68 : decode cX3_build 68 = .ok (.lmul, 1) := by decide +kernel
theorem dX3_build_69 : decode cX3_build 69 = .ok (.putfield 19, 3) := by decide +kernel
theorem dX3_build_72 : decode cX3_build 72 = .ok (.iinc 5 1, 3) := by decide +kernel
theorem dX3_build_75 : decode cX3_build 75 = .ok (.goto (-40), 3) := by decide +kernel
theorem dX3_build_78 : decode cX3_build 78 = .ok (.iinc 3 1, 3) := by decide +kernel
theorem dX3_build_81 : decode cX3_build 81 = .ok (.goto (-62), 3) := by decide +kernel
theorem dX3_build_84 : decode cX3_build 84 = .ok (.aload_n 0, 1) := by decide +kernel
theorem dX3_build_85 : decode cX3_build 85 = .ok (.invokevirtual 25, 3) := by decide +kernel
theorem dX3_build_88 : decode cX3_build 88 = .ok (.return_, 1) := by decide +kernel
theorem dX3_settle_0 : decode cX3_settle 0 = .ok (.lconst 0, 1) := by decide +kernel
theorem dX3_settle_1 : decode cX3_settle 1 = .ok (.lstore_n 1, 1) := by decide +kernel
theorem dX3_settle_2 : decode cX3_settle 2 = .ok (.iconst 0, 1) := by decide +kernel
theorem dX3_settle_3 : decode cX3_settle 3 = .ok (.istore_n 3, 1) := by decide +kernel
theorem dX3_settle_4 : decode cX3_settle 4 = .ok (.iload_n 3, 1) := by decide +kernel
theorem dX3_settle_5 : decode cX3_settle 5 = .ok (.aload_n 0, 1) := by decide +kernel
theorem dX3_settle_6 : decode cX3_settle 6 = .ok (.getfield 15, 3) := by decide +kernel
theorem dX3_settle_9 : decode cX3_settle 9 = .ok (.if_icmp .ge 47, 3) := by decide +kernel
theorem dX3_settle_12 : decode cX3_settle 12 = .ok (.aload_n 0, 1) := by decide +kernel
theorem dX3_settle_13 : decode cX3_settle 13 = .ok (.getfield 11, 3) := by decide +kernel
theorem dX3_settle_16 : decode cX3_settle 16 = .ok (.iload_n 3, 1) := by decide +kernel
theorem dX3_settle_17 : decode cX3_settle 17 = .ok (.iaload, 1) := by decide +kernel
theorem dX3_settle_18 : decode cX3_settle 18 = .ok (.i2l, 1) := by decide +kernel
theorem dX3_settle_19 : decode cX3_settle 19 = .ok (.aload_n 0, 1) := by decide +kernel
theorem dX3_settle_20 : decode cX3_settle 20 = .ok (.getfield 19, 3) := by decide +kernel
theorem dX3_settle_23 : decode cX3_settle 23 = .ok (.lmul, 1) := by decide +kernel
theorem dX3_settle_24 : decode cX3_settle 24 = .ok (.lload_n 1, 1) := by decide +kernel
theorem dX3_settle_25 : decode cX3_settle 25 = .ok (.ladd, 1) := by decide +kernel
theorem dX3_settle_26 : decode cX3_settle 26 = .ok (.lstore 4, 2) := by decide +kernel
theorem dX3_settle_28 : decode cX3_settle 28 = .ok (.lload 4, 2) := by decide +kernel
theorem dX3_settle_30 : decode cX3_settle 30 = .ok (.ldc2_w 31, 3) := by decide +kernel
theorem dX3_settle_33 : decode cX3_settle 33 = .ok (.ldiv, 1) := by decide +kernel
theorem dX3_settle_34 : decode cX3_settle 34 = .ok (.lstore_n 1, 1) := by decide +kernel
theorem dX3_settle_35 : decode cX3_settle 35 = .ok (.aload_n 0, 1) := by decide +kernel
theorem dX3_settle_36 : decode cX3_settle 36 = .ok (.getfield 11, 3) := by decide +kernel
theorem dX3_settle_39 : decode cX3_settle 39 = .ok (.iload_n 3, 1) := by decide +kernel
theorem dX3_settle_40 : decode cX3_settle 40 = .ok (.lload 4, 2) := by decide +kernel
theorem dX3_settle_42 : decode cX3_settle 42 = .ok (.lload_n 1, 1) := by decide +kernel
theorem dX3_settle_43 : decode cX3_settle 43 = .ok (.ldc2_w 31, 3) := by decide +kernel
theorem dX3_settle_46 : decode cX3_settle 46 = .ok (.lmul, 1) := by decide +kernel
theorem dX3_settle_47 : decode cX3_settle 47 = .ok (.lsub, 1) := by decide +kernel
theorem dX3_settle_48 : decode cX3_settle 48 = .ok (.l2i, 1) := by decide +kernel
theorem dX3_settle_49 : decode cX3_settle 49 = .ok (.iastore, 1) := by decide +kernel
theorem dX3_settle_50 : decode cX3_settle 50 = .ok (.iinc 3 1, 3) := by decide +kernel
theorem dX3_settle_53 : decode cX3_settle 53 = .ok (.goto (-49), 3) := by decide +kernel
theorem dX3_settle_56 : decode cX3_settle 56 = .ok (.iconst 0, 1) := by decide +kernel
theorem dX3_settle_57 : decode cX3_settle 57 = .ok (.istore_n 3, 1) := by decide +kernel
theorem dX3_settle_58 : decode cX3_settle 58 = .ok (.iload_n 3, 1) := by decide +kernel
theorem dX3_settle_59 : decode cX3_settle 59 = .ok (.iconst 2, 1) := by decide +kernel
theorem dX3_settle_60 : decode cX3_settle 60 = .ok (.if_icmp .ge 55, 3) := by decide +kernel
theorem dX3_settle_63 : decode cX3_settle 63 = .ok (.lload_n 1, 1) := by decide +kernel
theorem dX3_settle_64 : decode cX3_settle 64 = .ok (.lconst 0, 1) := by decide +kernel
theorem dX3_settle_65 : decode cX3_settle 65 = .ok (.lcmp, 1) := by decide +kernel
theorem dX3_settle_66 : decode cX3_settle 66 = .ok (.ifCond .eq 49, 3) := by decide +kernel
theorem dX3_settle_69 : decode cX3_settle 69 = .ok (.aload_n 0, 1) := by decide +kernel
theorem dX3_settle_70 : decode cX3_settle 70 = .ok (.getfield 15, 3) := by decide +kernel
theorem dX3_settle_73 : decode cX3_settle 73 = .ok (.bipush 104, 2) := by decide +kernel
theorem dX3_settle_75 : decode cX3_settle 75 = .ok (.if_icmp .ge 40, 3) := by decide +kernel
theorem dX3_settle_78 : decode cX3_settle 78 = .ok (.aload_n 0, 1) := by decide +kernel
theorem dX3_settle_79 : decode cX3_settle 79 = .ok (.getfield 11, 3) := by decide +kernel
theorem dX3_settle_82 : decode cX3_settle 82 = .ok (.aload_n 0, 1) := by decide +kernel
theorem dX3_settle_83 : decode cX3_settle 83 = .ok (.getfield 15, 3) := by decide +kernel
theorem dX3_settle_86 : decode cX3_settle 86 = .ok (.lload_n 1, 1) := by decide +kernel
theorem dX3_settle_87 : decode cX3_settle 87 = .ok (.ldc2_w 31, 3) := by decide +kernel
theorem dX3_settle_90 : decode cX3_settle 90 = .ok (.lrem, 1) := by decide +kernel
theorem dX3_settle_91 : decode cX3_settle 91 = .ok (.l2i, 1) := by decide +kernel
theorem dX3_settle_92 : decode cX3_settle 92 = .ok (.iastore, 1) := by decide +kernel
theorem dX3_settle_93 : decode cX3_settle 93 = .ok (.aload_n 0, 1) := by decide +kernel
theorem dX3_settle_94 : decode cX3_settle 94 = .ok (.dup, 1) := by decide +kernel
theorem dX3_settle_95 : decode cX3_settle 95 = .ok (.getfield 15, 3) := by decide +kernel
theorem dX3_settle_98 : decode cX3_settle 98 = .ok (.iconst 1, 1) := by decide +kernel
theorem dX3_settle_99 : decode cX3_settle 99 = .ok (.iadd, 1) := by decide +kernel
theorem dX3_settle_100 : decode cX3_settle 100 = .ok (.putfield 15, 3) := by decide +kernel
theorem dX3_settle_103 : decode cX3_settle 103 = .ok (.lload_n 1, 1) := by decide +kernel
theorem dX3_settle_104 : decode cX3_settle 104 = .ok (.ldc2_w 31, 3) := by decide +kernel
theorem dX3_settle_107 : decode cX3_settle 107 = .ok (.ldiv, 1) := by decide +kernel
theorem dX3_settle_108 : decode cX3_settle 108 = .ok (.lstore_n 1, 1) := by decide +kernel
theorem dX3_settle_109 : decode cX3_settle 109 = .ok (.iinc 3 1, 3) := by decide +kernel
theorem dX3_settle_112 : decode cX3_settle 112 = .ok (.goto (-54), 3) := by decide +kernel
theorem dX3_settle_115 : decode cX3_settle 115 = .ok (.aload_n 0, 1) := by decide +kernel
theorem dX3_settle_116 : decode cX3_settle 116 = .ok (.lconst 1, 1) := by decide +kernel
theorem dX3_settle_117 : decode cX3_settle 117 = .ok (.putfield 19, 3) := by decide +kernel
theorem dX3_settle_120 : decode cX3_settle 120 = .ok (.return_, 1) := by decide +kernel
theorem dX3_against_0 : decode cX3_against 0 = .ok (.aload_n 0, 1) := by decide +kernel
theorem dX3_against_1 : decode cX3_against 1 = .ok (.getfield 15, 3) := by decide +kernel
theorem dX3_against_4 : decode cX3_against 4 = .ok (.aload_n 1, 1) := by decide +kernel
theorem dX3_against_5 : decode cX3_against 5 = .ok (.getfield 15, 3) := by decide +kernel
theorem dX3_against_8 : decode cX3_against 8 = .ok (.if_icmp .eq 20, 3) := by decide +kernel
theorem dX3_against_11 : decode cX3_against 11 = .ok (.aload_n 0, 1) := by decide +kernel
theorem dX3_against_12 : decode cX3_against 12 = .ok (.getfield 15, 3) := by decide +kernel
theorem dX3_against_15 : decode cX3_against 15 = .ok (.aload_n 1, 1) := by decide +kernel
theorem dX3_against_16 : decode cX3_against 16 = .ok (.getfield 15, 3) := by decide +kernel
theorem dX3_against_19 : decode cX3_against 19 = .ok (.if_icmp .le 7, 3) := by decide +kernel
theorem dX3_against_22 : decode cX3_against 22 = .ok (.iconst 1, 1) := by decide +kernel
theorem dX3_against_23 : decode cX3_against 23 = .ok (.goto 4, 3) := by decide +kernel
theorem dX3_against_26 : decode cX3_against 26 = .ok (.iconst (-1), 1) := by decide +kernel
theorem dX3_against_27 : decode cX3_against 27 = .ok (.ireturn, 1) := by decide +kernel
theorem dX3_against_28 : decode cX3_against 28 = .ok (.aload_n 0, 1) := by decide +kernel
theorem dX3_against_29 : decode cX3_against 29 = .ok (.getfield 15, 3) := by decide +kernel
theorem dX3_against_32 : decode cX3_against 32 = .ok (.iconst 1, 1) := by decide +kernel
theorem dX3_against_33 : decode cX3_against 33 = .ok (.isub, 1) := by decide +kernel
theorem dX3_against_34 : decode cX3_against 34 = .ok (.istore_n 2, 1) := by decide +kernel
theorem dX3_against_35 : decode cX3_against 35 = .ok (.iload_n 2, 1) := by decide +kernel
theorem dX3_against_36 : decode cX3_against 36 = .ok (.ifCond .lt 45, 3) := by decide +kernel
theorem dX3_against_39 : decode cX3_against 39 = .ok (.aload_n 0, 1) := by decide +kernel
theorem dX3_against_40 : decode cX3_against 40 = .ok (.getfield 11, 3) := by decide +kernel
theorem dX3_against_43 : decode cX3_against 43 = .ok (.iload_n 2, 1) := by decide +kernel
theorem dX3_against_44 : decode cX3_against 44 = .ok (.iaload, 1) := by decide +kernel
theorem dX3_against_45 : decode cX3_against 45 = .ok (.aload_n 1, 1) := by decide +kernel
theorem dX3_against_46 : decode cX3_against 46 = .ok (.getfield 11, 3) := by decide +kernel
theorem dX3_against_49 : decode cX3_against 49 = .ok (.iload_n 2, 1) := by decide +kernel
theorem dX3_against_50 : decode cX3_against 50 = .ok (.iaload, 1) := by decide +kernel
theorem dX3_against_51 : decode cX3_against 51 = .ok (.if_icmp .eq 24, 3) := by decide +kernel
theorem dX3_against_54 : decode cX3_against 54 = .ok (.aload_n 0, 1) := by decide +kernel
theorem dX3_against_55 : decode cX3_against 55 = .ok (.getfield 11, 3) := by decide +kernel
theorem dX3_against_58 : decode cX3_against 58 = .ok (.iload_n 2, 1) := by decide +kernel
theorem dX3_against_59 : decode cX3_against 59 = .ok (.iaload, 1) := by decide +kernel
theorem dX3_against_60 : decode cX3_against 60 = .ok (.aload_n 1, 1) := by decide +kernel
theorem dX3_against_61 : decode cX3_against 61 = .ok (.getfield 11, 3) := by decide +kernel
theorem dX3_against_64 : decode cX3_against 64 = .ok (.iload_n 2, 1) := by decide +kernel
theorem dX3_against_65 : decode cX3_against 65 = .ok (.iaload, 1) := by decide +kernel
theorem dX3_against_66 : decode cX3_against 66 = .ok (.if_icmp .le 7, 3) := by decide +kernel
theorem dX3_against_69 : decode cX3_against 69 = .ok (.iconst 1, 1) := by decide +kernel
theorem dX3_against_70 : decode cX3_against 70 = .ok (.goto 4, 3) := by decide +kernel
theorem dX3_against_73 : decode cX3_against 73 = .ok (.iconst (-1), 1) := by decide +kernel
theorem dX3_against_74 : decode cX3_against 74 = .ok (.ireturn, 1) := by decide +kernel
theorem dX3_against_75 : decode cX3_against 75 = .ok (.iinc 2 (-1), 3) := by decide +kernel
theorem dX3_against_78 : decode cX3_against 78 = .ok (.goto (-43), 3) := by decide +kernel
theorem dX3_against_81 : decode cX3_against 81 = .ok (.iconst 0, 1) := by decide +kernel
theorem dX3_against_82 : decode cX3_against 82 = .ok (.ireturn, 1) := by decide +kernel
theorem dX3_write_0 : decode cX3_write 0 = .ok (.iload_n 2, 1) := by decide +kernel
theorem dX3_write_1 : decode cX3_write 1 = .ok (.istore_n 3, 1) := by decide +kernel
theorem dX3_write_2 : decode cX3_write 2 = .ok (.iconst 0, 1) := by decide +kernel
theorem dX3_write_3 : decode cX3_write 3 = .ok (.istore 4, 2) := by decide +kernel
theorem dX3_write_5 : decode cX3_write 5 = .ok (.aload_n 0, 1) := by decide +kernel
theorem dX3_write_6 : decode cX3_write 6 = .ok (.getfield 15, 3) := by decide +kernel
theorem dX3_write_9 : decode cX3_write 9 = .ok (.iconst 1, 1) := by decide +kernel
theorem dX3_write_10 : decode cX3_write 10 = .ok (.isub, 1) := by decide +kernel
theorem dX3_write_11 : decode cX3_write 11 = .ok (.istore 5, 2) := by decide +kernel
theorem dX3_write_13 : decode cX3_write 13 = .ok (.iload 5, 2) := by decide +kernel
theorem dX3_write_15 : decode cX3_write 15 = .ok (.ifCond .lt 100, 3) := by decide +kernel
theorem dX3_write_18 : decode cX3_write 18 = .ok (.ldc 33, 2) := by decide +kernel
theorem dX3_write_20 : decode cX3_write 20 = .ok (.istore 6, 2) := by decide +kernel
theorem dX3_write_22 : decode cX3_write 22 = .ok (.iconst 0, 1) := by decide +kernel
theorem dX3_write_23 : decode cX3_write 23 = .ok (.istore 7, 2) := by decide +kernel
theorem dX3_write_25 : decode cX3_write 25 = .ok (.iload 7, 2) := by decide +kernel
theorem dX3_write_27 : decode cX3_write 27 = .ok (.bipush 9, 2) := by decide +kernel
theorem dX3_write_29 : decode cX3_write 29 = .ok (.if_icmp .ge 80, 3) := by decide +kernel
theorem dX3_write_32 : decode cX3_write 32 = .ok (.iload 6, 2) := by decide +kernel
theorem dX3_write_34 : decode cX3_write 34 = .ok (.ifCond .le 75, 3) := by decide +kernel
theorem dX3_write_37 : decode cX3_write 37 = .ok (.aload_n 0, 1) := by decide +kernel
theorem dX3_write_38 : decode cX3_write 38 = .ok (.getfield 11, 3) := by decide +kernel
theorem dX3_write_41 : decode cX3_write 41 = .ok (.iload 5, 2) := by decide +kernel
theorem dX3_write_43 : decode cX3_write 43 = .ok (.iaload, 1) := by decide +kernel
theorem dX3_write_44 : decode cX3_write 44 = .ok (.iload 6, 2) := by decide +kernel
theorem dX3_write_46 : decode cX3_write 46 = .ok (.idiv, 1) := by decide +kernel
theorem dX3_write_47 : decode cX3_write 47 = .ok (.bipush 10, 2) := by decide +kernel
theorem dX3_write_49 : decode cX3_write 49 = .ok (.irem, 1) := by decide +kernel
theorem dX3_write_50 : decode cX3_write 50 = .ok (.istore 8, 2) := by decide +kernel
theorem dX3_write_52 : decode cX3_write 52 = .ok (.iload 4, 2) := by decide +kernel
theorem dX3_write_54 : decode cX3_write 54 = .ok (.ifCond .ne 8, 3) := by decide +kernel
theorem dX3_write_57 : decode cX3_write 57 = .ok (.iload 8, 2) := by decide +kernel
theorem dX3_write_59 : decode cX3_write 59 = .ok (.ifCond .eq 7, 3) := by decide +kernel
theorem dX3_write_62 : decode cX3_write 62 = .ok (.iconst 1, 1) := by decide +kernel
theorem dX3_write_63 : decode cX3_write 63 = .ok (.goto 4, 3) := by decide +kernel
theorem dX3_write_66 : decode cX3_write 66 = .ok (.iconst 0, 1) := by decide +kernel
theorem dX3_write_67 : decode cX3_write 67 = .ok (.istore 4, 2) := by decide +kernel
theorem dX3_write_69 : decode cX3_write 69 = .ok (.iload 4, 2) := by decide +kernel
theorem dX3_write_71 : decode cX3_write 71 = .ok (.ifCond .eq 25, 3) := by decide +kernel
theorem dX3_write_74 : decode cX3_write 74 = .ok (.iload_n 3, 1) := by decide +kernel
theorem dX3_write_75 : decode cX3_write 75 = .ok (.ifCond .lt 21, 3) := by decide +kernel
theorem dX3_write_78 : decode cX3_write 78 = .ok (.iload_n 3, 1) := by decide +kernel
theorem dX3_write_79 : decode cX3_write 79 = .ok (.aload_n 1, 1) := by decide +kernel
theorem dX3_write_80 : decode cX3_write 80 = .ok (.arraylength, 1) := by decide +kernel
theorem dX3_write_81 : decode cX3_write 81 = .ok (.if_icmp .ge 15, 3) := by decide +kernel
theorem dX3_write_84 : decode cX3_write 84 = .ok (.aload_n 1, 1) := by decide +kernel
theorem dX3_write_85 : decode cX3_write 85 = .ok (.iload_n 3, 1) := by decide +kernel
theorem dX3_write_86 : decode cX3_write 86 = .ok (.bipush 48, 2) := by decide +kernel
theorem dX3_write_88 : decode cX3_write 88 = .ok (.iload 8, 2) := by decide +kernel
theorem dX3_write_90 : decode cX3_write 90 = .ok (.iadd, 1) := by decide +kernel
theorem dX3_write_91 : decode cX3_write 91 = .ok (.i2b, 1) := by decide +kernel
theorem dX3_write_92 : decode cX3_write 92 = .ok (.bastore, 1) := by decide +kernel
theorem dX3_write_93 : decode cX3_write 93 = .ok (.iinc 3 1, 3) := by decide +kernel
theorem dX3_write_96 : decode cX3_write 96 = .ok (.iload 6, 2) := by decide +kernel
theorem dX3_write_98 : decode cX3_write 98 = .ok (.bipush 10, 2) := by decide +kernel
theorem dX3_write_100 : decode cX3_write 100 = .ok (.idiv, 1) := by decide +kernel
theorem dX3_write_101 : decode cX3_write 101 = .ok (.istore 6, 2) := by decide +kernel
theorem dX3_write_103 : decode cX3_write 103 = .ok (.iinc 7 1, 3) := by decide +kernel
theorem dX3_write_106 : decode cX3_write 106 = .ok (.goto (-81), 3) := by decide +kernel
theorem dX3_write_109 : decode cX3_write 109 = .ok (.iinc 5 (-1), 3) := by decide +kernel
theorem dX3_write_112 : decode cX3_write 112 = .ok (.goto (-99), 3) := by decide +kernel
theorem dX3_write_115 : decode cX3_write 115 = .ok (.iload_n 3, 1) := by decide +kernel
theorem dX3_write_116 : decode cX3_write 116 = .ok (.ireturn, 1) := by decide +kernel
theorem dX4_init_0 : decode cX4_init 0 = .ok (.aload_n 0, 1) := by decide +kernel
theorem dX4_init_1 : decode cX4_init 1 = .ok (.invokespecial 3, 3) := by decide +kernel
theorem dX4_init_4 : decode cX4_init 4 = .ok (.aload_n 0, 1) := by decide +kernel
theorem dX4_init_5 : decode cX4_init 5 = .ok (.bipush 24, 2) := by decide +kernel
theorem dX4_init_7 : decode cX4_init 7 = .ok (.bipush 6, 2) := by decide +kernel
theorem dX4_init_9 : decode cX4_init 9 = .ok (.multianewarray 11 2, 4) := by decide +kernel
theorem dX4_init_13 : decode cX4_init 13 = .ok (.putfield 13, 3) := by decide +kernel
theorem dX4_init_16 : decode cX4_init 16 = .ok (.aload_n 0, 1) := by decide +kernel
theorem dX4_init_17 : decode cX4_init 17 = .ok (.iconst 0, 1) := by decide +kernel
theorem dX4_init_18 : decode cX4_init 18 = .ok (.putfield 16, 3) := by decide +kernel
theorem dX4_init_21 : decode cX4_init 21 = .ok (.return_, 1) := by decide +kernel
theorem dX4_isFull_0 : decode cX4_isFull 0 = .ok (.aload_n 0, 1) := by decide +kernel
theorem dX4_isFull_1 : decode cX4_isFull 1 = .ok (.getfield 16, 3) := by decide +kernel
theorem dX4_isFull_4 : decode cX4_isFull 4 = .ok (.bipush 24, 2) := by decide +kernel
theorem dX4_isFull_6 : decode cX4_isFull 6 = .ok (.if_icmp .lt 7, 3) := by decide +kernel
theorem dX4_isFull_9 : decode cX4_isFull 9 = .ok (.iconst 1, 1) := by decide +kernel
theorem dX4_isFull_10 : decode cX4_isFull 10 = .ok (.goto 4, 3) := by decide +kernel
theorem dX4_isFull_13 : decode cX4_isFull 13 = .ok (.iconst 0, 1) := by decide +kernel
theorem dX4_isFull_14 : decode cX4_isFull 14 = .ok (.ireturn, 1) := by decide +kernel
theorem dX4_restart_0 : decode cX4_restart 0 = .ok (.aload_n 0, 1) := by decide +kernel
theorem dX4_restart_1 : decode cX4_restart 1 = .ok (.getfield 13, 3) := by decide +kernel
theorem dX4_restart_4 : decode cX4_restart 4 = .ok (.iconst 0, 1) := by decide +kernel
theorem dX4_restart_5 : decode cX4_restart 5 = .ok (.aaload, 1) := by decide +kernel
theorem dX4_restart_6 : decode cX4_restart 6 = .ok (.invokestatic 20, 3) := by decide +kernel
theorem dX4_restart_9 : decode cX4_restart 9 = .ok (.aload_n 0, 1) := by decide +kernel
theorem dX4_restart_10 : decode cX4_restart 10 = .ok (.iconst 1, 1) := by decide +kernel
theorem dX4_restart_11 : decode cX4_restart 11 = .ok (.putfield 16, 3) := by decide +kernel
theorem dX4_restart_14 : decode cX4_restart 14 = .ok (.return_, 1) := by decide +kernel
theorem dX4_has_0 : decode cX4_has 0 = .ok (.iconst 0, 1) := by decide +kernel
theorem dX4_has_1 : decode cX4_has 1 = .ok (.istore_n 2, 1) := by decide +kernel
theorem dX4_has_2 : decode cX4_has 2 = .ok (.iload_n 2, 1) := by decide +kernel
theorem dX4_has_3 : decode cX4_has 3 = .ok (.aload_n 0, 1) := by decide +kernel
theorem dX4_has_4 : decode cX4_has 4 = .ok (.getfield 16, 3) := by decide +kernel
theorem dX4_has_7 : decode cX4_has 7 = .ok (.if_icmp .ge 24, 3) := by decide +kernel
theorem dX4_has_10 : decode cX4_has 10 = .ok (.aload_n 0, 1) := by decide +kernel
theorem dX4_has_11 : decode cX4_has 11 = .ok (.getfield 13, 3) := by decide +kernel
theorem dX4_has_14 : decode cX4_has 14 = .ok (.iload_n 2, 1) := by decide +kernel
theorem dX4_has_15 : decode cX4_has 15 = .ok (.aaload, 1) := by decide +kernel
theorem dX4_has_16 : decode cX4_has 16 = .ok (.aload_n 1, 1) := by decide +kernel
theorem dX4_has_17 : decode cX4_has 17 = .ok (.invokestatic 26, 3) := by decide +kernel
theorem dX4_has_20 : decode cX4_has 20 = .ok (.ifCond .eq 5, 3) := by decide +kernel
theorem dX4_has_23 : decode cX4_has 23 = .ok (.iconst 1, 1) := by decide +kernel
theorem dX4_has_24 : decode cX4_has 24 = .ok (.ireturn, 1) := by decide +kernel
theorem dX4_has_25 : decode cX4_has 25 = .ok (.iinc 2 1, 3) := by decide +kernel
theorem dX4_has_28 : decode cX4_has 28 = .ok (.goto (-26), 3) := by decide +kernel
theorem dX4_has_31 : decode cX4_has 31 = .ok (.iconst 0, 1) := by decide +kernel
theorem dX4_has_32 : decode cX4_has 32 = .ok (.ireturn, 1) := by decide +kernel
theorem dX4_insert_0 : decode cX4_insert 0 = .ok (.aload_n 0, 1) := by decide +kernel
theorem dX4_insert_1 : decode cX4_insert 1 = .ok (.getfield 16, 3) := by decide +kernel
theorem dX4_insert_4 : decode cX4_insert 4 = .ok (.ifCond .lt 24, 3) := by decide +kernel
theorem dX4_insert_7 : decode cX4_insert 7 = .ok (.aload_n 0, 1) := by decide +kernel
theorem dX4_insert_8 : decode cX4_insert 8 = .ok (.getfield 16, 3) := by decide +kernel
theorem dX4_insert_11 : decode cX4_insert 11 = .ok (.bipush 24, 2) := by decide +kernel
theorem dX4_insert_13 : decode cX4_insert 13 = .ok (.if_icmp .ge 15, 3) := by decide +kernel
theorem dX4_insert_16 : decode cX4_insert 16 = .ok (.iload_n 1, 1) := by decide +kernel
theorem dX4_insert_17 : decode cX4_insert 17 = .ok (.ifCond .lt 11, 3) := by decide +kernel
theorem dX4_insert_20 : decode cX4_insert 20 = .ok (.iload_n 1, 1) := by decide +kernel
theorem dX4_insert_21 : decode cX4_insert 21 = .ok (.aload_n 0, 1) := by decide +kernel
theorem dX4_insert_22 : decode cX4_insert 22 = .ok (.getfield 16, 3) := by decide +kernel
theorem dX4_insert_25 : decode cX4_insert 25 = .ok (.if_icmp .le 5, 3) := by decide +kernel
theorem dX4_insert_28 : decode cX4_insert 28 = .ok (.iconst (-1), 1) := by decide +kernel
theorem dX4_insert_29 : decode cX4_insert 29 = .ok (.ireturn, 1) := by decide +kernel
theorem dX4_insert_30 : decode cX4_insert 30 = .ok (.aload_n 0, 1) := by decide +kernel
theorem dX4_insert_31 : decode cX4_insert 31 = .ok (.getfield 13, 3) := by decide +kernel
theorem dX4_insert_34 : decode cX4_insert 34 = .ok (.aload_n 0, 1) := by decide +kernel
theorem dX4_insert_35 : decode cX4_insert 35 = .ok (.getfield 16, 3) := by decide +kernel
theorem dX4_insert_38 : decode cX4_insert 38 = .ok (.aaload, 1) := by decide +kernel
theorem dX4_insert_39 : decode cX4_insert 39 = .ok (.astore_n 3, 1) := by decide +kernel
theorem dX4_insert_40 : decode cX4_insert 40 = .ok (.aload_n 0, 1) := by decide +kernel
theorem dX4_insert_41 : decode cX4_insert 41 = .ok (.getfield 16, 3) := by decide +kernel
theorem dX4_insert_44 : decode cX4_insert 44 = .ok (.istore 4, 2) := by decide +kernel
theorem dX4_insert_46 : decode cX4_insert 46 = .ok (.iload 4, 2) := by decide +kernel
theorem dX4_insert_48 : decode cX4_insert 48 = .ok (.iload_n 1, 1) := by decide +kernel
theorem dX4_insert_49 : decode cX4_insert 49 = .ok (.if_icmp .le 25, 3) := by decide +kernel
theorem dX4_insert_52 : decode cX4_insert 52 = .ok (.aload_n 0, 1) := by decide +kernel
theorem dX4_insert_53 : decode cX4_insert 53 = .ok (.getfield 13, 3) := by decide +kernel
theorem dX4_insert_56 : decode cX4_insert 56 = .ok (.iload 4, 2) := by decide +kernel
theorem dX4_insert_58 : decode cX4_insert 58 = .ok (.aload_n 0, 1) := by decide +kernel
theorem dX4_insert_59 : decode cX4_insert 59 = .ok (.getfield 13, 3) := by decide +kernel
theorem dX4_insert_62 : decode cX4_insert 62 = .ok (.iload 4, 2) := by decide +kernel
theorem dX4_insert_64 : decode cX4_insert 64 = .ok (.iconst 1, 1) := by decide +kernel
theorem dX4_insert_65 : decode cX4_insert 65 = .ok (.isub, 1) := by decide +kernel
theorem dX4_insert_66 : decode cX4_insert 66 = .ok (.aaload, 1) := by decide +kernel
theorem dX4_insert_67 : decode cX4_insert 67 = .ok (.aastore, 1) := by decide +kernel
theorem dX4_insert_68 : decode cX4_insert 68 = .ok (.iinc 4 (-1), 3) := by decide +kernel
theorem dX4_insert_71 : decode cX4_insert 71 = .ok (.goto (-25), 3) := by decide +kernel
theorem dX4_insert_74 : decode cX4_insert 74 = .ok (.aload_n 0, 1) := by decide +kernel
theorem dX4_insert_75 : decode cX4_insert 75 = .ok (.getfield 13, 3) := by decide +kernel
theorem dX4_insert_78 : decode cX4_insert 78 = .ok (.iload_n 1, 1) := by decide +kernel
theorem dX4_insert_79 : decode cX4_insert 79 = .ok (.aload_n 3, 1) := by decide +kernel
theorem dX4_insert_80 : decode cX4_insert 80 = .ok (.aastore, 1) := by decide +kernel
theorem dX4_insert_81 : decode cX4_insert 81 = .ok (.aload_n 2, 1) := by decide +kernel
theorem dX4_insert_82 : decode cX4_insert 82 = .ok (.aload_n 3, 1) := by decide +kernel
theorem dX4_insert_83 : decode cX4_insert 83 = .ok (.invokestatic 30, 3) := by decide +kernel
theorem dX4_insert_86 : decode cX4_insert 86 = .ok (.aload_n 0, 1) := by decide +kernel
theorem dX4_insert_87 : decode cX4_insert 87 = .ok (.dup, 1) := by decide +kernel
theorem dX4_insert_88 : decode cX4_insert 88 = .ok (.getfield 16, 3) := by decide +kernel
theorem dX4_insert_91 : decode cX4_insert 91 = .ok (.iconst 1, 1) := by decide +kernel
theorem dX4_insert_92 : decode cX4_insert 92 = .ok (.iadd, 1) := by decide +kernel
theorem dX4_insert_93 : decode cX4_insert 93 = .ok (.putfield 16, 3) := by decide +kernel
theorem dX4_insert_96 : decode cX4_insert 96 = .ok (.iload_n 1, 1) := by decide +kernel
theorem dX4_insert_97 : decode cX4_insert 97 = .ok (.ireturn, 1) := by decide +kernel
theorem dX4_placeOf_0 : decode cX4_placeOf 0 = .ok (.iconst 0, 1) := by decide +kernel
theorem dX4_placeOf_1 : decode cX4_placeOf 1 = .ok (.istore_n 3, 1) := by decide +kernel
theorem dX4_placeOf_2 : decode cX4_placeOf 2 = .ok (.aload_n 0, 1) := by decide +kernel
theorem dX4_placeOf_3 : decode cX4_placeOf 3 = .ok (.getfield 16, 3) := by decide +kernel
theorem dX4_placeOf_6 : decode cX4_placeOf 6 = .ok (.istore 4, 2) := by decide +kernel
theorem dX4_placeOf_8 : decode cX4_placeOf 8 = .ok (.iconst 0, 1) := by decide +kernel
theorem dX4_placeOf_9 : decode cX4_placeOf 9 = .ok (.istore 5, 2) := by decide +kernel
theorem dX4_placeOf_11 : decode cX4_placeOf 11 = .ok (.iload 5, 2) := by decide +kernel
theorem dX4_placeOf_13 : decode cX4_placeOf 13 = .ok (.bipush 8, 2) := by decide +kernel
theorem dX4_placeOf_15 : decode cX4_placeOf 15 = .ok (.if_icmp .ge 50, 3) := by decide +kernel
theorem dX4_placeOf_18 : decode cX4_placeOf 18 = .ok (.iload_n 3, 1) := by decide +kernel
theorem dX4_placeOf_19 : decode cX4_placeOf 19 = .ok (.iload 4, 2) := by decide +kernel
theorem dX4_placeOf_21 : decode cX4_placeOf 21 = .ok (.if_icmp .ge 44, 3) := by decide +kernel
theorem dX4_placeOf_24 : decode cX4_placeOf 24 = .ok (.iload_n 3, 1) := by decide +kernel
theorem dX4_placeOf_25 : decode cX4_placeOf 25 = .ok (.iload 4, 2) := by decide +kernel
theorem dX4_placeOf_27 : decode cX4_placeOf 27 = .ok (.iadd, 1) := by decide +kernel
theorem dX4_placeOf_28 : decode cX4_placeOf 28 = .ok (.iconst 2, 1) := by decide +kernel
theorem dX4_placeOf_29 : decode cX4_placeOf 29 = .ok (.idiv, 1) := by decide +kernel
theorem dX4_placeOf_30 : decode cX4_placeOf 30 = .ok (.istore 6, 2) := by decide +kernel
theorem dX4_placeOf_32 : decode cX4_placeOf 32 = .ok (.aload_n 2, 1) := by decide +kernel
theorem dX4_placeOf_33 : decode cX4_placeOf 33 = .ok (.aload_n 0, 1) := by decide +kernel
theorem dX4_placeOf_34 : decode cX4_placeOf 34 = .ok (.getfield 13, 3) := by decide +kernel
theorem dX4_placeOf_37 : decode cX4_placeOf 37 = .ok (.iload 6, 2) := by decide +kernel
theorem dX4_placeOf_39 : decode cX4_placeOf 39 = .ok (.aaload, 1) := by decide +kernel
theorem dX4_placeOf_40 : decode cX4_placeOf 40 = .ok (.aload_n 1, 1) := by decide +kernel
theorem dX4_placeOf_41 : decode cX4_placeOf 41 = .ok (.invokevirtual 34, 3) := by decide +kernel
theorem dX4_placeOf_44 : decode cX4_placeOf 44 = .ok (.ifCond .ge 11, 3) := by decide +kernel
theorem dX4_placeOf_47 : decode cX4_placeOf 47 = .ok (.iload 6, 2) := by decide +kernel
theorem dX4_placeOf_49 : decode cX4_placeOf 49 = .ok (.iconst 1, 1) := by decide +kernel
theorem dX4_placeOf_50 : decode cX4_placeOf 50 = .ok (.iadd, 1) := by decide +kernel
theorem dX4_placeOf_51 : decode cX4_placeOf 51 = .ok (.istore_n 3, 1) := by decide +kernel
theorem dX4_placeOf_52 : decode cX4_placeOf 52 = .ok (.goto 7, 3) := by decide +kernel
theorem dX4_placeOf_55 : decode cX4_placeOf 55 = .ok (.iload 6, 2) := by decide +kernel
theorem dX4_placeOf_57 : decode cX4_placeOf 57 = .ok (.istore 4, 2) := by decide +kernel
theorem dX4_placeOf_59 : decode cX4_placeOf 59 = .ok (.iinc 5 1, 3) := by decide +kernel
theorem dX4_placeOf_62 : decode cX4_placeOf 62 = .ok (.goto (-51), 3) := by decide +kernel
theorem dX4_placeOf_65 : decode cX4_placeOf 65 = .ok (.iload_n 3, 1) := by decide +kernel
theorem dX4_placeOf_66 : decode cX4_placeOf 66 = .ok (.ireturn, 1) := by decide +kernel
theorem dX5_makeOne_0 : decode cX5_makeOne 0 = .ok (.iconst 0, 1) := by decide +kernel
theorem dX5_makeOne_1 : decode cX5_makeOne 1 = .ok (.istore_n 1, 1) := by decide +kernel
theorem dX5_makeOne_2 : decode cX5_makeOne 2 = .ok (.iload_n 1, 1) := by decide +kernel
theorem dX5_makeOne_3 : decode cX5_makeOne 3 = .ok (.bipush 6, 2) := by decide +kernel
theorem dX5_makeOne_5 : decode cX5_makeOne 5 = .ok (.if_icmp .ge 13, 3) := by decide +kernel
theorem dX5_makeOne_8 : decode cX5_makeOne 8 = .ok (.aload_n 0, 1) := by decide +kernel
theorem dX5_makeOne_9 : decode cX5_makeOne 9 = .ok (.iload_n 1, 1) := by decide +kernel
theorem dX5_makeOne_10 : decode cX5_makeOne 10 = .ok (.iconst 0, 1) := by decide +kernel
theorem dX5_makeOne_11 : decode cX5_makeOne 11 = .ok (.iastore, 1) := by decide +kernel
theorem dX5_makeOne_12 : decode cX5_makeOne 12 = .ok (.iinc 1 1, 3) := by decide +kernel
theorem dX5_makeOne_15 : decode cX5_makeOne 15 = .ok (.goto (-13), 3) := by decide +kernel
theorem dX5_makeOne_18 : decode cX5_makeOne 18 = .ok (.return_, 1) := by decide +kernel
theorem dX5_copy_0 : decode cX5_copy 0 = .ok (.aload_n 0, 1) := by decide +kernel
theorem dX5_copy_1 : decode cX5_copy 1 = .ok (.iconst 0, 1) := by decide +kernel
theorem dX5_copy_2 : decode cX5_copy 2 = .ok (.aload_n 1, 1) := by decide +kernel
theorem dX5_copy_3 : decode cX5_copy 3 = .ok (.iconst 0, 1) := by decide +kernel
theorem dX5_copy_4 : decode cX5_copy 4 = .ok (.bipush 6, 2) := by decide +kernel
theorem dX5_copy_6 : decode cX5_copy 6 = .ok (.invokestatic 9, 3) := by decide +kernel
theorem dX5_copy_9 : decode cX5_copy 9 = .ok (.return_, 1) := by decide +kernel
theorem dX5_combine_0 : decode cX5_combine 0 = .ok (.iconst 0, 1) := by decide +kernel
theorem dX5_combine_1 : decode cX5_combine 1 = .ok (.istore 4, 2) := by decide +kernel
theorem dX5_combine_3 : decode cX5_combine 3 = .ok (.iload 4, 2) := by decide +kernel
theorem dX5_combine_5 : decode cX5_combine 5 = .ok (.bipush 6, 2) := by decide +kernel
theorem dX5_combine_7 : decode cX5_combine 7 = .ok (.if_icmp .ge 24, 3) := by decide +kernel
theorem dX5_combine_10 : decode cX5_combine 10 = .ok (.aload_n 3, 1) := by decide +kernel
theorem dX5_combine_11 : decode cX5_combine 11 = .ok (.iload 4, 2) := by decide +kernel
theorem dX5_combine_13 : decode cX5_combine 13 = .ok (.aload_n 0, 1) := by decide +kernel
theorem dX5_combine_14 : decode cX5_combine 14 = .ok (.iload 4, 2) := by decide +kernel
theorem dX5_combine_16 : decode cX5_combine 16 = .ok (.iaload, 1) := by decide +kernel
theorem dX5_combine_17 : decode cX5_combine 17 = .ok (.iload_n 2, 1) := by decide +kernel
theorem dX5_combine_18 : decode cX5_combine 18 = .ok (.aload_n 1, 1) := by decide +kernel
theorem dX5_combine_19 : decode cX5_combine 19 = .ok (.iload 4, 2) := by decide +kernel
theorem dX5_combine_21 : decode cX5_combine 21 = .ok (.iaload, 1) := by decide +kernel
theorem dX5_combine_22 : decode cX5_combine 22 = .ok (.imul, 1) := by decide +kernel
theorem dX5_combine_23 : decode cX5_combine 23 = .ok (.iadd, 1) := by decide +kernel
theorem dX5_combine_24 : decode cX5_combine 24 = .ok (.iastore, 1) := by decide +kernel
theorem dX5_combine_25 : decode cX5_combine 25 = .ok (.iinc 4 1, 3) := by decide +kernel
theorem dX5_combine_28 : decode cX5_combine 28 = .ok (.goto (-25), 3) := by decide +kernel
theorem dX5_combine_31 : decode cX5_combine 31 = .ok (.return_, 1) := by decide +kernel
theorem dX5_isWithin_0 : decode cX5_isWithin 0 = .ok (.iconst 0, 1) := by decide +kernel
theorem dX5_isWithin_1 : decode cX5_isWithin 1 = .ok (.istore_n 2, 1) := by decide +kernel
theorem dX5_isWithin_2 : decode cX5_isWithin 2 = .ok (.iload_n 2, 1) := by decide +kernel
theorem dX5_isWithin_3 : decode cX5_isWithin 3 = .ok (.bipush 6, 2) := by decide +kernel
theorem dX5_isWithin_5 : decode cX5_isWithin 5 = .ok (.if_icmp .ge 26, 3) := by decide +kernel
theorem dX5_isWithin_8 : decode cX5_isWithin 8 = .ok (.aload_n 0, 1) := by decide +kernel
theorem dX5_isWithin_9 : decode cX5_isWithin 9 = .ok (.iload_n 2, 1) := by decide +kernel
theorem dX5_isWithin_10 : decode cX5_isWithin 10 = .ok (.iaload, 1) := by decide +kernel
theorem dX5_isWithin_11 : decode cX5_isWithin 11 = .ok (.iload_n 1, 1) := by decide +kernel
theorem dX5_isWithin_12 : decode cX5_isWithin 12 = .ok (.ineg, 1) := by decide +kernel
theorem dX5_isWithin_13 : decode cX5_isWithin 13 = .ok (.if_icmp .lt 10, 3) := by decide +kernel
theorem dX5_isWithin_16 : decode cX5_isWithin 16 = .ok (.aload_n 0, 1) := by decide +kernel
theorem dX5_isWithin_17 : decode cX5_isWithin 17 = .ok (.iload_n 2, 1) := by decide +kernel
theorem dX5_isWithin_18 : decode cX5_isWithin 18 = .ok (.iaload, 1) := by decide +kernel
theorem dX5_isWithin_19 : decode cX5_isWithin 19 = .ok (.iload_n 1, 1) := by decide +kernel
theorem dX5_isWithin_20 : decode cX5_isWithin 20 = .ok (.if_icmp .le 5, 3) := by decide +kernel
theorem dX5_isWithin_23 : decode cX5_isWithin 23 = .ok (.iconst 0, 1) := by decide +kernel
theorem dX5_isWithin_24 : decode cX5_isWithin 24 = .ok (.ireturn, 1) := by decide +kernel
theorem dX5_isWithin_25 : decode cX5_isWithin 25 = .ok (.iinc 2 1, 3) := by decide +kernel
theorem dX5_isWithin_28 : decode cX5_isWithin 28 = .ok (.goto (-26), 3) := by decide +kernel
theorem dX5_isWithin_31 : decode cX5_isWithin 31 = .ok (.iconst 1, 1) := by decide +kernel
theorem dX5_isWithin_32 : decode cX5_isWithin 32 = .ok (.ireturn, 1) := by decide +kernel
theorem dX5_isOne_0 : decode cX5_isOne 0 = .ok (.aload_n 0, 1) := by decide +kernel
theorem dX5_isOne_1 : decode cX5_isOne 1 = .ok (.iconst 0, 1) := by decide +kernel
theorem dX5_isOne_2 : decode cX5_isOne 2 = .ok (.invokestatic 15, 3) := by decide +kernel
theorem dX5_isOne_5 : decode cX5_isOne 5 = .ok (.ireturn, 1) := by decide +kernel
theorem dX5_isSame_0 : decode cX5_isSame 0 = .ok (.iconst 0, 1) := by decide +kernel
theorem dX5_isSame_1 : decode cX5_isSame 1 = .ok (.istore_n 2, 1) := by decide +kernel
theorem dX5_isSame_2 : decode cX5_isSame 2 = .ok (.iload_n 2, 1) := by decide +kernel
theorem dX5_isSame_3 : decode cX5_isSame 3 = .ok (.bipush 6, 2) := by decide +kernel
theorem dX5_isSame_5 : decode cX5_isSame 5 = .ok (.if_icmp .ge 20, 3) := by decide +kernel
theorem dX5_isSame_8 : decode cX5_isSame 8 = .ok (.aload_n 0, 1) := by decide +kernel
theorem dX5_isSame_9 : decode cX5_isSame 9 = .ok (.iload_n 2, 1) := by decide +kernel
theorem dX5_isSame_10 : decode cX5_isSame 10 = .ok (.iaload, 1) := by decide +kernel
theorem dX5_isSame_11 : decode cX5_isSame 11 = .ok (.aload_n 1, 1) := by decide +kernel
theorem dX5_isSame_12 : decode cX5_isSame 12 = .ok (.iload_n 2, 1) := by decide +kernel
theorem dX5_isSame_13 : decode cX5_isSame 13 = .ok (.iaload, 1) := by decide +kernel
theorem dX5_isSame_14 : decode cX5_isSame 14 = .ok (.if_icmp .eq 5, 3) := by decide +kernel
theorem dX5_isSame_17 : decode cX5_isSame 17 = .ok (.iconst 0, 1) := by decide +kernel
theorem dX5_isSame_18 : decode cX5_isSame 18 = .ok (.ireturn, 1) := by decide +kernel
theorem dX5_isSame_19 : decode cX5_isSame 19 = .ok (.iinc 2 1, 3) := by decide +kernel
theorem dX5_isSame_22 : decode cX5_isSame 22 = .ok (.goto (-20), 3) := by decide +kernel
theorem dX5_isSame_25 : decode cX5_isSame 25 = .ok (.iconst 1, 1) := by decide +kernel
theorem dX5_isSame_26 : decode cX5_isSame 26 = .ok (.ireturn, 1) := by decide +kernel
theorem dX5_factor_0 : decode cX5_factor 0 = .ok (.iload_n 0, 1) := by decide +kernel
theorem dX5_factor_1 : decode cX5_factor 1 = .ok (.i2l, 1) := by decide +kernel
theorem dX5_factor_2 : decode cX5_factor 2 = .ok (.iload_n 1, 1) := by decide +kernel
theorem dX5_factor_3 : decode cX5_factor 3 = .ok (.i2l, 1) := by decide +kernel
theorem dX5_factor_4 : decode cX5_factor 4 = .ok (.invokestatic 21, 3) := by decide +kernel
theorem dX5_factor_7 : decode cX5_factor 7 = .ok (.lstore_n 3, 1) := by decide +kernel
theorem dX5_factor_8 : decode cX5_factor 8 = .ok (.lload_n 3, 1) := by decide +kernel
theorem dX5_factor_9 : decode cX5_factor 9 = .ok (.lconst 1, 1) := by decide +kernel
theorem dX5_factor_10 : decode cX5_factor 10 = .ok (.lcmp, 1) := by decide +kernel
theorem dX5_factor_11 : decode cX5_factor 11 = .ok (.ifCond .ge 5, 3) := by decide +kernel
theorem dX5_factor_14 : decode cX5_factor 14 = .ok (.iconst 0, 1) := by decide +kernel
theorem dX5_factor_15 : decode cX5_factor 15 = .ok (.ireturn, 1) := by decide +kernel
theorem dX5_factor_16 : decode cX5_factor 16 = .ok (.iload_n 0, 1) := by decide +kernel
theorem dX5_factor_17 : decode cX5_factor 17 = .ok (.i2l, 1) := by decide +kernel
theorem dX5_factor_18 : decode cX5_factor 18 = .ok (.lload_n 3, 1) := by decide +kernel
theorem dX5_factor_19 : decode cX5_factor 19 = .ok (.ldiv, 1) := by decide +kernel
theorem dX5_factor_20 : decode cX5_factor 20 = .ok (.lstore 5, 2) := by decide +kernel
theorem dX5_factor_22 : decode cX5_factor 22 = .ok (.iload_n 1, 1) := by decide +kernel
theorem dX5_factor_23 : decode cX5_factor 23 = .ok (.i2l, 1) := by decide +kernel
theorem dX5_factor_24 : decode cX5_factor 24 = .ok (.lload_n 3, 1) := by decide +kernel
theorem dX5_factor_25 : decode cX5_factor 25 = .ok (.ldiv, 1) := by decide +kernel
theorem dX5_factor_26 : decode cX5_factor 26 = .ok (.lstore 7, 2) := by decide +kernel
theorem dX5_factor_28 : decode cX5_factor 28 = .ok (.iconst 0, 1) := by decide +kernel
theorem dX5_factor_29 : decode cX5_factor 29 = .ok (.istore 9, 2) := by decide +kernel
theorem dX5_factor_31 : decode cX5_factor 31 = .ok (.iload 9, 2) := by decide +kernel
theorem dX5_factor_33 : decode cX5_factor 33 = .ok (.bipush 6, 2) := by decide +kernel
theorem dX5_factor_35 : decode cX5_factor 35 = .ok (.if_icmp .ge 110, 3) := by decide +kernel
theorem dX5_factor_38 : decode cX5_factor 38 = .ok (.iconst 0, 1) := by decide +kernel
theorem dX5_factor_39 : decode cX5_factor 39 = .ok (.istore 10, 2) := by decide +kernel
theorem dX5_factor_41 : decode cX5_factor 41 = .ok (.iconst 0, 1) := by decide +kernel
theorem dX5_factor_42 : decode cX5_factor 42 = .ok (.istore 11, 2) := by decide +kernel
theorem dX5_factor_44 : decode cX5_factor 44 = .ok (.iload 11, 2) := by decide +kernel
theorem dX5_factor_46 : decode cX5_factor 46 = .ok (.bipush 64, 2) := by decide +kernel
theorem dX5_factor_48 : decode cX5_factor 48 = .ok (.if_icmp .ge 39, 3) := by decide +kernel
theorem dX5_factor_51 : decode cX5_factor 51 = .ok (.lload 5, 2) := by decide +kernel
theorem dX5_factor_53 : decode cX5_factor 53 = .ok (.getstatic 25, 3) := by decide +kernel
theorem dX5_factor_56 : decode cX5_factor 56 = .ok (.iload 9, 2) := by decide +kernel
theorem dX5_factor_58 : decode cX5_factor 58 = .ok (.iaload, 1) := by decide +kernel
theorem dX5_factor_59 : decode cX5_factor 59 = .ok (.i2l, 1) := by decide +kernel
theorem dX5_factor_60 : decode cX5_factor 60 = .ok (.lrem, 1) := by decide +kernel
theorem dX5_factor_61 : decode cX5_factor 61 = .ok (.lconst 0, 1) := by decide +kernel
theorem dX5_factor_62 : decode cX5_factor 62 = .ok (.lcmp, 1) := by decide +kernel
theorem dX5_factor_63 : decode cX5_factor 63 = .ok (.ifCond .ne 24, 3) := by decide +kernel
theorem dX5_factor_66 : decode cX5_factor 66 = .ok (.lload 5, 2) := by decide +kernel
theorem dX5_factor_68 : decode cX5_factor 68 = .ok (.getstatic 25, 3) := by decide +kernel
theorem dX5_factor_71 : decode cX5_factor 71 = .ok (.iload 9, 2) := by decide +kernel
theorem dX5_factor_73 : decode cX5_factor 73 = .ok (.iaload, 1) := by decide +kernel
theorem dX5_factor_74 : decode cX5_factor 74 = .ok (.i2l, 1) := by decide +kernel
theorem dX5_factor_75 : decode cX5_factor 75 = .ok (.ldiv, 1) := by decide +kernel
theorem dX5_factor_76 : decode cX5_factor 76 = .ok (.lstore 5, 2) := by decide +kernel
theorem dX5_factor_78 : decode cX5_factor 78 = .ok (.iinc 10 1, 3) := by decide +kernel
theorem dX5_factor_81 : decode cX5_factor 81 = .ok (.iinc 11 1, 3) := by decide +kernel
theorem dX5_factor_84 : decode cX5_factor 84 = .ok (.goto (-40), 3) := by decide +kernel
theorem dX5_factor_87 : decode cX5_factor 87 = .ok (.iconst 0, 1) := by decide +kernel
theorem dX5_factor_88 : decode cX5_factor 88 = .ok (.istore 11, 2) := by decide +kernel
theorem dX5_factor_90 : decode cX5_factor 90 = .ok (.iload 11, 2) := by decide +kernel
theorem dX5_factor_92 : decode cX5_factor 92 = .ok (.bipush 64, 2) := by decide +kernel
theorem dX5_factor_94 : decode cX5_factor 94 = .ok (.if_icmp .ge 39, 3) := by decide +kernel
theorem dX5_factor_97 : decode cX5_factor 97 = .ok (.lload 7, 2) := by decide +kernel
theorem dX5_factor_99 : decode cX5_factor 99 = .ok (.getstatic 25, 3) := by decide +kernel
theorem dX5_factor_102 : decode cX5_factor 102 = .ok (.iload 9, 2) := by decide +kernel
theorem dX5_factor_104 : decode cX5_factor 104 = .ok (.iaload, 1) := by decide +kernel
theorem dX5_factor_105 : decode cX5_factor 105 = .ok (.i2l, 1) := by decide +kernel
theorem dX5_factor_106 : decode cX5_factor 106 = .ok (.lrem, 1) := by decide +kernel
theorem dX5_factor_107 : decode cX5_factor 107 = .ok (.lconst 0, 1) := by decide +kernel
theorem dX5_factor_108 : decode cX5_factor 108 = .ok (.lcmp, 1) := by decide +kernel
theorem dX5_factor_109 : decode cX5_factor 109 = .ok (.ifCond .ne 24, 3) := by decide +kernel
theorem dX5_factor_112 : decode cX5_factor 112 = .ok (.lload 7, 2) := by decide +kernel
theorem dX5_factor_114 : decode cX5_factor 114 = .ok (.getstatic 25, 3) := by decide +kernel
theorem dX5_factor_117 : decode cX5_factor 117 = .ok (.iload 9, 2) := by decide +kernel
theorem dX5_factor_119 : decode cX5_factor 119 = .ok (.iaload, 1) := by decide +kernel
theorem dX5_factor_120 : decode cX5_factor 120 = .ok (.i2l, 1) := by decide +kernel
theorem dX5_factor_121 : decode cX5_factor 121 = .ok (.ldiv, 1) := by decide +kernel
theorem dX5_factor_122 : decode cX5_factor 122 = .ok (.lstore 7, 2) := by decide +kernel
theorem dX5_factor_124 : decode cX5_factor 124 = .ok (.iinc 10 (-1), 3) := by decide +kernel
theorem dX5_factor_127 : decode cX5_factor 127 = .ok (.iinc 11 1, 3) := by decide +kernel
theorem dX5_factor_130 : decode cX5_factor 130 = .ok (.goto (-40), 3) := by decide +kernel
theorem dX5_factor_133 : decode cX5_factor 133 = .ok (.aload_n 2, 1) := by decide +kernel
theorem dX5_factor_134 : decode cX5_factor 134 = .ok (.iload 9, 2) := by decide +kernel
theorem dX5_factor_136 : decode cX5_factor 136 = .ok (.iload 10, 2) := by decide +kernel
theorem dX5_factor_138 : decode cX5_factor 138 = .ok (.iastore, 1) := by decide +kernel
theorem dX5_factor_139 : decode cX5_factor 139 = .ok (.iinc 9 1, 3) := by decide +kernel
theorem dX5_factor_142 : decode cX5_factor 142 = .ok (.goto (-111), 3) := by decide +kernel
theorem dX5_factor_145 : decode cX5_factor 145 = .ok (.lload 5, 2) := by decide +kernel
theorem dX5_factor_147 : decode cX5_factor 147 = .ok (.lconst 1, 1) := by decide +kernel
theorem dX5_factor_148 : decode cX5_factor 148 = .ok (.lcmp, 1) := by decide +kernel
theorem dX5_factor_149 : decode cX5_factor 149 = .ok (.ifCond .ne 14, 3) := by decide +kernel
theorem dX5_factor_152 : decode cX5_factor 152 = .ok (.lload 7, 2) := by decide +kernel
theorem dX5_factor_154 : decode cX5_factor 154 = .ok (.lconst 1, 1) := by decide +kernel
theorem dX5_factor_155 : decode cX5_factor 155 = .ok (.lcmp, 1) := by decide +kernel
theorem dX5_factor_156 : decode cX5_factor 156 = .ok (.ifCond .ne 7, 3) := by decide +kernel
theorem dX5_factor_159 : decode cX5_factor 159 = .ok (.iconst 1, 1) := by decide +kernel
theorem dX5_factor_160 : decode cX5_factor 160 = .ok (.goto 4, 3) := by decide +kernel
theorem dX5_factor_163 : decode cX5_factor 163 = .ok (.iconst 0, 1) := by decide +kernel
theorem dX5_factor_164 : decode cX5_factor 164 = .ok (.ireturn, 1) := by decide +kernel
theorem dX5_commonDivisor_0 : decode cX5_commonDivisor 0 = .ok (.lload_n 0, 1) := by decide +kernel
theorem dX5_commonDivisor_1 : decode cX5_commonDivisor 1 = .ok (.invokestatic 29, 3) := by decide +kernel
theorem dX5_commonDivisor_4 : decode cX5_commonDivisor 4 = .ok (.lstore 4, 2) := by decide +kernel
theorem dX5_commonDivisor_6 : decode cX5_commonDivisor 6 = .ok (.lload_n 2, 1) := by decide +kernel
theorem dX5_commonDivisor_7 : decode cX5_commonDivisor 7 = .ok (.invokestatic 29, 3) := by decide +kernel
theorem dX5_commonDivisor_10 : decode cX5_commonDivisor 10 = .ok (.lstore 6, 2) := by decide +kernel
theorem dX5_commonDivisor_12 : decode cX5_commonDivisor 12 = .ok (.iconst 0, 1) := by decide +kernel
theorem dX5_commonDivisor_13 : decode cX5_commonDivisor 13 = .ok (.istore 8, 2) := by decide +kernel
theorem dX5_commonDivisor_15 : decode cX5_commonDivisor 15 = .ok (.iload 8, 2) := by decide +kernel
theorem dX5_commonDivisor_17 : decode cX5_commonDivisor 17 = .ok (.sipush 128, 3) := by decide +kernel
theorem dX5_commonDivisor_20 : decode cX5_commonDivisor 20 = .ok (.if_icmp .ge 31, 3) := by decide +kernel
theorem dX5_commonDivisor_23 : decode cX5_commonDivisor 23 = .ok (.lload 6, 2) := by decide +kernel
theorem dX5_commonDivisor_25 : decode cX5_commonDivisor 25 = .ok (.lconst 0, 1) := by decide +kernel
theorem dX5_commonDivisor_26 : decode cX5_commonDivisor 26 = .ok (.lcmp, 1) := by decide +kernel
theorem dX5_commonDivisor_27 : decode cX5_commonDivisor 27 = .ok (.ifCond .eq 24, 3) := by decide +kernel
theorem dX5_commonDivisor_30 : decode cX5_commonDivisor 30 = .ok (.lload 4, 2) := by decide +kernel
theorem dX5_commonDivisor_32 : decode cX5_commonDivisor 32 = .ok (.lload 6, 2) := by decide +kernel
theorem dX5_commonDivisor_34 : decode cX5_commonDivisor 34 = .ok (.lrem, 1) := by decide +kernel
theorem dX5_commonDivisor_35 : decode cX5_commonDivisor 35 = .ok (.lstore 9, 2) := by decide +kernel
theorem dX5_commonDivisor_37 : decode cX5_commonDivisor 37 = .ok (.lload 6, 2) := by decide +kernel
theorem dX5_commonDivisor_39 : decode cX5_commonDivisor 39 = .ok (.lstore 4, 2) := by decide +kernel
theorem dX5_commonDivisor_41 : decode cX5_commonDivisor 41 = .ok (.lload 9, 2) := by decide +kernel
theorem dX5_commonDivisor_43 : decode cX5_commonDivisor 43 = .ok (.lstore 6, 2) := by decide +kernel
theorem dX5_commonDivisor_45 : decode cX5_commonDivisor 45 = .ok (.iinc 8 1, 3) := by decide +kernel
theorem dX5_commonDivisor_48 : decode cX5_commonDivisor 48 = .ok (.goto (-33), 3) := by decide +kernel
theorem dX5_commonDivisor_51 : decode cX5_commonDivisor 51 = .ok (.lload 4, 2) := by decide +kernel
theorem dX5_commonDivisor_53 : decode cX5_commonDivisor 53 = .ok (.lreturn, 1) := by decide +kernel
theorem dX6_init_0 : decode cX6_init 0 = .ok (.aload_n 0, 1) := by decide +kernel
theorem dX6_init_1 : decode cX6_init 1 = .ok (.invokespecial 3, 3) := by decide +kernel
theorem dX6_init_4 : decode cX6_init 4 = .ok (.aload_n 0, 1) := by decide +kernel
theorem dX6_init_5 : decode cX6_init 5 = .ok (.aload_n 1, 1) := by decide +kernel
theorem dX6_init_6 : decode cX6_init 6 = .ok (.putfield 9, 3) := by decide +kernel
theorem dX6_init_9 : decode cX6_init 9 = .ok (.aload_n 0, 1) := by decide +kernel
theorem dX6_init_10 : decode cX6_init 10 = .ok (.bipush 6, 2) := by decide +kernel
theorem dX6_init_12 : decode cX6_init 12 = .ok (.newarray .int, 2) := by decide +kernel
theorem dX6_init_14 : decode cX6_init 14 = .ok (.putfield 15, 3) := by decide +kernel
theorem dX6_init_17 : decode cX6_init 17 = .ok (.aload_n 0, 1) := by decide +kernel
theorem dX6_init_18 : decode cX6_init 18 = .ok (.bipush 6, 2) := by decide +kernel
theorem dX6_init_20 : decode cX6_init 20 = .ok (.newarray .int, 2) := by decide +kernel
theorem dX6_init_22 : decode cX6_init 22 = .ok (.putfield 19, 3) := by decide +kernel
theorem dX6_init_25 : decode cX6_init 25 = .ok (.aload_n 0, 1) := by decide +kernel
theorem dX6_init_26 : decode cX6_init 26 = .ok (.bipush 6, 2) := by decide +kernel
theorem dX6_init_28 : decode cX6_init 28 = .ok (.newarray .int, 2) := by decide +kernel
theorem dX6_init_30 : decode cX6_init 30 = .ok (.putfield 22, 3) := by decide +kernel
theorem dX6_init_33 : decode cX6_init 33 = .ok (.aload_n 0, 1) := by decide +kernel
theorem dX6_init_34 : decode cX6_init 34 = .ok (.bipush 6, 2) := by decide +kernel
theorem dX6_init_36 : decode cX6_init 36 = .ok (.newarray .int, 2) := by decide +kernel
theorem dX6_init_38 : decode cX6_init 38 = .ok (.putfield 25, 3) := by decide +kernel
theorem dX6_init_41 : decode cX6_init 41 = .ok (.aload_n 0, 1) := by decide +kernel
theorem dX6_init_42 : decode cX6_init 42 = .ok (.bipush 24, 2) := by decide +kernel
theorem dX6_init_44 : decode cX6_init 44 = .ok (.bipush 6, 2) := by decide +kernel
theorem dX6_init_46 : decode cX6_init 46 = .ok (.multianewarray 30 2, 4) := by decide +kernel
theorem dX6_init_50 : decode cX6_init 50 = .ok (.putfield 32, 3) := by decide +kernel
theorem dX6_init_53 : decode cX6_init 53 = .ok (.aload_n 0, 1) := by decide +kernel
theorem dX6_init_54 : decode cX6_init 54 = .ok (.bipush 24, 2) := by decide +kernel
theorem dX6_init_56 : decode cX6_init 56 = .ok (.newarray .int, 2) := by decide +kernel
theorem dX6_init_58 : decode cX6_init 58 = .ok (.putfield 35, 3) := by decide +kernel
theorem dX6_init_61 : decode cX6_init 61 = .ok (.aload_n 0, 1) := by decide +kernel
theorem dX6_init_62 : decode cX6_init 62 = .ok (.new 28, 3) := by decide +kernel
theorem dX6_init_65 : decode cX6_init 65 = .ok (.dup, 1) := by decide +kernel
theorem dX6_init_66 : decode cX6_init 66 = .ok (.invokespecial 38, 3) := by decide +kernel
theorem dX6_init_69 : decode cX6_init 69 = .ok (.putfield 39, 3) := by decide +kernel
theorem dX6_init_72 : decode cX6_init 72 = .ok (.aload_n 0, 1) := by decide +kernel
theorem dX6_init_73 : decode cX6_init 73 = .ok (.new 28, 3) := by decide +kernel
theorem dX6_init_76 : decode cX6_init 76 = .ok (.dup, 1) := by decide +kernel
theorem dX6_init_77 : decode cX6_init 77 = .ok (.invokespecial 38, 3) := by decide +kernel
theorem dX6_init_80 : decode cX6_init 80 = .ok (.putfield 43, 3) := by decide +kernel
theorem dX6_init_83 : decode cX6_init 83 = .ok (.return_, 1) := by decide +kernel
theorem dX6_exists_0 : decode cX6_exists 0 = .ok (.aload_n 0, 1) := by decide +kernel
theorem dX6_exists_1 : decode cX6_exists 1 = .ok (.getfield 39, 3) := by decide +kernel
theorem dX6_exists_4 : decode cX6_exists 4 = .ok (.getfield 46, 3) := by decide +kernel
theorem dX6_exists_7 : decode cX6_exists 7 = .ok (.ifCond .le 7, 3) := by decide +kernel
theorem dX6_exists_10 : decode cX6_exists 10 = .ok (.iconst 1, 1) := by decide +kernel
theorem dX6_exists_11 : decode cX6_exists 11 = .ok (.goto 4, 3) := by decide +kernel
theorem dX6_exists_14 : decode cX6_exists 14 = .ok (.iconst 0, 1) := by decide +kernel
theorem dX6_exists_15 : decode cX6_exists 15 = .ok (.ireturn, 1) := by decide +kernel
theorem dX6_start_0 : decode cX6_start 0 = .ok (.aload_n 1, 1) := by decide +kernel
theorem dX6_start_1 : decode cX6_start 1 = .ok (.aload_n 0, 1) := by decide +kernel
theorem dX6_start_2 : decode cX6_start 2 = .ok (.getfield 15, 3) := by decide +kernel
theorem dX6_start_5 : decode cX6_start 5 = .ok (.invokestatic 50, 3) := by decide +kernel
theorem dX6_start_8 : decode cX6_start 8 = .ok (.aload_n 0, 1) := by decide +kernel
theorem dX6_start_9 : decode cX6_start 9 = .ok (.getfield 39, 3) := by decide +kernel
theorem dX6_start_12 : decode cX6_start 12 = .ok (.invokevirtual 56, 3) := by decide +kernel
theorem dX6_start_15 : decode cX6_start 15 = .ok (.return_, 1) := by decide +kernel
theorem dX6_stack_0 : decode cX6_stack 0 = .ok (.iconst 0, 1) := by decide +kernel
theorem dX6_stack_1 : decode cX6_stack 1 = .ok (.istore 4, 2) := by decide +kernel
theorem dX6_stack_3 : decode cX6_stack 3 = .ok (.aload_n 0, 1) := by decide +kernel
theorem dX6_stack_4 : decode cX6_stack 4 = .ok (.getfield 43, 3) := by decide +kernel
theorem dX6_stack_7 : decode cX6_stack 7 = .ok (.invokevirtual 56, 3) := by decide +kernel
theorem dX6_stack_10 : decode cX6_stack 10 = .ok (.iconst 1, 1) := by decide +kernel
theorem dX6_stack_11 : decode cX6_stack 11 = .ok (.istore 5, 2) := by decide +kernel
theorem dX6_stack_13 : decode cX6_stack 13 = .ok (.iload 5, 2) := by decide +kernel
theorem dX6_stack_15 : decode cX6_stack 15 = .ok (.iload_n 3, 1) := by decide +kernel
theorem dX6_stack_16 : decode cX6_stack 16 = .ok (.if_icmp .ge 90, 3) := by decide +kernel
theorem dX6_stack_19 : decode cX6_stack 19 = .ok (.aload_n 2, 1) := by decide +kernel
theorem dX6_stack_20 : decode cX6_stack 20 = .ok (.aload_n 2, 1) := by decide +kernel
theorem dX6_stack_21 : decode cX6_stack 21 = .ok (.iload 5, 2) := by decide +kernel
theorem dX6_stack_23 : decode cX6_stack 23 = .ok (.iconst 1, 1) := by decide +kernel
theorem dX6_stack_24 : decode cX6_stack 24 = .ok (.isub, 1) := by decide +kernel
theorem dX6_stack_25 : decode cX6_stack 25 = .ok (.aload_n 0, 1) := by decide +kernel
theorem dX6_stack_26 : decode cX6_stack 26 = .ok (.getfield 22, 3) := by decide +kernel
theorem dX6_stack_29 : decode cX6_stack 29 = .ok (.invokestatic 59, 3) := by decide +kernel
theorem dX6_stack_32 : decode cX6_stack 32 = .ok (.aload_n 0, 1) := by decide +kernel
theorem dX6_stack_33 : decode cX6_stack 33 = .ok (.getfield 9, 3) := by decide +kernel
theorem dX6_stack_36 : decode cX6_stack 36 = .ok (.aload_n 0, 1) := by decide +kernel
theorem dX6_stack_37 : decode cX6_stack 37 = .ok (.getfield 22, 3) := by decide +kernel
theorem dX6_stack_40 : decode cX6_stack 40 = .ok (.aload_n 1, 1) := by decide +kernel
theorem dX6_stack_41 : decode cX6_stack 41 = .ok (.aload_n 0, 1) := by decide +kernel
theorem dX6_stack_42 : decode cX6_stack 42 = .ok (.getfield 19, 3) := by decide +kernel
theorem dX6_stack_45 : decode cX6_stack 45 = .ok (.invokevirtual 63, 3) := by decide +kernel
theorem dX6_stack_48 : decode cX6_stack 48 = .ok (.ifCond .ne 5, 3) := by decide +kernel
theorem dX6_stack_51 : decode cX6_stack 51 = .ok (.iconst 4, 1) := by decide +kernel
theorem dX6_stack_52 : decode cX6_stack 52 = .ok (.ireturn, 1) := by decide +kernel
theorem dX6_stack_53 : decode cX6_stack 53 = .ok (.aload_n 0, 1) := by decide +kernel
theorem dX6_stack_54 : decode cX6_stack 54 = .ok (.getfield 43, 3) := by decide +kernel
theorem dX6_stack_57 : decode cX6_stack 57 = .ok (.aload_n 0, 1) := by decide +kernel
theorem dX6_stack_58 : decode cX6_stack 58 = .ok (.getfield 19, 3) := by decide +kernel
theorem dX6_stack_61 : decode cX6_stack 61 = .ok (.invokevirtual 69, 3) := by decide +kernel
theorem dX6_stack_64 : decode cX6_stack 64 = .ok (.ifCond .eq 9, 3) := by decide +kernel
theorem dX6_stack_67 : decode cX6_stack 67 = .ok (.iconst 1, 1) := by decide +kernel
theorem dX6_stack_68 : decode cX6_stack 68 = .ok (.istore 4, 2) := by decide +kernel
theorem dX6_stack_70 : decode cX6_stack 70 = .ok (.goto 30, 3) := by decide +kernel
theorem dX6_stack_73 : decode cX6_stack 73 = .ok (.aload_n 0, 1) := by decide +kernel
theorem dX6_stack_74 : decode cX6_stack 74 = .ok (.getfield 43, 3) := by decide +kernel
theorem dX6_stack_77 : decode cX6_stack 77 = .ok (.aload_n 0, 1) := by decide +kernel
theorem dX6_stack_78 : decode cX6_stack 78 = .ok (.getfield 43, 3) := by decide +kernel
theorem dX6_stack_81 : decode cX6_stack 81 = .ok (.aload_n 0, 1) := by decide +kernel
theorem dX6_stack_82 : decode cX6_stack 82 = .ok (.getfield 19, 3) := by decide +kernel
theorem dX6_stack_85 : decode cX6_stack 85 = .ok (.aload_n 0, 1) := by decide +kernel
theorem dX6_stack_86 : decode cX6_stack 86 = .ok (.getfield 9, 3) := by decide +kernel
theorem dX6_stack_89 : decode cX6_stack 89 = .ok (.invokevirtual 73, 3) := by decide +kernel
theorem dX6_stack_92 : decode cX6_stack 92 = .ok (.aload_n 0, 1) := by decide +kernel
theorem dX6_stack_93 : decode cX6_stack 93 = .ok (.getfield 19, 3) := by decide +kernel
theorem dX6_stack_96 : decode cX6_stack 96 = .ok (.invokevirtual 77, 3) := by decide +kernel
theorem dX6_stack_99 : decode cX6_stack 99 = .ok (.pop, 1) := by decide +kernel
theorem dX6_stack_100 : decode cX6_stack 100 = .ok (.iinc 5 1, 3) := by decide +kernel
theorem dX6_stack_103 : decode cX6_stack 103 = .ok (.goto (-90), 3) := by decide +kernel
theorem dX6_stack_106 : decode cX6_stack 106 = .ok (.iload 4, 2) := by decide +kernel
theorem dX6_stack_108 : decode cX6_stack 108 = .ok (.ifCond .eq 6, 3) := by decide +kernel
theorem dX6_stack_111 : decode cX6_stack 111 = .ok (.bipush 8, 2) := by decide +kernel
theorem dX6_stack_113 : decode cX6_stack 113 = .ok (.ireturn, 1) := by decide +kernel
theorem dX6_stack_114 : decode cX6_stack 114 = .ok (.aload_n 1, 1) := by decide +kernel
theorem dX6_stack_115 : decode cX6_stack 115 = .ok (.aload_n 0, 1) := by decide +kernel
theorem dX6_stack_116 : decode cX6_stack 116 = .ok (.getfield 15, 3) := by decide +kernel
theorem dX6_stack_119 : decode cX6_stack 119 = .ok (.invokestatic 50, 3) := by decide +kernel
theorem dX6_stack_122 : decode cX6_stack 122 = .ok (.aload_n 0, 1) := by decide +kernel
theorem dX6_stack_123 : decode cX6_stack 123 = .ok (.invokevirtual 81, 3) := by decide +kernel
theorem dX6_stack_126 : decode cX6_stack 126 = .ok (.iconst 0, 1) := by decide +kernel
theorem dX6_stack_127 : decode cX6_stack 127 = .ok (.ireturn, 1) := by decide +kernel
theorem dX6_turn_0 : decode cX6_turn 0 = .ok (.iconst 0, 1) := by decide +kernel
theorem dX6_turn_1 : decode cX6_turn 1 = .ok (.istore_n 2, 1) := by decide +kernel
theorem dX6_turn_2 : decode cX6_turn 2 = .ok (.iload_n 2, 1) := by decide +kernel
theorem dX6_turn_3 : decode cX6_turn 3 = .ok (.aload_n 0, 1) := by decide +kernel
theorem dX6_turn_4 : decode cX6_turn 4 = .ok (.getfield 39, 3) := by decide +kernel
theorem dX6_turn_7 : decode cX6_turn 7 = .ok (.getfield 46, 3) := by decide +kernel
theorem dX6_turn_10 : decode cX6_turn 10 = .ok (.if_icmp .ge 43, 3) := by decide +kernel
theorem dX6_turn_13 : decode cX6_turn 13 = .ok (.aload_n 0, 1) := by decide +kernel
theorem dX6_turn_14 : decode cX6_turn 14 = .ok (.iload_n 1, 1) := by decide +kernel
theorem dX6_turn_15 : decode cX6_turn 15 = .ok (.iload_n 2, 1) := by decide +kernel
theorem dX6_turn_16 : decode cX6_turn 16 = .ok (.aload_n 0, 1) := by decide +kernel
theorem dX6_turn_17 : decode cX6_turn 17 = .ok (.getfield 43, 3) := by decide +kernel
theorem dX6_turn_20 : decode cX6_turn 20 = .ok (.getfield 84, 3) := by decide +kernel
theorem dX6_turn_23 : decode cX6_turn 23 = .ok (.iload_n 2, 1) := by decide +kernel
theorem dX6_turn_24 : decode cX6_turn 24 = .ok (.aaload, 1) := by decide +kernel
theorem dX6_turn_25 : decode cX6_turn 25 = .ok (.invokevirtual 87, 3) := by decide +kernel
theorem dX6_turn_28 : decode cX6_turn 28 = .ok (.aload_n 0, 1) := by decide +kernel
theorem dX6_turn_29 : decode cX6_turn 29 = .ok (.getfield 43, 3) := by decide +kernel
theorem dX6_turn_32 : decode cX6_turn 32 = .ok (.getfield 84, 3) := by decide +kernel
theorem dX6_turn_35 : decode cX6_turn 35 = .ok (.iload_n 2, 1) := by decide +kernel
theorem dX6_turn_36 : decode cX6_turn 36 = .ok (.aaload, 1) := by decide +kernel
theorem dX6_turn_37 : decode cX6_turn 37 = .ok (.bipush 24, 2) := by decide +kernel
theorem dX6_turn_39 : decode cX6_turn 39 = .ok (.invokestatic 91, 3) := by decide +kernel
theorem dX6_turn_42 : decode cX6_turn 42 = .ok (.ifCond .ne 5, 3) := by decide +kernel
theorem dX6_turn_45 : decode cX6_turn 45 = .ok (.iconst 0, 1) := by decide +kernel
theorem dX6_turn_46 : decode cX6_turn 46 = .ok (.ireturn, 1) := by decide +kernel
theorem dX6_turn_47 : decode cX6_turn 47 = .ok (.iinc 2 1, 3) := by decide +kernel
theorem dX6_turn_50 : decode cX6_turn 50 = .ok (.goto (-48), 3) := by decide +kernel
theorem dX6_turn_53 : decode cX6_turn 53 = .ok (.aload_n 0, 1) := by decide +kernel
theorem dX6_turn_54 : decode cX6_turn 54 = .ok (.getfield 43, 3) := by decide +kernel
theorem dX6_turn_57 : decode cX6_turn 57 = .ok (.aload_n 0, 1) := by decide +kernel
theorem dX6_turn_58 : decode cX6_turn 58 = .ok (.getfield 39, 3) := by decide +kernel
theorem dX6_turn_61 : decode cX6_turn 61 = .ok (.getfield 46, 3) := by decide +kernel
theorem dX6_turn_64 : decode cX6_turn 64 = .ok (.putfield 46, 3) := by decide +kernel
theorem dX6_turn_67 : decode cX6_turn 67 = .ok (.aload_n 0, 1) := by decide +kernel
theorem dX6_turn_68 : decode cX6_turn 68 = .ok (.invokevirtual 81, 3) := by decide +kernel
theorem dX6_turn_71 : decode cX6_turn 71 = .ok (.iconst 1, 1) := by decide +kernel
theorem dX6_turn_72 : decode cX6_turn 72 = .ok (.ireturn, 1) := by decide +kernel
theorem dX6_takeComing_0 : decode cX6_takeComing 0 = .ok (.aload_n 0, 1) := by decide +kernel
theorem dX6_takeComing_1 : decode cX6_takeComing 1 = .ok (.getfield 39, 3) := by decide +kernel
theorem dX6_takeComing_4 : decode cX6_takeComing 4 = .ok (.astore_n 1, 1) := by decide +kernel
theorem dX6_takeComing_5 : decode cX6_takeComing 5 = .ok (.aload_n 0, 1) := by decide +kernel
theorem dX6_takeComing_6 : decode cX6_takeComing 6 = .ok (.aload_n 0, 1) := by decide +kernel
theorem dX6_takeComing_7 : decode cX6_takeComing 7 = .ok (.getfield 43, 3) := by decide +kernel
theorem dX6_takeComing_10 : decode cX6_takeComing 10 = .ok (.putfield 39, 3) := by decide +kernel
theorem dX6_takeComing_13 : decode cX6_takeComing 13 = .ok (.aload_n 0, 1) := by decide +kernel
theorem dX6_takeComing_14 : decode cX6_takeComing 14 = .ok (.aload_n 1, 1) := by decide +kernel
theorem dX6_takeComing_15 : decode cX6_takeComing 15 = .ok (.putfield 43, 3) := by decide +kernel
theorem dX6_takeComing_18 : decode cX6_takeComing 18 = .ok (.return_, 1) := by decide +kernel
theorem dX6_readNote_0 : decode cX6_readNote 0 = .ok (.aload_n 0, 1) := by decide +kernel
theorem dX6_readNote_1 : decode cX6_readNote 1 = .ok (.getfield 39, 3) := by decide +kernel
theorem dX6_readNote_4 : decode cX6_readNote 4 = .ok (.getfield 46, 3) := by decide +kernel
theorem dX6_readNote_7 : decode cX6_readNote 7 = .ok (.istore_n 3, 1) := by decide +kernel
theorem dX6_readNote_8 : decode cX6_readNote 8 = .ok (.iload_n 3, 1) := by decide +kernel
theorem dX6_readNote_9 : decode cX6_readNote 9 = .ok (.iconst 1, 1) := by decide +kernel
theorem dX6_readNote_10 : decode cX6_readNote 10 = .ok (.if_icmp .lt 7, 3) := by decide +kernel
theorem dX6_readNote_13 : decode cX6_readNote 13 = .ok (.iload_n 1, 1) := by decide +kernel
theorem dX6_readNote_14 : decode cX6_readNote 14 = .ok (.ifCond .ge 4, 3) := by decide +kernel
theorem dX6_readNote_17 : decode cX6_readNote 17 = .ok (.return_, 1) := by decide +kernel
theorem dX6_readNote_18 : decode cX6_readNote 18 = .ok (.aload_n 0, 1) := by decide +kernel
theorem dX6_readNote_19 : decode cX6_readNote 19 = .ok (.getfield 39, 3) := by decide +kernel
theorem dX6_readNote_22 : decode cX6_readNote 22 = .ok (.getfield 84, 3) := by decide +kernel
theorem dX6_readNote_25 : decode cX6_readNote 25 = .ok (.iload_n 1, 1) := by decide +kernel
theorem dX6_readNote_26 : decode cX6_readNote 26 = .ok (.iload_n 3, 1) := by decide +kernel
theorem dX6_readNote_27 : decode cX6_readNote 27 = .ok (.irem, 1) := by decide +kernel
theorem dX6_readNote_28 : decode cX6_readNote 28 = .ok (.aaload, 1) := by decide +kernel
theorem dX6_readNote_29 : decode cX6_readNote 29 = .ok (.aload_n 0, 1) := by decide +kernel
theorem dX6_readNote_30 : decode cX6_readNote 30 = .ok (.getfield 15, 3) := by decide +kernel
theorem dX6_readNote_33 : decode cX6_readNote 33 = .ok (.iload_n 1, 1) := by decide +kernel
theorem dX6_readNote_34 : decode cX6_readNote 34 = .ok (.iload_n 3, 1) := by decide +kernel
theorem dX6_readNote_35 : decode cX6_readNote 35 = .ok (.idiv, 1) := by decide +kernel
theorem dX6_readNote_36 : decode cX6_readNote 36 = .ok (.aload_n 2, 1) := by decide +kernel
theorem dX6_readNote_37 : decode cX6_readNote 37 = .ok (.invokestatic 59, 3) := by decide +kernel
theorem dX6_readNote_40 : decode cX6_readNote 40 = .ok (.return_, 1) := by decide +kernel
theorem dX6_readStep_0 : decode cX6_readStep 0 = .ok (.iload_n 1, 1) := by decide +kernel
theorem dX6_readStep_1 : decode cX6_readStep 1 = .ok (.ifCond .lt 14, 3) := by decide +kernel
theorem dX6_readStep_4 : decode cX6_readStep 4 = .ok (.iload_n 1, 1) := by decide +kernel
theorem dX6_readStep_5 : decode cX6_readStep 5 = .ok (.aload_n 0, 1) := by decide +kernel
theorem dX6_readStep_6 : decode cX6_readStep 6 = .ok (.getfield 39, 3) := by decide +kernel
theorem dX6_readStep_9 : decode cX6_readStep 9 = .ok (.getfield 46, 3) := by decide +kernel
theorem dX6_readStep_12 : decode cX6_readStep 12 = .ok (.if_icmp .lt 4, 3) := by decide +kernel
theorem dX6_readStep_15 : decode cX6_readStep 15 = .ok (.return_, 1) := by decide +kernel
theorem dX6_readStep_16 : decode cX6_readStep 16 = .ok (.aload_n 0, 1) := by decide +kernel
theorem dX6_readStep_17 : decode cX6_readStep 17 = .ok (.iload_n 1, 1) := by decide +kernel
theorem dX6_readStep_18 : decode cX6_readStep 18 = .ok (.iload_n 2, 1) := by decide +kernel
theorem dX6_readStep_19 : decode cX6_readStep 19 = .ok (.iadd, 1) := by decide +kernel
theorem dX6_readStep_20 : decode cX6_readStep 20 = .ok (.aload_n 3, 1) := by decide +kernel
theorem dX6_readStep_21 : decode cX6_readStep 21 = .ok (.invokevirtual 95, 3) := by decide +kernel
theorem dX6_readStep_24 : decode cX6_readStep 24 = .ok (.aload_n 3, 1) := by decide +kernel
theorem dX6_readStep_25 : decode cX6_readStep 25 = .ok (.aload_n 0, 1) := by decide +kernel
theorem dX6_readStep_26 : decode cX6_readStep 26 = .ok (.getfield 39, 3) := by decide +kernel
theorem dX6_readStep_29 : decode cX6_readStep 29 = .ok (.getfield 84, 3) := by decide +kernel
theorem dX6_readStep_32 : decode cX6_readStep 32 = .ok (.iload_n 1, 1) := by decide +kernel
theorem dX6_readStep_33 : decode cX6_readStep 33 = .ok (.aaload, 1) := by decide +kernel
theorem dX6_readStep_34 : decode cX6_readStep 34 = .ok (.iconst (-1), 1) := by decide +kernel
theorem dX6_readStep_35 : decode cX6_readStep 35 = .ok (.aload_n 3, 1) := by decide +kernel
theorem dX6_readStep_36 : decode cX6_readStep 36 = .ok (.invokestatic 59, 3) := by decide +kernel
theorem dX6_readStep_39 : decode cX6_readStep 39 = .ok (.return_, 1) := by decide +kernel
theorem dX6_gatherKinds_0 : decode cX6_gatherKinds 0 = .ok (.iconst 0, 1) := by decide +kernel
theorem dX6_gatherKinds_1 : decode cX6_gatherKinds 1 = .ok (.istore_n 2, 1) := by decide +kernel
theorem dX6_gatherKinds_2 : decode cX6_gatherKinds 2 = .ok (.iconst 0, 1) := by decide +kernel
theorem dX6_gatherKinds_3 : decode cX6_gatherKinds 3 = .ok (.istore_n 3, 1) := by decide +kernel
theorem dX6_gatherKinds_4 : decode cX6_gatherKinds 4 = .ok (.iload_n 3, 1) := by decide +kernel
theorem dX6_gatherKinds_5 : decode cX6_gatherKinds 5 = .ok (.aload_n 0, 1) := by decide +kernel
theorem dX6_gatherKinds_6 : decode cX6_gatherKinds 6 = .ok (.getfield 39, 3) := by decide +kernel
theorem dX6_gatherKinds_9 : decode cX6_gatherKinds 9 = .ok (.getfield 46, 3) := by decide +kernel
theorem dX6_gatherKinds_12 : decode cX6_gatherKinds 12 = .ok (.if_icmp .ge 103, 3) := by decide +kernel
theorem dX6_gatherKinds_15 : decode cX6_gatherKinds 15 = .ok (.aload_n 0, 1) := by decide +kernel
theorem dX6_gatherKinds_16 : decode cX6_gatherKinds 16 = .ok (.iload_n 3, 1) := by decide +kernel
theorem dX6_gatherKinds_17 : decode cX6_gatherKinds 17 = .ok (.iload_n 1, 1) := by decide +kernel
theorem dX6_gatherKinds_18 : decode cX6_gatherKinds 18 = .ok (.aload_n 0, 1) := by decide +kernel
theorem dX6_gatherKinds_19 : decode cX6_gatherKinds 19 = .ok (.getfield 19, 3) := by decide +kernel
theorem dX6_gatherKinds_22 : decode cX6_gatherKinds 22 = .ok (.invokevirtual 87, 3) := by decide +kernel
theorem dX6_gatherKinds_25 : decode cX6_gatherKinds 25 = .ok (.iconst 0, 1) := by decide +kernel
theorem dX6_gatherKinds_26 : decode cX6_gatherKinds 26 = .ok (.istore 4, 2) := by decide +kernel
theorem dX6_gatherKinds_28 : decode cX6_gatherKinds 28 = .ok (.iload 4, 2) := by decide +kernel
theorem dX6_gatherKinds_30 : decode cX6_gatherKinds 30 = .ok (.iload_n 2, 1) := by decide +kernel
theorem dX6_gatherKinds_31 : decode cX6_gatherKinds 31 = .ok (.if_icmp .ge 26, 3) := by decide +kernel
theorem dX6_gatherKinds_34 : decode cX6_gatherKinds 34 = .ok (.aload_n 0, 1) := by decide +kernel
theorem dX6_gatherKinds_35 : decode cX6_gatherKinds 35 = .ok (.getfield 32, 3) := by decide +kernel
theorem dX6_gatherKinds_38 : decode cX6_gatherKinds 38 = .ok (.iload 4, 2) := by decide +kernel
theorem dX6_gatherKinds_40 : decode cX6_gatherKinds 40 = .ok (.aaload, 1) := by decide +kernel
theorem dX6_gatherKinds_41 : decode cX6_gatherKinds 41 = .ok (.aload_n 0, 1) := by decide +kernel
theorem dX6_gatherKinds_42 : decode cX6_gatherKinds 42 = .ok (.getfield 19, 3) := by decide +kernel
theorem dX6_gatherKinds_45 : decode cX6_gatherKinds 45 = .ok (.invokestatic 99, 3) := by decide +kernel
theorem dX6_gatherKinds_48 : decode cX6_gatherKinds 48 = .ok (.ifCond .ne 9, 3) := by decide +kernel
theorem dX6_gatherKinds_51 : decode cX6_gatherKinds 51 = .ok (.iinc 4 1, 3) := by decide +kernel
theorem dX6_gatherKinds_54 : decode cX6_gatherKinds 54 = .ok (.goto (-26), 3) := by decide +kernel
theorem dX6_gatherKinds_57 : decode cX6_gatherKinds 57 = .ok (.iload 4, 2) := by decide +kernel
theorem dX6_gatherKinds_59 : decode cX6_gatherKinds 59 = .ok (.iload_n 2, 1) := by decide +kernel
theorem dX6_gatherKinds_60 : decode cX6_gatherKinds 60 = .ok (.if_icmp .ne 32, 3) := by decide +kernel
theorem dX6_gatherKinds_63 : decode cX6_gatherKinds 63 = .ok (.iload_n 2, 1) := by decide +kernel
theorem dX6_gatherKinds_64 : decode cX6_gatherKinds 64 = .ok (.bipush 24, 2) := by decide +kernel
theorem dX6_gatherKinds_66 : decode cX6_gatherKinds 66 = .ok (.if_icmp .ge 26, 3) := by decide +kernel
theorem dX6_gatherKinds_69 : decode cX6_gatherKinds 69 = .ok (.aload_n 0, 1) := by decide +kernel
theorem dX6_gatherKinds_70 : decode cX6_gatherKinds 70 = .ok (.getfield 19, 3) := by decide +kernel
theorem dX6_gatherKinds_73 : decode cX6_gatherKinds 73 = .ok (.aload_n 0, 1) := by decide +kernel
theorem dX6_gatherKinds_74 : decode cX6_gatherKinds 74 = .ok (.getfield 32, 3) := by decide +kernel
theorem dX6_gatherKinds_77 : decode cX6_gatherKinds 77 = .ok (.iload_n 2, 1) := by decide +kernel
theorem dX6_gatherKinds_78 : decode cX6_gatherKinds 78 = .ok (.aaload, 1) := by decide +kernel
theorem dX6_gatherKinds_79 : decode cX6_gatherKinds 79 = .ok (.invokestatic 50, 3) := by decide +kernel
theorem dX6_gatherKinds_82 : decode cX6_gatherKinds 82 = .ok (.aload_n 0, 1) := by decide +kernel
theorem dX6_gatherKinds_83 : decode cX6_gatherKinds 83 = .ok (.getfield 35, 3) := by decide +kernel
theorem dX6_gatherKinds_86 : decode cX6_gatherKinds 86 = .ok (.iload_n 2, 1) := by decide +kernel
theorem dX6_gatherKinds_87 : decode cX6_gatherKinds 87 = .ok (.iconst 0, 1) := by decide +kernel
theorem dX6_gatherKinds_88 : decode cX6_gatherKinds 88 = .ok (.iastore, 1) := by decide +kernel
theorem dX6_gatherKinds_89 : decode cX6_gatherKinds 89 = .ok (.iinc 2 1, 3) := by decide +kernel
theorem dX6_gatherKinds_92 : decode cX6_gatherKinds 92 = .ok (.iload 4, 2) := by decide +kernel
theorem dX6_gatherKinds_94 : decode cX6_gatherKinds 94 = .ok (.iload_n 2, 1) := by decide +kernel
theorem dX6_gatherKinds_95 : decode cX6_gatherKinds 95 = .ok (.if_icmp .ge 14, 3) := by decide +kernel
theorem dX6_gatherKinds_98 : decode cX6_gatherKinds 98 = .ok (.aload_n 0, 1) := by decide +kernel
theorem dX6_gatherKinds_99 : decode cX6_gatherKinds 99 = .ok (.getfield 35, 3) := by decide +kernel
theorem dX6_gatherKinds_102 : decode cX6_gatherKinds 102 = .ok (.iload 4, 2) := by decide +kernel
theorem dX6_gatherKinds_104 : decode cX6_gatherKinds 104 = .ok (.dup2, 1) := by decide +kernel
theorem dX6_gatherKinds_105 : decode cX6_gatherKinds 105 = .ok (.iaload, 1) := by decide +kernel
theorem dX6_gatherKinds_106 : decode cX6_gatherKinds 106 = .ok (.iconst 1, 1) := by decide +kernel
theorem dX6_gatherKinds_107 : decode cX6_gatherKinds 107 = .ok (.iadd, 1) := by decide +kernel
theorem dX6_gatherKinds_108 : decode cX6_gatherKinds 108 = .ok (.iastore, 1) := by decide +kernel
theorem dX6_gatherKinds_109 : decode cX6_gatherKinds 109 = .ok (.iinc 3 1, 3) := by decide +kernel
theorem dX6_gatherKinds_112 : decode cX6_gatherKinds 112 = .ok (.goto (-108), 3) := by decide +kernel
theorem dX6_gatherKinds_115 : decode cX6_gatherKinds 115 = .ok (.iload_n 2, 1) := by decide +kernel
theorem dX6_gatherKinds_116 : decode cX6_gatherKinds 116 = .ok (.ireturn, 1) := by decide +kernel
theorem dX6_readKind_0 : decode cX6_readKind 0 = .ok (.iconst 0, 1) := by decide +kernel
theorem dX6_readKind_1 : decode cX6_readKind 1 = .ok (.istore 4, 2) := by decide +kernel
theorem dX6_readKind_3 : decode cX6_readKind 3 = .ok (.iload 4, 2) := by decide +kernel
theorem dX6_readKind_5 : decode cX6_readKind 5 = .ok (.iload_n 1, 1) := by decide +kernel
theorem dX6_readKind_6 : decode cX6_readKind 6 = .ok (.if_icmp .gt 73, 3) := by decide +kernel
theorem dX6_readKind_9 : decode cX6_readKind 9 = .ok (.iload 4, 2) := by decide +kernel
theorem dX6_readKind_11 : decode cX6_readKind 11 = .ok (.iload_n 2, 1) := by decide +kernel
theorem dX6_readKind_12 : decode cX6_readKind 12 = .ok (.if_icmp .ge 67, 3) := by decide +kernel
theorem dX6_readKind_15 : decode cX6_readKind 15 = .ok (.iload 4, 2) := by decide +kernel
theorem dX6_readKind_17 : decode cX6_readKind 17 = .ok (.istore 5, 2) := by decide +kernel
theorem dX6_readKind_19 : decode cX6_readKind 19 = .ok (.iload 4, 2) := by decide +kernel
theorem dX6_readKind_21 : decode cX6_readKind 21 = .ok (.iconst 1, 1) := by decide +kernel
theorem dX6_readKind_22 : decode cX6_readKind 22 = .ok (.iadd, 1) := by decide +kernel
theorem dX6_readKind_23 : decode cX6_readKind 23 = .ok (.istore 6, 2) := by decide +kernel
theorem dX6_readKind_25 : decode cX6_readKind 25 = .ok (.iload 6, 2) := by decide +kernel
theorem dX6_readKind_27 : decode cX6_readKind 27 = .ok (.iload_n 2, 1) := by decide +kernel
theorem dX6_readKind_28 : decode cX6_readKind 28 = .ok (.if_icmp .ge 37, 3) := by decide +kernel
theorem dX6_readKind_31 : decode cX6_readKind 31 = .ok (.aload_n 0, 1) := by decide +kernel
theorem dX6_readKind_32 : decode cX6_readKind 32 = .ok (.getfield 9, 3) := by decide +kernel
theorem dX6_readKind_35 : decode cX6_readKind 35 = .ok (.aload_n 0, 1) := by decide +kernel
theorem dX6_readKind_36 : decode cX6_readKind 36 = .ok (.getfield 32, 3) := by decide +kernel
theorem dX6_readKind_39 : decode cX6_readKind 39 = .ok (.iload 6, 2) := by decide +kernel
theorem dX6_readKind_41 : decode cX6_readKind 41 = .ok (.aaload, 1) := by decide +kernel
theorem dX6_readKind_42 : decode cX6_readKind 42 = .ok (.aload_n 0, 1) := by decide +kernel
theorem dX6_readKind_43 : decode cX6_readKind 43 = .ok (.getfield 32, 3) := by decide +kernel
theorem dX6_readKind_46 : decode cX6_readKind 46 = .ok (.iload 5, 2) := by decide +kernel
theorem dX6_readKind_48 : decode cX6_readKind 48 = .ok (.aaload, 1) := by decide +kernel
theorem dX6_readKind_49 : decode cX6_readKind 49 = .ok (.invokevirtual 103, 3) := by decide +kernel
theorem dX6_readKind_52 : decode cX6_readKind 52 = .ok (.ifCond .ge 7, 3) := by decide +kernel
theorem dX6_readKind_55 : decode cX6_readKind 55 = .ok (.iload 6, 2) := by decide +kernel
theorem dX6_readKind_57 : decode cX6_readKind 57 = .ok (.istore 5, 2) := by decide +kernel
theorem dX6_readKind_59 : decode cX6_readKind 59 = .ok (.iinc 6 1, 3) := by decide +kernel
theorem dX6_readKind_62 : decode cX6_readKind 62 = .ok (.goto (-37), 3) := by decide +kernel
theorem dX6_readKind_65 : decode cX6_readKind 65 = .ok (.aload_n 0, 1) := by decide +kernel
theorem dX6_readKind_66 : decode cX6_readKind 66 = .ok (.iload 4, 2) := by decide +kernel
theorem dX6_readKind_68 : decode cX6_readKind 68 = .ok (.iload 5, 2) := by decide +kernel
theorem dX6_readKind_70 : decode cX6_readKind 70 = .ok (.invokevirtual 107, 3) := by decide +kernel
theorem dX6_readKind_73 : decode cX6_readKind 73 = .ok (.iinc 4 1, 3) := by decide +kernel
theorem dX6_readKind_76 : decode cX6_readKind 76 = .ok (.goto (-73), 3) := by decide +kernel
theorem dX6_readKind_79 : decode cX6_readKind 79 = .ok (.iload_n 1, 1) := by decide +kernel
theorem dX6_readKind_80 : decode cX6_readKind 80 = .ok (.ifCond .lt 8, 3) := by decide +kernel
theorem dX6_readKind_83 : decode cX6_readKind 83 = .ok (.iload_n 1, 1) := by decide +kernel
theorem dX6_readKind_84 : decode cX6_readKind 84 = .ok (.iload_n 2, 1) := by decide +kernel
theorem dX6_readKind_85 : decode cX6_readKind 85 = .ok (.if_icmp .lt 5, 3) := by decide +kernel
theorem dX6_readKind_88 : decode cX6_readKind 88 = .ok (.iconst (-1), 1) := by decide +kernel
theorem dX6_readKind_89 : decode cX6_readKind 89 = .ok (.ireturn, 1) := by decide +kernel
theorem dX6_readKind_90 : decode cX6_readKind 90 = .ok (.aload_n 0, 1) := by decide +kernel
theorem dX6_readKind_91 : decode cX6_readKind 91 = .ok (.getfield 32, 3) := by decide +kernel
theorem dX6_readKind_94 : decode cX6_readKind 94 = .ok (.iload_n 1, 1) := by decide +kernel
theorem dX6_readKind_95 : decode cX6_readKind 95 = .ok (.aaload, 1) := by decide +kernel
theorem dX6_readKind_96 : decode cX6_readKind 96 = .ok (.aload_n 3, 1) := by decide +kernel
theorem dX6_readKind_97 : decode cX6_readKind 97 = .ok (.invokestatic 50, 3) := by decide +kernel
theorem dX6_readKind_100 : decode cX6_readKind 100 = .ok (.aload_n 0, 1) := by decide +kernel
theorem dX6_readKind_101 : decode cX6_readKind 101 = .ok (.getfield 35, 3) := by decide +kernel
theorem dX6_readKind_104 : decode cX6_readKind 104 = .ok (.iload_n 1, 1) := by decide +kernel
theorem dX6_readKind_105 : decode cX6_readKind 105 = .ok (.iaload, 1) := by decide +kernel
theorem dX6_readKind_106 : decode cX6_readKind 106 = .ok (.ireturn, 1) := by decide +kernel
theorem dX6_swapKinds_0 : decode cX6_swapKinds 0 = .ok (.aload_n 0, 1) := by decide +kernel
theorem dX6_swapKinds_1 : decode cX6_swapKinds 1 = .ok (.getfield 32, 3) := by decide +kernel
theorem dX6_swapKinds_4 : decode cX6_swapKinds 4 = .ok (.iload_n 1, 1) := by decide +kernel
theorem dX6_swapKinds_5 : decode cX6_swapKinds 5 = .ok (.aaload, 1) := by decide +kernel
theorem dX6_swapKinds_6 : decode cX6_swapKinds 6 = .ok (.astore_n 3, 1) := by decide +kernel
theorem dX6_swapKinds_7 : decode cX6_swapKinds 7 = .ok (.aload_n 0, 1) := by decide +kernel
theorem dX6_swapKinds_8 : decode cX6_swapKinds 8 = .ok (.getfield 32, 3) := by decide +kernel
theorem dX6_swapKinds_11 : decode cX6_swapKinds 11 = .ok (.iload_n 1, 1) := by decide +kernel
theorem dX6_swapKinds_12 : decode cX6_swapKinds 12 = .ok (.aload_n 0, 1) := by decide +kernel
theorem dX6_swapKinds_13 : decode cX6_swapKinds 13 = .ok (.getfield 32, 3) := by decide +kernel
theorem dX6_swapKinds_16 : decode cX6_swapKinds 16 = .ok (.iload_n 2, 1) := by decide +kernel
theorem dX6_swapKinds_17 : decode cX6_swapKinds 17 = .ok (.aaload, 1) := by decide +kernel
theorem dX6_swapKinds_18 : decode cX6_swapKinds 18 = .ok (.aastore, 1) := by decide +kernel
theorem dX6_swapKinds_19 : decode cX6_swapKinds 19 = .ok (.aload_n 0, 1) := by decide +kernel
theorem dX6_swapKinds_20 : decode cX6_swapKinds 20 = .ok (.getfield 32, 3) := by decide +kernel
theorem dX6_swapKinds_23 : decode cX6_swapKinds 23 = .ok (.iload_n 2, 1) := by decide +kernel
theorem dX6_swapKinds_24 : decode cX6_swapKinds 24 = .ok (.aload_n 3, 1) := by decide +kernel
theorem dX6_swapKinds_25 : decode cX6_swapKinds 25 = .ok (.aastore, 1) := by decide +kernel
theorem dX6_swapKinds_26 : decode cX6_swapKinds 26 = .ok (.aload_n 0, 1) := by decide +kernel
theorem dX6_swapKinds_27 : decode cX6_swapKinds 27 = .ok (.getfield 35, 3) := by decide +kernel
theorem dX6_swapKinds_30 : decode cX6_swapKinds 30 = .ok (.iload_n 1, 1) := by decide +kernel
theorem dX6_swapKinds_31 : decode cX6_swapKinds 31 = .ok (.iaload, 1) := by decide +kernel
theorem dX6_swapKinds_32 : decode cX6_swapKinds 32 = .ok (.istore 4, 2) := by decide +kernel
theorem dX6_swapKinds_34 : decode cX6_swapKinds 34 = .ok (.aload_n 0, 1) := by decide +kernel
theorem dX6_swapKinds_35 : decode cX6_swapKinds 35 = .ok (.getfield 35, 3) := by decide +kernel
theorem dX6_swapKinds_38 : decode cX6_swapKinds 38 = .ok (.iload_n 1, 1) := by decide +kernel
theorem dX6_swapKinds_39 : decode cX6_swapKinds 39 = .ok (.aload_n 0, 1) := by decide +kernel
theorem dX6_swapKinds_40 : decode cX6_swapKinds 40 = .ok (.getfield 35, 3) := by decide +kernel
theorem dX6_swapKinds_43 : decode cX6_swapKinds 43 = .ok (.iload_n 2, 1) := by decide +kernel
theorem dX6_swapKinds_44 : decode cX6_swapKinds 44 = .ok (.iaload, 1) := by decide +kernel
theorem dX6_swapKinds_45 : decode cX6_swapKinds 45 = .ok (.iastore, 1) := by decide +kernel
theorem dX6_swapKinds_46 : decode cX6_swapKinds 46 = .ok (.aload_n 0, 1) := by decide +kernel
theorem dX6_swapKinds_47 : decode cX6_swapKinds 47 = .ok (.getfield 35, 3) := by decide +kernel
theorem dX6_swapKinds_50 : decode cX6_swapKinds 50 = .ok (.iload_n 2, 1) := by decide +kernel
theorem dX6_swapKinds_51 : decode cX6_swapKinds 51 = .ok (.iload 4, 2) := by decide +kernel
theorem dX6_swapKinds_53 : decode cX6_swapKinds 53 = .ok (.iastore, 1) := by decide +kernel
theorem dX6_swapKinds_54 : decode cX6_swapKinds 54 = .ok (.return_, 1) := by decide +kernel
theorem dX6_isMoment_0 : decode cX6_isMoment 0 = .ok (.aload_n 0, 1) := by decide +kernel
theorem dX6_isMoment_1 : decode cX6_isMoment 1 = .ok (.iconst 1, 1) := by decide +kernel
theorem dX6_isMoment_2 : decode cX6_isMoment 2 = .ok (.invokevirtual 111, 3) := by decide +kernel
theorem dX6_isMoment_5 : decode cX6_isMoment 5 = .ok (.iconst 2, 1) := by decide +kernel
theorem dX6_isMoment_6 : decode cX6_isMoment 6 = .ok (.if_icmp .gt 7, 3) := by decide +kernel
theorem dX6_isMoment_9 : decode cX6_isMoment 9 = .ok (.iconst 1, 1) := by decide +kernel
theorem dX6_isMoment_10 : decode cX6_isMoment 10 = .ok (.goto 4, 3) := by decide +kernel
theorem dX6_isMoment_13 : decode cX6_isMoment 13 = .ok (.iconst 0, 1) := by decide +kernel
theorem dX6_isMoment_14 : decode cX6_isMoment 14 = .ok (.ireturn, 1) := by decide +kernel
theorem dX6_isMyth_0 : decode cX6_isMyth 0 = .ok (.iconst 1, 1) := by decide +kernel
theorem dX6_isMyth_1 : decode cX6_isMyth 1 = .ok (.istore_n 1, 1) := by decide +kernel
theorem dX6_isMyth_2 : decode cX6_isMyth 2 = .ok (.iload_n 1, 1) := by decide +kernel
theorem dX6_isMyth_3 : decode cX6_isMyth 3 = .ok (.aload_n 0, 1) := by decide +kernel
theorem dX6_isMyth_4 : decode cX6_isMyth 4 = .ok (.getfield 39, 3) := by decide +kernel
theorem dX6_isMyth_7 : decode cX6_isMyth 7 = .ok (.getfield 46, 3) := by decide +kernel
theorem dX6_isMyth_10 : decode cX6_isMyth 10 = .ok (.if_icmp .ge 20, 3) := by decide +kernel
theorem dX6_isMyth_13 : decode cX6_isMyth 13 = .ok (.aload_n 0, 1) := by decide +kernel
theorem dX6_isMyth_14 : decode cX6_isMyth 14 = .ok (.iload_n 1, 1) := by decide +kernel
theorem dX6_isMyth_15 : decode cX6_isMyth 15 = .ok (.invokevirtual 111, 3) := by decide +kernel
theorem dX6_isMyth_18 : decode cX6_isMyth 18 = .ok (.iconst 2, 1) := by decide +kernel
theorem dX6_isMyth_19 : decode cX6_isMyth 19 = .ok (.if_icmp .eq 5, 3) := by decide +kernel
theorem dX6_isMyth_22 : decode cX6_isMyth 22 = .ok (.iconst 0, 1) := by decide +kernel
theorem dX6_isMyth_23 : decode cX6_isMyth 23 = .ok (.ireturn, 1) := by decide +kernel
theorem dX6_isMyth_24 : decode cX6_isMyth 24 = .ok (.iinc 1 1, 3) := by decide +kernel
theorem dX6_isMyth_27 : decode cX6_isMyth 27 = .ok (.goto (-25), 3) := by decide +kernel
theorem dX6_isMyth_30 : decode cX6_isMyth 30 = .ok (.aload_n 0, 1) := by decide +kernel
theorem dX6_isMyth_31 : decode cX6_isMyth 31 = .ok (.getfield 39, 3) := by decide +kernel
theorem dX6_isMyth_34 : decode cX6_isMyth 34 = .ok (.getfield 46, 3) := by decide +kernel
theorem dX6_isMyth_37 : decode cX6_isMyth 37 = .ok (.iconst 2, 1) := by decide +kernel
theorem dX6_isMyth_38 : decode cX6_isMyth 38 = .ok (.if_icmp .lt 7, 3) := by decide +kernel
theorem dX6_isMyth_41 : decode cX6_isMyth 41 = .ok (.iconst 1, 1) := by decide +kernel
theorem dX6_isMyth_42 : decode cX6_isMyth 42 = .ok (.goto 4, 3) := by decide +kernel
theorem dX6_isMyth_45 : decode cX6_isMyth 45 = .ok (.iconst 0, 1) := by decide +kernel
theorem dX6_isMyth_46 : decode cX6_isMyth 46 = .ok (.ireturn, 1) := by decide +kernel
theorem dX6_isOrderly_0 : decode cX6_isOrderly 0 = .ok (.iconst 1, 1) := by decide +kernel
theorem dX6_isOrderly_1 : decode cX6_isOrderly 1 = .ok (.istore_n 2, 1) := by decide +kernel
theorem dX6_isOrderly_2 : decode cX6_isOrderly 2 = .ok (.iload_n 2, 1) := by decide +kernel
theorem dX6_isOrderly_3 : decode cX6_isOrderly 3 = .ok (.aload_n 0, 1) := by decide +kernel
theorem dX6_isOrderly_4 : decode cX6_isOrderly 4 = .ok (.getfield 39, 3) := by decide +kernel
theorem dX6_isOrderly_7 : decode cX6_isOrderly 7 = .ok (.getfield 46, 3) := by decide +kernel
theorem dX6_isOrderly_10 : decode cX6_isOrderly 10 = .ok (.if_icmp .gt 48, 3) := by decide +kernel
theorem dX6_isOrderly_13 : decode cX6_isOrderly 13 = .ok (.aload_n 0, 1) := by decide +kernel
theorem dX6_isOrderly_14 : decode cX6_isOrderly 14 = .ok (.iload_n 2, 1) := by decide +kernel
theorem dX6_isOrderly_15 : decode cX6_isOrderly 15 = .ok (.invokevirtual 111, 3) := by decide +kernel
theorem dX6_isOrderly_18 : decode cX6_isOrderly 18 = .ok (.istore_n 3, 1) := by decide +kernel
theorem dX6_isOrderly_19 : decode cX6_isOrderly 19 = .ok (.iload_n 1, 1) := by decide +kernel
theorem dX6_isOrderly_20 : decode cX6_isOrderly 20 = .ok (.ifCond .eq 7, 3) := by decide +kernel
theorem dX6_isOrderly_23 : decode cX6_isOrderly 23 = .ok (.iconst 1, 1) := by decide +kernel
theorem dX6_isOrderly_24 : decode cX6_isOrderly 24 = .ok (.goto 4, 3) := by decide +kernel
theorem dX6_isOrderly_27 : decode cX6_isOrderly 27 = .ok (.iconst 0, 1) := by decide +kernel
theorem dX6_isOrderly_28 : decode cX6_isOrderly 28 = .ok (.istore 4, 2) := by decide +kernel
theorem dX6_isOrderly_30 : decode cX6_isOrderly 30 = .ok (.iload_n 2, 1) := by decide +kernel
theorem dX6_isOrderly_31 : decode cX6_isOrderly 31 = .ok (.iconst 1, 1) := by decide +kernel
theorem dX6_isOrderly_32 : decode cX6_isOrderly 32 = .ok (.if_icmp .le 15, 3) := by decide +kernel
theorem dX6_isOrderly_35 : decode cX6_isOrderly 35 = .ok (.aload_n 0, 1) := by decide +kernel
theorem dX6_isOrderly_36 : decode cX6_isOrderly 36 = .ok (.iload_n 3, 1) := by decide +kernel
theorem dX6_isOrderly_37 : decode cX6_isOrderly 37 = .ok (.iload 4, 2) := by decide +kernel
theorem dX6_isOrderly_39 : decode cX6_isOrderly 39 = .ok (.invokevirtual 115, 3) := by decide +kernel
theorem dX6_isOrderly_42 : decode cX6_isOrderly 42 = .ok (.ifCond .ne 5, 3) := by decide +kernel
theorem dX6_isOrderly_45 : decode cX6_isOrderly 45 = .ok (.iconst 0, 1) := by decide +kernel
theorem dX6_isOrderly_46 : decode cX6_isOrderly 46 = .ok (.ireturn, 1) := by decide +kernel
theorem dX6_isOrderly_47 : decode cX6_isOrderly 47 = .ok (.aload_n 0, 1) := by decide +kernel
theorem dX6_isOrderly_48 : decode cX6_isOrderly 48 = .ok (.iload_n 3, 1) := by decide +kernel
theorem dX6_isOrderly_49 : decode cX6_isOrderly 49 = .ok (.invokevirtual 119, 3) := by decide +kernel
theorem dX6_isOrderly_52 : decode cX6_isOrderly 52 = .ok (.iinc 2 1, 3) := by decide +kernel
theorem dX6_isOrderly_55 : decode cX6_isOrderly 55 = .ok (.goto (-53), 3) := by decide +kernel
theorem dX6_isOrderly_58 : decode cX6_isOrderly 58 = .ok (.iconst 1, 1) := by decide +kernel
theorem dX6_isOrderly_59 : decode cX6_isOrderly 59 = .ok (.ireturn, 1) := by decide +kernel
theorem dX6_allReach_0 : decode cX6_allReach 0 = .ok (.iconst 0, 1) := by decide +kernel
theorem dX6_allReach_1 : decode cX6_allReach 1 = .ok (.istore_n 3, 1) := by decide +kernel
theorem dX6_allReach_2 : decode cX6_allReach 2 = .ok (.iload_n 3, 1) := by decide +kernel
theorem dX6_allReach_3 : decode cX6_allReach 3 = .ok (.iload_n 1, 1) := by decide +kernel
theorem dX6_allReach_4 : decode cX6_allReach 4 = .ok (.if_icmp .ge 32, 3) := by decide +kernel
theorem dX6_allReach_7 : decode cX6_allReach 7 = .ok (.aload_n 0, 1) := by decide +kernel
theorem dX6_allReach_8 : decode cX6_allReach 8 = .ok (.getfield 9, 3) := by decide +kernel
theorem dX6_allReach_11 : decode cX6_allReach 11 = .ok (.aload_n 0, 1) := by decide +kernel
theorem dX6_allReach_12 : decode cX6_allReach 12 = .ok (.getfield 32, 3) := by decide +kernel
theorem dX6_allReach_15 : decode cX6_allReach 15 = .ok (.iload_n 3, 1) := by decide +kernel
theorem dX6_allReach_16 : decode cX6_allReach 16 = .ok (.aaload, 1) := by decide +kernel
theorem dX6_allReach_17 : decode cX6_allReach 17 = .ok (.aload_n 0, 1) := by decide +kernel
theorem dX6_allReach_18 : decode cX6_allReach 18 = .ok (.getfield 25, 3) := by decide +kernel
theorem dX6_allReach_21 : decode cX6_allReach 21 = .ok (.invokevirtual 103, 3) := by decide +kernel
theorem dX6_allReach_24 : decode cX6_allReach 24 = .ok (.iload_n 2, 1) := by decide +kernel
theorem dX6_allReach_25 : decode cX6_allReach 25 = .ok (.if_icmp .ge 5, 3) := by decide +kernel
theorem dX6_allReach_28 : decode cX6_allReach 28 = .ok (.iconst 0, 1) := by decide +kernel
theorem dX6_allReach_29 : decode cX6_allReach 29 = .ok (.ireturn, 1) := by decide +kernel
theorem dX6_allReach_30 : decode cX6_allReach 30 = .ok (.iinc 3 1, 3) := by decide +kernel
theorem dX6_allReach_33 : decode cX6_allReach 33 = .ok (.goto (-31), 3) := by decide +kernel
theorem dX6_allReach_36 : decode cX6_allReach 36 = .ok (.iconst 1, 1) := by decide +kernel
theorem dX6_allReach_37 : decode cX6_allReach 37 = .ok (.ireturn, 1) := by decide +kernel
theorem dX6_findHighest_0 : decode cX6_findHighest 0 = .ok (.iconst 0, 1) := by decide +kernel
theorem dX6_findHighest_1 : decode cX6_findHighest 1 = .ok (.istore_n 2, 1) := by decide +kernel
theorem dX6_findHighest_2 : decode cX6_findHighest 2 = .ok (.iload_n 2, 1) := by decide +kernel
theorem dX6_findHighest_3 : decode cX6_findHighest 3 = .ok (.iload_n 1, 1) := by decide +kernel
theorem dX6_findHighest_4 : decode cX6_findHighest 4 = .ok (.if_icmp .ge 46, 3) := by decide +kernel
theorem dX6_findHighest_7 : decode cX6_findHighest 7 = .ok (.iload_n 2, 1) := by decide +kernel
theorem dX6_findHighest_8 : decode cX6_findHighest 8 = .ok (.ifCond .eq 23, 3) := by decide +kernel
theorem dX6_findHighest_11 : decode cX6_findHighest 11 = .ok (.aload_n 0, 1) := by decide +kernel
theorem dX6_findHighest_12 : decode cX6_findHighest 12 = .ok (.getfield 9, 3) := by decide +kernel
theorem dX6_findHighest_15 : decode cX6_findHighest 15 = .ok (.aload_n 0, 1) := by decide +kernel
theorem dX6_findHighest_16 : decode cX6_findHighest 16 = .ok (.getfield 32, 3) := by decide +kernel
theorem dX6_findHighest_19 : decode cX6_findHighest 19 = .ok (.iload_n 2, 1) := by decide +kernel
theorem dX6_findHighest_20 : decode cX6_findHighest 20 = .ok (.aaload, 1) := by decide +kernel
theorem dX6_findHighest_21 : decode cX6_findHighest 21 = .ok (.aload_n 0, 1) := by decide +kernel
theorem dX6_findHighest_22 : decode cX6_findHighest 22 = .ok (.getfield 25, 3) := by decide +kernel
theorem dX6_findHighest_25 : decode cX6_findHighest 25 = .ok (.invokevirtual 103, 3) := by decide +kernel
theorem dX6_findHighest_28 : decode cX6_findHighest 28 = .ok (.ifCond .le 16, 3) := by decide +kernel
theorem dX6_findHighest_31 : decode cX6_findHighest 31 = .ok (.aload_n 0, 1) := by decide +kernel
theorem dX6_findHighest_32 : decode cX6_findHighest 32 = .ok (.getfield 32, 3) := by decide +kernel
theorem dX6_findHighest_35 : decode cX6_findHighest 35 = .ok (.iload_n 2, 1) := by decide +kernel
theorem dX6_findHighest_36 : decode cX6_findHighest 36 = .ok (.aaload, 1) := by decide +kernel
theorem dX6_findHighest_37 : decode cX6_findHighest 37 = .ok (.aload_n 0, 1) := by decide +kernel
theorem dX6_findHighest_38 : decode cX6_findHighest 38 = .ok (.getfield 25, 3) := by decide +kernel
theorem dX6_findHighest_41 : decode cX6_findHighest 41 = .ok (.invokestatic 50, 3) := by decide +kernel
theorem dX6_findHighest_44 : decode cX6_findHighest 44 = .ok (.iinc 2 1, 3) := by decide +kernel
theorem dX6_findHighest_47 : decode cX6_findHighest 47 = .ok (.goto (-45), 3) := by decide +kernel
theorem dX6_findHighest_50 : decode cX6_findHighest 50 = .ok (.return_, 1) := by decide +kernel
theorem dX6_agreesWith_0 : decode cX6_agreesWith 0 = .ok (.iconst 0, 1) := by decide +kernel
theorem dX6_agreesWith_1 : decode cX6_agreesWith 1 = .ok (.istore_n 2, 1) := by decide +kernel
theorem dX6_agreesWith_2 : decode cX6_agreesWith 2 = .ok (.iload_n 2, 1) := by decide +kernel
theorem dX6_agreesWith_3 : decode cX6_agreesWith 3 = .ok (.aload_n 0, 1) := by decide +kernel
theorem dX6_agreesWith_4 : decode cX6_agreesWith 4 = .ok (.getfield 39, 3) := by decide +kernel
theorem dX6_agreesWith_7 : decode cX6_agreesWith 7 = .ok (.getfield 46, 3) := by decide +kernel
theorem dX6_agreesWith_10 : decode cX6_agreesWith 10 = .ok (.if_icmp .gt 32, 3) := by decide +kernel
theorem dX6_agreesWith_13 : decode cX6_agreesWith 13 = .ok (.aload_n 0, 1) := by decide +kernel
theorem dX6_agreesWith_14 : decode cX6_agreesWith 14 = .ok (.iload_n 2, 1) := by decide +kernel
theorem dX6_agreesWith_15 : decode cX6_agreesWith 15 = .ok (.aload_n 0, 1) := by decide +kernel
theorem dX6_agreesWith_16 : decode cX6_agreesWith 16 = .ok (.getfield 19, 3) := by decide +kernel
theorem dX6_agreesWith_19 : decode cX6_agreesWith 19 = .ok (.invokevirtual 95, 3) := by decide +kernel
theorem dX6_agreesWith_22 : decode cX6_agreesWith 22 = .ok (.aload_n 0, 1) := by decide +kernel
theorem dX6_agreesWith_23 : decode cX6_agreesWith 23 = .ok (.getfield 19, 3) := by decide +kernel
theorem dX6_agreesWith_26 : decode cX6_agreesWith 26 = .ok (.iload_n 1, 1) := by decide +kernel
theorem dX6_agreesWith_27 : decode cX6_agreesWith 27 = .ok (.invokestatic 123, 3) := by decide +kernel
theorem dX6_agreesWith_30 : decode cX6_agreesWith 30 = .ok (.iload_n 2, 1) := by decide +kernel
theorem dX6_agreesWith_31 : decode cX6_agreesWith 31 = .ok (.if_icmp .eq 5, 3) := by decide +kernel
theorem dX6_agreesWith_34 : decode cX6_agreesWith 34 = .ok (.iconst 0, 1) := by decide +kernel
theorem dX6_agreesWith_35 : decode cX6_agreesWith 35 = .ok (.ireturn, 1) := by decide +kernel
theorem dX6_agreesWith_36 : decode cX6_agreesWith 36 = .ok (.iinc 2 1, 3) := by decide +kernel
theorem dX6_agreesWith_39 : decode cX6_agreesWith 39 = .ok (.goto (-37), 3) := by decide +kernel
theorem dX6_agreesWith_42 : decode cX6_agreesWith 42 = .ok (.iconst 1, 1) := by decide +kernel
theorem dX6_agreesWith_43 : decode cX6_agreesWith 43 = .ok (.ireturn, 1) := by decide +kernel
theorem dX7_init_0 : decode cX7_init 0 = .ok (.aload_n 0, 1) := by decide +kernel
theorem dX7_init_1 : decode cX7_init 1 = .ok (.invokespecial 3, 3) := by decide +kernel
theorem dX7_init_4 : decode cX7_init 4 = .ok (.aload_n 0, 1) := by decide +kernel
theorem dX7_init_5 : decode cX7_init 5 = .ok (.new 9, 3) := by decide +kernel
theorem dX7_init_8 : decode cX7_init 8 = .ok (.dup, 1) := by decide +kernel
theorem dX7_init_9 : decode cX7_init 9 = .ok (.invokespecial 11, 3) := by decide +kernel
theorem dX7_init_12 : decode cX7_init 12 = .ok (.putfield 12, 3) := by decide +kernel
theorem dX7_init_15 : decode cX7_init 15 = .ok (.aload_n 0, 1) := by decide +kernel
theorem dX7_init_16 : decode cX7_init 16 = .ok (.new 9, 3) := by decide +kernel
theorem dX7_init_19 : decode cX7_init 19 = .ok (.dup, 1) := by decide +kernel
theorem dX7_init_20 : decode cX7_init 20 = .ok (.invokespecial 11, 3) := by decide +kernel
theorem dX7_init_23 : decode cX7_init 23 = .ok (.putfield 18, 3) := by decide +kernel
theorem dX7_init_26 : decode cX7_init 26 = .ok (.aload_n 0, 1) := by decide +kernel
theorem dX7_init_27 : decode cX7_init 27 = .ok (.bipush 6, 2) := by decide +kernel
theorem dX7_init_29 : decode cX7_init 29 = .ok (.newarray .int, 2) := by decide +kernel
theorem dX7_init_31 : decode cX7_init 31 = .ok (.putfield 21, 3) := by decide +kernel
theorem dX7_init_34 : decode cX7_init 34 = .ok (.return_, 1) := by decide +kernel
theorem dX7_sign_0 : decode cX7_sign 0 = .ok (.iconst 0, 1) := by decide +kernel
theorem dX7_sign_1 : decode cX7_sign 1 = .ok (.istore_n 2, 1) := by decide +kernel
theorem dX7_sign_2 : decode cX7_sign 2 = .ok (.iconst 0, 1) := by decide +kernel
theorem dX7_sign_3 : decode cX7_sign 3 = .ok (.istore_n 3, 1) := by decide +kernel
theorem dX7_sign_4 : decode cX7_sign 4 = .ok (.iconst 0, 1) := by decide +kernel
theorem dX7_sign_5 : decode cX7_sign 5 = .ok (.istore 4, 2) := by decide +kernel
theorem dX7_sign_7 : decode cX7_sign 7 = .ok (.iload 4, 2) := by decide +kernel
theorem dX7_sign_9 : decode cX7_sign 9 = .ok (.bipush 6, 2) := by decide +kernel
theorem dX7_sign_11 : decode cX7_sign 11 = .ok (.if_icmp .ge 43, 3) := by decide +kernel
theorem dX7_sign_14 : decode cX7_sign 14 = .ok (.iload_n 2, 1) := by decide +kernel
theorem dX7_sign_15 : decode cX7_sign 15 = .ok (.ifCond .ne 10, 3) := by decide +kernel
theorem dX7_sign_18 : decode cX7_sign 18 = .ok (.aload_n 1, 1) := by decide +kernel
theorem dX7_sign_19 : decode cX7_sign 19 = .ok (.iload 4, 2) := by decide +kernel
theorem dX7_sign_21 : decode cX7_sign 21 = .ok (.iaload, 1) := by decide +kernel
theorem dX7_sign_22 : decode cX7_sign 22 = .ok (.ifCond .le 7, 3) := by decide +kernel
theorem dX7_sign_25 : decode cX7_sign 25 = .ok (.iconst 1, 1) := by decide +kernel
theorem dX7_sign_26 : decode cX7_sign 26 = .ok (.goto 4, 3) := by decide +kernel
theorem dX7_sign_29 : decode cX7_sign 29 = .ok (.iconst 0, 1) := by decide +kernel
theorem dX7_sign_30 : decode cX7_sign 30 = .ok (.istore_n 2, 1) := by decide +kernel
theorem dX7_sign_31 : decode cX7_sign 31 = .ok (.iload_n 3, 1) := by decide +kernel
theorem dX7_sign_32 : decode cX7_sign 32 = .ok (.ifCond .ne 10, 3) := by decide +kernel
theorem dX7_sign_35 : decode cX7_sign 35 = .ok (.aload_n 1, 1) := by decide +kernel
theorem dX7_sign_36 : decode cX7_sign 36 = .ok (.iload 4, 2) := by decide +kernel
theorem dX7_sign_38 : decode cX7_sign 38 = .ok (.iaload, 1) := by decide +kernel
theorem dX7_sign_39 : decode cX7_sign 39 = .ok (.ifCond .ge 7, 3) := by decide +kernel
theorem dX7_sign_42 : decode cX7_sign 42 = .ok (.iconst 1, 1) := by decide +kernel
theorem dX7_sign_43 : decode cX7_sign 43 = .ok (.goto 4, 3) := by decide +kernel
theorem dX7_sign_46 : decode cX7_sign 46 = .ok (.iconst 0, 1) := by decide +kernel
theorem dX7_sign_47 : decode cX7_sign 47 = .ok (.istore_n 3, 1) := by decide +kernel
theorem dX7_sign_48 : decode cX7_sign 48 = .ok (.iinc 4 1, 3) := by decide +kernel
theorem dX7_sign_51 : decode cX7_sign 51 = .ok (.goto (-44), 3) := by decide +kernel
theorem dX7_sign_54 : decode cX7_sign 54 = .ok (.iload_n 2, 1) := by decide +kernel
theorem dX7_sign_55 : decode cX7_sign 55 = .ok (.ifCond .eq 7, 3) := by decide +kernel
theorem dX7_sign_58 : decode cX7_sign 58 = .ok (.iload_n 3, 1) := by decide +kernel
theorem dX7_sign_59 : decode cX7_sign 59 = .ok (.ifCond .ne 21, 3) := by decide +kernel
theorem dX7_sign_62 : decode cX7_sign 62 = .ok (.iload_n 2, 1) := by decide +kernel
theorem dX7_sign_63 : decode cX7_sign 63 = .ok (.ifCond .eq 7, 3) := by decide +kernel
theorem dX7_sign_66 : decode cX7_sign 66 = .ok (.iconst 1, 1) := by decide +kernel
theorem dX7_sign_67 : decode cX7_sign 67 = .ok (.goto 12, 3) := by decide +kernel
theorem dX7_sign_70 : decode cX7_sign 70 = .ok (.iload_n 3, 1) := by decide +kernel
theorem dX7_sign_71 : decode cX7_sign 71 = .ok (.ifCond .eq 7, 3) := by decide +kernel
theorem dX7_sign_74 : decode cX7_sign 74 = .ok (.iconst (-1), 1) := by decide +kernel
theorem dX7_sign_75 : decode cX7_sign 75 = .ok (.goto 4, 3) := by decide +kernel
theorem dX7_sign_78 : decode cX7_sign 78 = .ok (.iconst 0, 1) := by decide +kernel
theorem dX7_sign_79 : decode cX7_sign 79 = .ok (.ireturn, 1) := by decide +kernel
theorem dX7_sign_80 : decode cX7_sign 80 = .ok (.aload_n 0, 1) := by decide +kernel
theorem dX7_sign_81 : decode cX7_sign 81 = .ok (.getfield 12, 3) := by decide +kernel
theorem dX7_sign_84 : decode cX7_sign 84 = .ok (.aload_n 1, 1) := by decide +kernel
theorem dX7_sign_85 : decode cX7_sign 85 = .ok (.iconst 1, 1) := by decide +kernel
theorem dX7_sign_86 : decode cX7_sign 86 = .ok (.invokevirtual 25, 3) := by decide +kernel
theorem dX7_sign_89 : decode cX7_sign 89 = .ok (.aload_n 0, 1) := by decide +kernel
theorem dX7_sign_90 : decode cX7_sign 90 = .ok (.getfield 18, 3) := by decide +kernel
theorem dX7_sign_93 : decode cX7_sign 93 = .ok (.aload_n 1, 1) := by decide +kernel
theorem dX7_sign_94 : decode cX7_sign 94 = .ok (.iconst (-1), 1) := by decide +kernel
theorem dX7_sign_95 : decode cX7_sign 95 = .ok (.invokevirtual 25, 3) := by decide +kernel
theorem dX7_sign_98 : decode cX7_sign 98 = .ok (.aload_n 0, 1) := by decide +kernel
theorem dX7_sign_99 : decode cX7_sign 99 = .ok (.getfield 12, 3) := by decide +kernel
theorem dX7_sign_102 : decode cX7_sign 102 = .ok (.aload_n 0, 1) := by decide +kernel
theorem dX7_sign_103 : decode cX7_sign 103 = .ok (.getfield 18, 3) := by decide +kernel
theorem dX7_sign_106 : decode cX7_sign 106 = .ok (.invokevirtual 29, 3) := by decide +kernel
theorem dX7_sign_109 : decode cX7_sign 109 = .ok (.ireturn, 1) := by decide +kernel
theorem dX7_compareSizes_0 : decode cX7_compareSizes 0 = .ok (.aload_n 1, 1) := by decide +kernel
theorem dX7_compareSizes_1 : decode cX7_compareSizes 1 = .ok (.aload_n 2, 1) := by decide +kernel
theorem dX7_compareSizes_2 : decode cX7_compareSizes 2 = .ok (.iconst (-1), 1) := by decide +kernel
theorem dX7_compareSizes_3 : decode cX7_compareSizes 3 = .ok (.aload_n 0, 1) := by decide +kernel
theorem dX7_compareSizes_4 : decode cX7_compareSizes 4 = .ok (.getfield 21, 3) := by decide +kernel
theorem dX7_compareSizes_7 : decode cX7_compareSizes 7 = .ok (.invokestatic 33, 3) := by decide +kernel
theorem dX7_compareSizes_10 : decode cX7_compareSizes 10 = .ok (.aload_n 0, 1) := by decide +kernel
theorem dX7_compareSizes_11 : decode cX7_compareSizes 11 = .ok (.aload_n 0, 1) := by decide +kernel
theorem dX7_compareSizes_12 : decode cX7_compareSizes 12 = .ok (.getfield 21, 3) := by decide +kernel
theorem dX7_compareSizes_15 : decode cX7_compareSizes 15 = .ok (.invokevirtual 39, 3) := by decide +kernel
theorem dX7_compareSizes_18 : decode cX7_compareSizes 18 = .ok (.ireturn, 1) := by decide +kernel
theorem dX7_writeRatio_0 : decode cX7_writeRatio 0 = .ok (.aload_n 0, 1) := by decide +kernel
theorem dX7_writeRatio_1 : decode cX7_writeRatio 1 = .ok (.getfield 12, 3) := by decide +kernel
theorem dX7_writeRatio_4 : decode cX7_writeRatio 4 = .ok (.aload_n 1, 1) := by decide +kernel
theorem dX7_writeRatio_5 : decode cX7_writeRatio 5 = .ok (.iconst 1, 1) := by decide +kernel
theorem dX7_writeRatio_6 : decode cX7_writeRatio 6 = .ok (.invokevirtual 25, 3) := by decide +kernel
theorem dX7_writeRatio_9 : decode cX7_writeRatio 9 = .ok (.aload_n 0, 1) := by decide +kernel
theorem dX7_writeRatio_10 : decode cX7_writeRatio 10 = .ok (.getfield 18, 3) := by decide +kernel
theorem dX7_writeRatio_13 : decode cX7_writeRatio 13 = .ok (.aload_n 1, 1) := by decide +kernel
theorem dX7_writeRatio_14 : decode cX7_writeRatio 14 = .ok (.iconst (-1), 1) := by decide +kernel
theorem dX7_writeRatio_15 : decode cX7_writeRatio 15 = .ok (.invokevirtual 25, 3) := by decide +kernel
theorem dX7_writeRatio_18 : decode cX7_writeRatio 18 = .ok (.aload_n 0, 1) := by decide +kernel
theorem dX7_writeRatio_19 : decode cX7_writeRatio 19 = .ok (.getfield 12, 3) := by decide +kernel
theorem dX7_writeRatio_22 : decode cX7_writeRatio 22 = .ok (.aload_n 2, 1) := by decide +kernel
theorem dX7_writeRatio_23 : decode cX7_writeRatio 23 = .ok (.iconst 0, 1) := by decide +kernel
theorem dX7_writeRatio_24 : decode cX7_writeRatio 24 = .ok (.invokevirtual 43, 3) := by decide +kernel
theorem dX7_writeRatio_27 : decode cX7_writeRatio 27 = .ok (.istore_n 3, 1) := by decide +kernel
theorem dX7_writeRatio_28 : decode cX7_writeRatio 28 = .ok (.iload_n 3, 1) := by decide +kernel
theorem dX7_writeRatio_29 : decode cX7_writeRatio 29 = .ok (.aload_n 2, 1) := by decide +kernel
theorem dX7_writeRatio_30 : decode cX7_writeRatio 30 = .ok (.arraylength, 1) := by decide +kernel
theorem dX7_writeRatio_31 : decode cX7_writeRatio 31 = .ok (.if_icmp .ge 11, 3) := by decide +kernel
theorem dX7_writeRatio_34 : decode cX7_writeRatio 34 = .ok (.aload_n 2, 1) := by decide +kernel
theorem dX7_writeRatio_35 : decode cX7_writeRatio 35 = .ok (.iload_n 3, 1) := by decide +kernel
theorem dX7_writeRatio_36 : decode cX7_writeRatio 36 = .ok (.bipush 47, 2) := by decide +kernel
theorem dX7_writeRatio_38 : decode cX7_writeRatio 38 = .ok (.bastore, 1) := by decide +kernel
theorem dX7_writeRatio_39 : decode cX7_writeRatio 39 = .ok (.iinc 3 1, 3) := by decide +kernel
theorem dX7_writeRatio_42 : decode cX7_writeRatio 42 = .ok (.aload_n 0, 1) := by decide +kernel
theorem dX7_writeRatio_43 : decode cX7_writeRatio 43 = .ok (.getfield 18, 3) := by decide +kernel
theorem dX7_writeRatio_46 : decode cX7_writeRatio 46 = .ok (.aload_n 2, 1) := by decide +kernel
theorem dX7_writeRatio_47 : decode cX7_writeRatio 47 = .ok (.iload_n 3, 1) := by decide +kernel
theorem dX7_writeRatio_48 : decode cX7_writeRatio 48 = .ok (.invokevirtual 43, 3) := by decide +kernel
theorem dX7_writeRatio_51 : decode cX7_writeRatio 51 = .ok (.ireturn, 1) := by decide +kernel
theorem dX7_foldInto_0 : decode cX7_foldInto 0 = .ok (.sipush (-1000), 3) := by decide +kernel
theorem dX7_foldInto_3 : decode cX7_foldInto 3 = .ok (.istore 4, 2) := by decide +kernel
theorem dX7_foldInto_5 : decode cX7_foldInto 5 = .ok (.sipush 1000, 3) := by decide +kernel
theorem dX7_foldInto_8 : decode cX7_foldInto 8 = .ok (.istore 5, 2) := by decide +kernel
theorem dX7_foldInto_10 : decode cX7_foldInto 10 = .ok (.iconst 0, 1) := by decide +kernel
theorem dX7_foldInto_11 : decode cX7_foldInto 11 = .ok (.istore 6, 2) := by decide +kernel
theorem dX7_foldInto_13 : decode cX7_foldInto 13 = .ok (.iload 6, 2) := by decide +kernel
theorem dX7_foldInto_15 : decode cX7_foldInto 15 = .ok (.bipush 6, 2) := by decide +kernel
theorem dX7_foldInto_17 : decode cX7_foldInto 17 = .ok (.if_icmp .ge 125, 3) := by decide +kernel
theorem dX7_foldInto_20 : decode cX7_foldInto 20 = .ok (.aload_n 1, 1) := by decide +kernel
theorem dX7_foldInto_21 : decode cX7_foldInto 21 = .ok (.iload 6, 2) := by decide +kernel
theorem dX7_foldInto_23 : decode cX7_foldInto 23 = .ok (.iaload, 1) := by decide +kernel
theorem dX7_foldInto_24 : decode cX7_foldInto 24 = .ok (.istore 7, 2) := by decide +kernel
theorem dX7_foldInto_26 : decode cX7_foldInto 26 = .ok (.aload_n 2, 1) := by decide +kernel
theorem dX7_foldInto_27 : decode cX7_foldInto 27 = .ok (.iload 6, 2) := by decide +kernel
theorem dX7_foldInto_29 : decode cX7_foldInto 29 = .ok (.iaload, 1) := by decide +kernel
theorem dX7_foldInto_30 : decode cX7_foldInto 30 = .ok (.istore 8, 2) := by decide +kernel
theorem dX7_foldInto_32 : decode cX7_foldInto 32 = .ok (.iload 8, 2) := by decide +kernel
theorem dX7_foldInto_34 : decode cX7_foldInto 34 = .ok (.ifCond .le 41, 3) := by decide +kernel
theorem dX7_foldInto_37 : decode cX7_foldInto 37 = .ok (.iload 4, 2) := by decide +kernel
theorem dX7_foldInto_39 : decode cX7_foldInto 39 = .ok (.iload 7, 2) := by decide +kernel
theorem dX7_foldInto_41 : decode cX7_foldInto 41 = .ok (.bipush 24, 2) := by decide +kernel
theorem dX7_foldInto_43 : decode cX7_foldInto 43 = .ok (.iadd, 1) := by decide +kernel
theorem dX7_foldInto_44 : decode cX7_foldInto 44 = .ok (.iload 8, 2) := by decide +kernel
theorem dX7_foldInto_46 : decode cX7_foldInto 46 = .ok (.invokestatic 47, 3) := by decide +kernel
theorem dX7_foldInto_49 : decode cX7_foldInto 49 = .ok (.ineg, 1) := by decide +kernel
theorem dX7_foldInto_50 : decode cX7_foldInto 50 = .ok (.invokestatic 53, 3) := by decide +kernel
theorem dX7_foldInto_53 : decode cX7_foldInto 53 = .ok (.istore 4, 2) := by decide +kernel
theorem dX7_foldInto_55 : decode cX7_foldInto 55 = .ok (.iload 5, 2) := by decide +kernel
theorem dX7_foldInto_57 : decode cX7_foldInto 57 = .ok (.bipush 24, 2) := by decide +kernel
theorem dX7_foldInto_59 : decode cX7_foldInto 59 = .ok (.iload 7, 2) := by decide +kernel
theorem dX7_foldInto_61 : decode cX7_foldInto 61 = .ok (.isub, 1) := by decide +kernel
theorem dX7_foldInto_62 : decode cX7_foldInto 62 = .ok (.iload 8, 2) := by decide +kernel
theorem dX7_foldInto_64 : decode cX7_foldInto 64 = .ok (.invokestatic 47, 3) := by decide +kernel
theorem dX7_foldInto_67 : decode cX7_foldInto 67 = .ok (.invokestatic 56, 3) := by decide +kernel
theorem dX7_foldInto_70 : decode cX7_foldInto 70 = .ok (.istore 5, 2) := by decide +kernel
theorem dX7_foldInto_72 : decode cX7_foldInto 72 = .ok (.goto 64, 3) := by decide +kernel
theorem dX7_foldInto_75 : decode cX7_foldInto 75 = .ok (.iload 8, 2) := by decide +kernel
theorem dX7_foldInto_77 : decode cX7_foldInto 77 = .ok (.ifCond .ge 43, 3) := by decide +kernel
theorem dX7_foldInto_80 : decode cX7_foldInto 80 = .ok (.iload 4, 2) := by decide +kernel
theorem dX7_foldInto_82 : decode cX7_foldInto 82 = .ok (.bipush 24, 2) := by decide +kernel
theorem dX7_foldInto_84 : decode cX7_foldInto 84 = .ok (.iload 7, 2) := by decide +kernel
theorem dX7_foldInto_86 : decode cX7_foldInto 86 = .ok (.isub, 1) := by decide +kernel
theorem dX7_foldInto_87 : decode cX7_foldInto 87 = .ok (.iload 8, 2) := by decide +kernel
theorem dX7_foldInto_89 : decode cX7_foldInto 89 = .ok (.ineg, 1) := by decide +kernel
theorem dX7_foldInto_90 : decode cX7_foldInto 90 = .ok (.invokestatic 47, 3) := by decide +kernel
theorem dX7_foldInto_93 : decode cX7_foldInto 93 = .ok (.ineg, 1) := by decide +kernel
theorem dX7_foldInto_94 : decode cX7_foldInto 94 = .ok (.invokestatic 53, 3) := by decide +kernel
theorem dX7_foldInto_97 : decode cX7_foldInto 97 = .ok (.istore 4, 2) := by decide +kernel
theorem dX7_foldInto_99 : decode cX7_foldInto 99 = .ok (.iload 5, 2) := by decide +kernel
theorem dX7_foldInto_101 : decode cX7_foldInto 101 = .ok (.iload 7, 2) := by decide +kernel
theorem dX7_foldInto_103 : decode cX7_foldInto 103 = .ok (.bipush 24, 2) := by decide +kernel
theorem dX7_foldInto_105 : decode cX7_foldInto 105 = .ok (.iadd, 1) := by decide +kernel
theorem dX7_foldInto_106 : decode cX7_foldInto 106 = .ok (.iload 8, 2) := by decide +kernel
theorem dX7_foldInto_108 : decode cX7_foldInto 108 = .ok (.ineg, 1) := by decide +kernel
theorem dX7_foldInto_109 : decode cX7_foldInto 109 = .ok (.invokestatic 47, 3) := by decide +kernel
theorem dX7_foldInto_112 : decode cX7_foldInto 112 = .ok (.invokestatic 56, 3) := by decide +kernel
theorem dX7_foldInto_115 : decode cX7_foldInto 115 = .ok (.istore 5, 2) := by decide +kernel
theorem dX7_foldInto_117 : decode cX7_foldInto 117 = .ok (.goto 19, 3) := by decide +kernel
theorem dX7_foldInto_120 : decode cX7_foldInto 120 = .ok (.iload 7, 2) := by decide +kernel
theorem dX7_foldInto_122 : decode cX7_foldInto 122 = .ok (.bipush (-24), 2) := by decide +kernel
theorem dX7_foldInto_124 : decode cX7_foldInto 124 = .ok (.if_icmp .lt 10, 3) := by decide +kernel
theorem dX7_foldInto_127 : decode cX7_foldInto 127 = .ok (.iload 7, 2) := by decide +kernel
theorem dX7_foldInto_129 : decode cX7_foldInto 129 = .ok (.bipush 24, 2) := by decide +kernel
theorem dX7_foldInto_131 : decode cX7_foldInto 131 = .ok (.if_icmp .le 5, 3) := by decide +kernel
theorem dX7_foldInto_134 : decode cX7_foldInto 134 = .ok (.iconst 0, 1) := by decide +kernel
theorem dX7_foldInto_135 : decode cX7_foldInto 135 = .ok (.ireturn, 1) := by decide +kernel
theorem dX7_foldInto_136 : decode cX7_foldInto 136 = .ok (.iinc 6 1, 3) := by decide +kernel
theorem dX7_foldInto_139 : decode cX7_foldInto 139 = .ok (.goto (-126), 3) := by decide +kernel
theorem dX7_foldInto_142 : decode cX7_foldInto 142 = .ok (.iload 4, 2) := by decide +kernel
theorem dX7_foldInto_144 : decode cX7_foldInto 144 = .ok (.iload 5, 2) := by decide +kernel
theorem dX7_foldInto_146 : decode cX7_foldInto 146 = .ok (.if_icmp .gt 21, 3) := by decide +kernel
theorem dX7_foldInto_149 : decode cX7_foldInto 149 = .ok (.aload_n 0, 1) := by decide +kernel
theorem dX7_foldInto_150 : decode cX7_foldInto 150 = .ok (.aload_n 1, 1) := by decide +kernel
theorem dX7_foldInto_151 : decode cX7_foldInto 151 = .ok (.aload_n 2, 1) := by decide +kernel
theorem dX7_foldInto_152 : decode cX7_foldInto 152 = .ok (.iload 4, 2) := by decide +kernel
theorem dX7_foldInto_154 : decode cX7_foldInto 154 = .ok (.iload 5, 2) := by decide +kernel
theorem dX7_foldInto_156 : decode cX7_foldInto 156 = .ok (.aload_n 3, 1) := by decide +kernel
theorem dX7_foldInto_157 : decode cX7_foldInto 157 = .ok (.invokevirtual 59, 3) := by decide +kernel
theorem dX7_foldInto_160 : decode cX7_foldInto 160 = .ok (.ifCond .eq 7, 3) := by decide +kernel
theorem dX7_foldInto_163 : decode cX7_foldInto 163 = .ok (.iconst 1, 1) := by decide +kernel
theorem dX7_foldInto_164 : decode cX7_foldInto 164 = .ok (.goto 4, 3) := by decide +kernel
theorem dX7_foldInto_167 : decode cX7_foldInto 167 = .ok (.iconst 0, 1) := by decide +kernel
theorem dX7_foldInto_168 : decode cX7_foldInto 168 = .ok (.ireturn, 1) := by decide +kernel
theorem dX7_foldBetween_0 : decode cX7_foldBetween 0 = .ok (.iload_n 3, 1) := by decide +kernel
theorem dX7_foldBetween_1 : decode cX7_foldBetween 1 = .ok (.istore 6, 2) := by decide +kernel
theorem dX7_foldBetween_3 : decode cX7_foldBetween 3 = .ok (.iload 4, 2) := by decide +kernel
theorem dX7_foldBetween_5 : decode cX7_foldBetween 5 = .ok (.istore 7, 2) := by decide +kernel
theorem dX7_foldBetween_7 : decode cX7_foldBetween 7 = .ok (.iconst 0, 1) := by decide +kernel
theorem dX7_foldBetween_8 : decode cX7_foldBetween 8 = .ok (.istore 8, 2) := by decide +kernel
theorem dX7_foldBetween_10 : decode cX7_foldBetween 10 = .ok (.iload 8, 2) := by decide +kernel
theorem dX7_foldBetween_12 : decode cX7_foldBetween 12 = .ok (.bipush 32, 2) := by decide +kernel
theorem dX7_foldBetween_14 : decode cX7_foldBetween 14 = .ok (.if_icmp .ge 58, 3) := by decide +kernel
theorem dX7_foldBetween_17 : decode cX7_foldBetween 17 = .ok (.iload 6, 2) := by decide +kernel
theorem dX7_foldBetween_19 : decode cX7_foldBetween 19 = .ok (.iload 7, 2) := by decide +kernel
theorem dX7_foldBetween_21 : decode cX7_foldBetween 21 = .ok (.if_icmp .ge 51, 3) := by decide +kernel
theorem dX7_foldBetween_24 : decode cX7_foldBetween 24 = .ok (.iload 6, 2) := by decide +kernel
theorem dX7_foldBetween_26 : decode cX7_foldBetween 26 = .ok (.iload 7, 2) := by decide +kernel
theorem dX7_foldBetween_28 : decode cX7_foldBetween 28 = .ok (.iadd, 1) := by decide +kernel
theorem dX7_foldBetween_29 : decode cX7_foldBetween 29 = .ok (.iconst 2, 1) := by decide +kernel
theorem dX7_foldBetween_30 : decode cX7_foldBetween 30 = .ok (.invokestatic 47, 3) := by decide +kernel
theorem dX7_foldBetween_33 : decode cX7_foldBetween 33 = .ok (.istore 9, 2) := by decide +kernel
theorem dX7_foldBetween_35 : decode cX7_foldBetween 35 = .ok (.aload_n 1, 1) := by decide +kernel
theorem dX7_foldBetween_36 : decode cX7_foldBetween 36 = .ok (.aload_n 2, 1) := by decide +kernel
theorem dX7_foldBetween_37 : decode cX7_foldBetween 37 = .ok (.iload 9, 2) := by decide +kernel
theorem dX7_foldBetween_39 : decode cX7_foldBetween 39 = .ok (.aload 5, 2) := by decide +kernel
theorem dX7_foldBetween_41 : decode cX7_foldBetween 41 = .ok (.invokestatic 33, 3) := by decide +kernel
theorem dX7_foldBetween_44 : decode cX7_foldBetween 44 = .ok (.aload_n 0, 1) := by decide +kernel
theorem dX7_foldBetween_45 : decode cX7_foldBetween 45 = .ok (.aload 5, 2) := by decide +kernel
theorem dX7_foldBetween_47 : decode cX7_foldBetween 47 = .ok (.invokevirtual 39, 3) := by decide +kernel
theorem dX7_foldBetween_50 : decode cX7_foldBetween 50 = .ok (.ifCond .lt 10, 3) := by decide +kernel
theorem dX7_foldBetween_53 : decode cX7_foldBetween 53 = .ok (.iload 9, 2) := by decide +kernel
theorem dX7_foldBetween_55 : decode cX7_foldBetween 55 = .ok (.istore 7, 2) := by decide +kernel
theorem dX7_foldBetween_57 : decode cX7_foldBetween 57 = .ok (.goto 9, 3) := by decide +kernel
theorem dX7_foldBetween_60 : decode cX7_foldBetween 60 = .ok (.iload 9, 2) := by decide +kernel
theorem dX7_foldBetween_62 : decode cX7_foldBetween 62 = .ok (.iconst 1, 1) := by decide +kernel
theorem dX7_foldBetween_63 : decode cX7_foldBetween 63 = .ok (.iadd, 1) := by decide +kernel
theorem dX7_foldBetween_64 : decode cX7_foldBetween 64 = .ok (.istore 6, 2) := by decide +kernel
theorem dX7_foldBetween_66 : decode cX7_foldBetween 66 = .ok (.iinc 8 1, 3) := by decide +kernel
theorem dX7_foldBetween_69 : decode cX7_foldBetween 69 = .ok (.goto (-59), 3) := by decide +kernel
theorem dX7_foldBetween_72 : decode cX7_foldBetween 72 = .ok (.aload_n 1, 1) := by decide +kernel
theorem dX7_foldBetween_73 : decode cX7_foldBetween 73 = .ok (.aload_n 2, 1) := by decide +kernel
theorem dX7_foldBetween_74 : decode cX7_foldBetween 74 = .ok (.iload 6, 2) := by decide +kernel
theorem dX7_foldBetween_76 : decode cX7_foldBetween 76 = .ok (.aload 5, 2) := by decide +kernel
theorem dX7_foldBetween_78 : decode cX7_foldBetween 78 = .ok (.invokestatic 33, 3) := by decide +kernel
theorem dX7_foldBetween_81 : decode cX7_foldBetween 81 = .ok (.aload 5, 2) := by decide +kernel
theorem dX7_foldBetween_83 : decode cX7_foldBetween 83 = .ok (.aload_n 2, 1) := by decide +kernel
theorem dX7_foldBetween_84 : decode cX7_foldBetween 84 = .ok (.iconst (-1), 1) := by decide +kernel
theorem dX7_foldBetween_85 : decode cX7_foldBetween 85 = .ok (.aload_n 0, 1) := by decide +kernel
theorem dX7_foldBetween_86 : decode cX7_foldBetween 86 = .ok (.getfield 21, 3) := by decide +kernel
theorem dX7_foldBetween_89 : decode cX7_foldBetween 89 = .ok (.invokestatic 33, 3) := by decide +kernel
theorem dX7_foldBetween_92 : decode cX7_foldBetween 92 = .ok (.aload_n 0, 1) := by decide +kernel
theorem dX7_foldBetween_93 : decode cX7_foldBetween 93 = .ok (.aload 5, 2) := by decide +kernel
theorem dX7_foldBetween_95 : decode cX7_foldBetween 95 = .ok (.invokevirtual 39, 3) := by decide +kernel
theorem dX7_foldBetween_98 : decode cX7_foldBetween 98 = .ok (.ifCond .lt 18, 3) := by decide +kernel
theorem dX7_foldBetween_101 : decode cX7_foldBetween 101 = .ok (.aload_n 0, 1) := by decide +kernel
theorem dX7_foldBetween_102 : decode cX7_foldBetween 102 = .ok (.aload_n 0, 1) := by decide +kernel
theorem dX7_foldBetween_103 : decode cX7_foldBetween 103 = .ok (.getfield 21, 3) := by decide +kernel
theorem dX7_foldBetween_106 : decode cX7_foldBetween 106 = .ok (.invokevirtual 39, 3) := by decide +kernel
theorem dX7_foldBetween_109 : decode cX7_foldBetween 109 = .ok (.ifCond .ge 7, 3) := by decide +kernel
theorem dX7_foldBetween_112 : decode cX7_foldBetween 112 = .ok (.iconst 1, 1) := by decide +kernel
theorem dX7_foldBetween_113 : decode cX7_foldBetween 113 = .ok (.goto 4, 3) := by decide +kernel
theorem dX7_foldBetween_116 : decode cX7_foldBetween 116 = .ok (.iconst 0, 1) := by decide +kernel
theorem dX7_foldBetween_117 : decode cX7_foldBetween 117 = .ok (.ireturn, 1) := by decide +kernel
theorem dX8_init_0 : decode cX8_init 0 = .ok (.aload_n 0, 1) := by decide +kernel
theorem dX8_init_1 : decode cX8_init 1 = .ok (.invokespecial 1, 3) := by decide +kernel
theorem dX8_init_4 : decode cX8_init 4 = .ok (.aload_n 0, 1) := by decide +kernel
theorem dX8_init_5 : decode cX8_init 5 = .ok (.bipush 16, 2) := by decide +kernel
theorem dX8_init_7 : decode cX8_init 7 = .ok (.bipush 6, 2) := by decide +kernel
theorem dX8_init_9 : decode cX8_init 9 = .ok (.multianewarray 9 2, 4) := by decide +kernel
theorem dX8_init_13 : decode cX8_init 13 = .ok (.putfield 11, 3) := by decide +kernel
theorem dX8_init_16 : decode cX8_init 16 = .ok (.aload_n 0, 1) := by decide +kernel
theorem dX8_init_17 : decode cX8_init 17 = .ok (.bipush 16, 2) := by decide +kernel
theorem dX8_init_19 : decode cX8_init 19 = .ok (.newarray .boolean, 2) := by decide +kernel
theorem dX8_init_21 : decode cX8_init 21 = .ok (.putfield 14, 3) := by decide +kernel
theorem dX8_init_24 : decode cX8_init 24 = .ok (.aload_n 0, 1) := by decide +kernel
theorem dX8_init_25 : decode cX8_init 25 = .ok (.bipush 6, 2) := by decide +kernel
theorem dX8_init_27 : decode cX8_init 27 = .ok (.newarray .int, 2) := by decide +kernel
theorem dX8_init_29 : decode cX8_init 29 = .ok (.putfield 18, 3) := by decide +kernel
theorem dX8_init_32 : decode cX8_init 32 = .ok (.aload_n 0, 1) := by decide +kernel
theorem dX8_init_33 : decode cX8_init 33 = .ok (.sipush 256, 3) := by decide +kernel
theorem dX8_init_36 : decode cX8_init 36 = .ok (.newarray .byte, 2) := by decide +kernel
theorem dX8_init_38 : decode cX8_init 38 = .ok (.putfield 22, 3) := by decide +kernel
theorem dX8_init_41 : decode cX8_init 41 = .ok (.new 26, 3) := by decide +kernel
theorem dX8_init_44 : decode cX8_init 44 = .ok (.dup, 1) := by decide +kernel
theorem dX8_init_45 : decode cX8_init 45 = .ok (.invokespecial 28, 3) := by decide +kernel
theorem dX8_init_48 : decode cX8_init 48 = .ok (.astore_n 1, 1) := by decide +kernel
theorem dX8_init_49 : decode cX8_init 49 = .ok (.aload_n 0, 1) := by decide +kernel
theorem dX8_init_50 : decode cX8_init 50 = .ok (.aload_n 1, 1) := by decide +kernel
theorem dX8_init_51 : decode cX8_init 51 = .ok (.putfield 29, 3) := by decide +kernel
theorem dX8_init_54 : decode cX8_init 54 = .ok (.aload_n 0, 1) := by decide +kernel
theorem dX8_init_55 : decode cX8_init 55 = .ok (.new 33, 3) := by decide +kernel
theorem dX8_init_58 : decode cX8_init 58 = .ok (.dup, 1) := by decide +kernel
theorem dX8_init_59 : decode cX8_init 59 = .ok (.invokespecial 35, 3) := by decide +kernel
theorem dX8_init_62 : decode cX8_init 62 = .ok (.putfield 36, 3) := by decide +kernel
theorem dX8_init_65 : decode cX8_init 65 = .ok (.aload_n 0, 1) := by decide +kernel
theorem dX8_init_66 : decode cX8_init 66 = .ok (.new 40, 3) := by decide +kernel
theorem dX8_init_69 : decode cX8_init 69 = .ok (.dup, 1) := by decide +kernel
theorem dX8_init_70 : decode cX8_init 70 = .ok (.aload_n 1, 1) := by decide +kernel
theorem dX8_init_71 : decode cX8_init 71 = .ok (.invokespecial 42, 3) := by decide +kernel
theorem dX8_init_74 : decode cX8_init 74 = .ok (.putfield 45, 3) := by decide +kernel
theorem dX8_init_77 : decode cX8_init 77 = .ok (.aload_n 0, 1) := by decide +kernel
theorem dX8_init_78 : decode cX8_init 78 = .ok (.new 49, 3) := by decide +kernel
theorem dX8_init_81 : decode cX8_init 81 = .ok (.dup, 1) := by decide +kernel
theorem dX8_init_82 : decode cX8_init 82 = .ok (.aload_n 1, 1) := by decide +kernel
theorem dX8_init_83 : decode cX8_init 83 = .ok (.invokespecial 51, 3) := by decide +kernel
theorem dX8_init_86 : decode cX8_init 86 = .ok (.putfield 52, 3) := by decide +kernel
theorem dX8_init_89 : decode cX8_init 89 = .ok (.aload_n 0, 1) := by decide +kernel
theorem dX8_init_90 : decode cX8_init 90 = .ok (.iconst 0, 1) := by decide +kernel
theorem dX8_init_91 : decode cX8_init 91 = .ok (.putfield 56, 3) := by decide +kernel
theorem dX8_init_94 : decode cX8_init 94 = .ok (.aload_n 0, 1) := by decide +kernel
theorem dX8_init_95 : decode cX8_init 95 = .ok (.iconst 0, 1) := by decide +kernel
theorem dX8_init_96 : decode cX8_init 96 = .ok (.putfield 60, 3) := by decide +kernel
theorem dX8_init_99 : decode cX8_init 99 = .ok (.return_, 1) := by decide +kernel
theorem dX8_status_0 : decode cX8_status 0 = .ok (.aload_n 0, 1) := by decide +kernel
theorem dX8_status_1 : decode cX8_status 1 = .ok (.getfield 60, 3) := by decide +kernel
theorem dX8_status_4 : decode cX8_status 4 = .ok (.ireturn, 1) := by decide +kernel
theorem dX8_set_0 : decode cX8_set 0 = .ok (.iload_n 1, 1) := by decide +kernel
theorem dX8_set_1 : decode cX8_set 1 = .ok (.invokestatic 63, 3) := by decide +kernel
theorem dX8_set_4 : decode cX8_set 4 = .ok (.ifCond .ne 9, 3) := by decide +kernel
theorem dX8_set_7 : decode cX8_set 7 = .ok (.aload_n 0, 1) := by decide +kernel
theorem dX8_set_8 : decode cX8_set 8 = .ok (.iconst 1, 1) := by decide +kernel
theorem dX8_set_9 : decode cX8_set 9 = .ok (.invokevirtual 67, 3) := by decide +kernel
theorem dX8_set_12 : decode cX8_set 12 = .ok (.ireturn, 1) := by decide +kernel
theorem dX8_set_13 : decode cX8_set 13 = .ok (.aload_n 0, 1) := by decide +kernel
theorem dX8_set_14 : decode cX8_set 14 = .ok (.getfield 18, 3) := by decide +kernel
theorem dX8_set_17 : decode cX8_set 17 = .ok (.iconst 0, 1) := by decide +kernel
theorem dX8_set_18 : decode cX8_set 18 = .ok (.iload_n 2, 1) := by decide +kernel
theorem dX8_set_19 : decode cX8_set 19 = .ok (.iastore, 1) := by decide +kernel
theorem dX8_set_20 : decode cX8_set 20 = .ok (.aload_n 0, 1) := by decide +kernel
theorem dX8_set_21 : decode cX8_set 21 = .ok (.getfield 18, 3) := by decide +kernel
theorem dX8_set_24 : decode cX8_set 24 = .ok (.iconst 1, 1) := by decide +kernel
theorem dX8_set_25 : decode cX8_set 25 = .ok (.iload_n 3, 1) := by decide +kernel
theorem dX8_set_26 : decode cX8_set 26 = .ok (.iastore, 1) := by decide +kernel
theorem dX8_set_27 : decode cX8_set 27 = .ok (.aload_n 0, 1) := by decide +kernel
theorem dX8_set_28 : decode cX8_set 28 = .ok (.getfield 18, 3) := by decide +kernel
theorem dX8_set_31 : decode cX8_set 31 = .ok (.iconst 2, 1) := by decide +kernel
theorem dX8_set_32 : decode cX8_set 32 = .ok (.iload 4, 2) := by decide +kernel
theorem dX8_set_34 : decode cX8_set 34 = .ok (.iastore, 1) := by decide +kernel
theorem dX8_set_35 : decode cX8_set 35 = .ok (.aload_n 0, 1) := by decide +kernel
theorem dX8_set_36 : decode cX8_set 36 = .ok (.getfield 18, 3) := by decide +kernel
theorem dX8_set_39 : decode cX8_set 39 = .ok (.iconst 3, 1) := by decide +kernel
theorem dX8_set_40 : decode cX8_set 40 = .ok (.iload 5, 2) := by decide +kernel
theorem dX8_set_42 : decode cX8_set 42 = .ok (.iastore, 1) := by decide +kernel
theorem dX8_set_43 : decode cX8_set 43 = .ok (.aload_n 0, 1) := by decide +kernel
theorem dX8_set_44 : decode cX8_set 44 = .ok (.getfield 18, 3) := by decide +kernel
theorem dX8_set_47 : decode cX8_set 47 = .ok (.iconst 4, 1) := by decide +kernel
theorem dX8_set_48 : decode cX8_set 48 = .ok (.iload 6, 2) := by decide +kernel
theorem dX8_set_50 : decode cX8_set 50 = .ok (.iastore, 1) := by decide +kernel
theorem dX8_set_51 : decode cX8_set 51 = .ok (.aload_n 0, 1) := by decide +kernel
theorem dX8_set_52 : decode cX8_set 52 = .ok (.getfield 18, 3) := by decide +kernel
theorem dX8_set_55 : decode cX8_set 55 = .ok (.iconst 5, 1) := by decide +kernel
theorem dX8_set_56 : decode cX8_set 56 = .ok (.iload 7, 2) := by decide +kernel
theorem dX8_set_58 : decode cX8_set 58 = .ok (.iastore, 1) := by decide +kernel
theorem dX8_set_59 : decode cX8_set 59 = .ok (.aload_n 0, 1) := by decide +kernel
theorem dX8_set_60 : decode cX8_set 60 = .ok (.iload_n 1, 1) := by decide +kernel
theorem dX8_set_61 : decode cX8_set 61 = .ok (.invokevirtual 70, 3) := by decide +kernel
theorem dX8_set_64 : decode cX8_set 64 = .ok (.ireturn, 1) := by decide +kernel
theorem dX8_ratio_0 : decode cX8_ratio 0 = .ok (.iload_n 1, 1) := by decide +kernel
theorem dX8_ratio_1 : decode cX8_ratio 1 = .ok (.invokestatic 63, 3) := by decide +kernel
theorem dX8_ratio_4 : decode cX8_ratio 4 = .ok (.ifCond .ne 9, 3) := by decide +kernel
theorem dX8_ratio_7 : decode cX8_ratio 7 = .ok (.aload_n 0, 1) := by decide +kernel
theorem dX8_ratio_8 : decode cX8_ratio 8 = .ok (.iconst 1, 1) := by decide +kernel
theorem dX8_ratio_9 : decode cX8_ratio 9 = .ok (.invokevirtual 67, 3) := by decide +kernel
theorem dX8_ratio_12 : decode cX8_ratio 12 = .ok (.ireturn, 1) := by decide +kernel
theorem dX8_ratio_13 : decode cX8_ratio 13 = .ok (.iload_n 2, 1) := by decide +kernel
theorem dX8_ratio_14 : decode cX8_ratio 14 = .ok (.iconst 1, 1) := by decide +kernel
theorem dX8_ratio_15 : decode cX8_ratio 15 = .ok (.if_icmp .lt 20, 3) := by decide +kernel
theorem dX8_ratio_18 : decode cX8_ratio 18 = .ok (.iload_n 2, 1) := by decide +kernel
theorem dX8_ratio_19 : decode cX8_ratio 19 = .ok (.ldc 73, 2) := by decide +kernel
theorem dX8_ratio_21 : decode cX8_ratio 21 = .ok (.if_icmp .gt 14, 3) := by decide +kernel
theorem dX8_ratio_24 : decode cX8_ratio 24 = .ok (.iload_n 3, 1) := by decide +kernel
theorem dX8_ratio_25 : decode cX8_ratio 25 = .ok (.iconst 1, 1) := by decide +kernel
theorem dX8_ratio_26 : decode cX8_ratio 26 = .ok (.if_icmp .lt 9, 3) := by decide +kernel
theorem dX8_ratio_29 : decode cX8_ratio 29 = .ok (.iload_n 3, 1) := by decide +kernel
theorem dX8_ratio_30 : decode cX8_ratio 30 = .ok (.ldc 73, 2) := by decide +kernel
theorem dX8_ratio_32 : decode cX8_ratio 32 = .ok (.if_icmp .le 9, 3) := by decide +kernel
theorem dX8_ratio_35 : decode cX8_ratio 35 = .ok (.aload_n 0, 1) := by decide +kernel
theorem dX8_ratio_36 : decode cX8_ratio 36 = .ok (.iconst 3, 1) := by decide +kernel
theorem dX8_ratio_37 : decode cX8_ratio 37 = .ok (.invokevirtual 67, 3) := by decide +kernel
theorem dX8_ratio_40 : decode cX8_ratio 40 = .ok (.ireturn, 1) := by decide +kernel
theorem dX8_ratio_41 : decode cX8_ratio 41 = .ok (.iload_n 2, 1) := by decide +kernel
theorem dX8_ratio_42 : decode cX8_ratio 42 = .ok (.iload_n 3, 1) := by decide +kernel
theorem dX8_ratio_43 : decode cX8_ratio 43 = .ok (.aload_n 0, 1) := by decide +kernel
theorem dX8_ratio_44 : decode cX8_ratio 44 = .ok (.getfield 18, 3) := by decide +kernel
theorem dX8_ratio_47 : decode cX8_ratio 47 = .ok (.invokestatic 74, 3) := by decide +kernel
theorem dX8_ratio_50 : decode cX8_ratio 50 = .ok (.ifCond .ne 9, 3) := by decide +kernel
theorem dX8_ratio_53 : decode cX8_ratio 53 = .ok (.aload_n 0, 1) := by decide +kernel
theorem dX8_ratio_54 : decode cX8_ratio 54 = .ok (.iconst 4, 1) := by decide +kernel
theorem dX8_ratio_55 : decode cX8_ratio 55 = .ok (.invokevirtual 67, 3) := by decide +kernel
theorem dX8_ratio_58 : decode cX8_ratio 58 = .ok (.ireturn, 1) := by decide +kernel
theorem dX8_ratio_59 : decode cX8_ratio 59 = .ok (.aload_n 0, 1) := by decide +kernel
theorem dX8_ratio_60 : decode cX8_ratio 60 = .ok (.iload_n 1, 1) := by decide +kernel
theorem dX8_ratio_61 : decode cX8_ratio 61 = .ok (.invokevirtual 70, 3) := by decide +kernel
theorem dX8_ratio_64 : decode cX8_ratio 64 = .ok (.ireturn, 1) := by decide +kernel
theorem dX8_times_0 : decode cX8_times 0 = .ok (.iload_n 1, 1) := by decide +kernel
theorem dX8_times_1 : decode cX8_times 1 = .ok (.invokestatic 63, 3) := by decide +kernel
theorem dX8_times_4 : decode cX8_times 4 = .ok (.ifCond .eq 18, 3) := by decide +kernel
theorem dX8_times_7 : decode cX8_times 7 = .ok (.iload_n 2, 1) := by decide +kernel
theorem dX8_times_8 : decode cX8_times 8 = .ok (.invokestatic 63, 3) := by decide +kernel
theorem dX8_times_11 : decode cX8_times 11 = .ok (.ifCond .eq 11, 3) := by decide +kernel
theorem dX8_times_14 : decode cX8_times 14 = .ok (.iload 4, 2) := by decide +kernel
theorem dX8_times_16 : decode cX8_times 16 = .ok (.invokestatic 63, 3) := by decide +kernel
theorem dX8_times_19 : decode cX8_times 19 = .ok (.ifCond .ne 9, 3) := by decide +kernel
theorem dX8_times_22 : decode cX8_times 22 = .ok (.aload_n 0, 1) := by decide +kernel
theorem dX8_times_23 : decode cX8_times 23 = .ok (.iconst 1, 1) := by decide +kernel
theorem dX8_times_24 : decode cX8_times 24 = .ok (.invokevirtual 67, 3) := by decide +kernel
theorem dX8_times_27 : decode cX8_times 27 = .ok (.ireturn, 1) := by decide +kernel
theorem dX8_times_28 : decode cX8_times 28 = .ok (.aload_n 0, 1) := by decide +kernel
theorem dX8_times_29 : decode cX8_times 29 = .ok (.getfield 14, 3) := by decide +kernel
theorem dX8_times_32 : decode cX8_times 32 = .ok (.iload_n 1, 1) := by decide +kernel
theorem dX8_times_33 : decode cX8_times 33 = .ok (.baload, 1) := by decide +kernel
theorem dX8_times_34 : decode cX8_times 34 = .ok (.ifCond .eq 12, 3) := by decide +kernel
theorem dX8_times_37 : decode cX8_times 37 = .ok (.aload_n 0, 1) := by decide +kernel
theorem dX8_times_38 : decode cX8_times 38 = .ok (.getfield 14, 3) := by decide +kernel
theorem dX8_times_41 : decode cX8_times 41 = .ok (.iload_n 2, 1) := by decide +kernel
theorem dX8_times_42 : decode cX8_times 42 = .ok (.baload, 1) := by decide +kernel
theorem dX8_times_43 : decode cX8_times 43 = .ok (.ifCond .ne 9, 3) := by decide +kernel
theorem dX8_times_46 : decode cX8_times 46 = .ok (.aload_n 0, 1) := by decide +kernel
theorem dX8_times_47 : decode cX8_times 47 = .ok (.iconst 2, 1) := by decide +kernel
theorem dX8_times_48 : decode cX8_times 48 = .ok (.invokevirtual 67, 3) := by decide +kernel
theorem dX8_times_51 : decode cX8_times 51 = .ok (.ireturn, 1) := by decide +kernel
theorem dX8_times_52 : decode cX8_times 52 = .ok (.iload_n 3, 1) := by decide +kernel
theorem dX8_times_53 : decode cX8_times 53 = .ok (.bipush (-24), 2) := by decide +kernel
theorem dX8_times_55 : decode cX8_times 55 = .ok (.if_icmp .lt 9, 3) := by decide +kernel
theorem dX8_times_58 : decode cX8_times 58 = .ok (.iload_n 3, 1) := by decide +kernel
theorem dX8_times_59 : decode cX8_times 59 = .ok (.bipush 24, 2) := by decide +kernel
theorem dX8_times_61 : decode cX8_times 61 = .ok (.if_icmp .le 9, 3) := by decide +kernel
theorem dX8_times_64 : decode cX8_times 64 = .ok (.aload_n 0, 1) := by decide +kernel
theorem dX8_times_65 : decode cX8_times 65 = .ok (.iconst 3, 1) := by decide +kernel
theorem dX8_times_66 : decode cX8_times 66 = .ok (.invokevirtual 67, 3) := by decide +kernel
theorem dX8_times_69 : decode cX8_times 69 = .ok (.ireturn, 1) := by decide +kernel
theorem dX8_times_70 : decode cX8_times 70 = .ok (.aload_n 0, 1) := by decide +kernel
theorem dX8_times_71 : decode cX8_times 71 = .ok (.getfield 11, 3) := by decide +kernel
theorem dX8_times_74 : decode cX8_times 74 = .ok (.iload_n 1, 1) := by decide +kernel
theorem dX8_times_75 : decode cX8_times 75 = .ok (.aaload, 1) := by decide +kernel
theorem dX8_times_76 : decode cX8_times 76 = .ok (.aload_n 0, 1) := by decide +kernel
theorem dX8_times_77 : decode cX8_times 77 = .ok (.getfield 11, 3) := by decide +kernel
theorem dX8_times_80 : decode cX8_times 80 = .ok (.iload_n 2, 1) := by decide +kernel
theorem dX8_times_81 : decode cX8_times 81 = .ok (.aaload, 1) := by decide +kernel
theorem dX8_times_82 : decode cX8_times 82 = .ok (.iload_n 3, 1) := by decide +kernel
theorem dX8_times_83 : decode cX8_times 83 = .ok (.aload_n 0, 1) := by decide +kernel
theorem dX8_times_84 : decode cX8_times 84 = .ok (.getfield 18, 3) := by decide +kernel
theorem dX8_times_87 : decode cX8_times 87 = .ok (.invokestatic 80, 3) := by decide +kernel
theorem dX8_times_90 : decode cX8_times 90 = .ok (.aload_n 0, 1) := by decide +kernel
theorem dX8_times_91 : decode cX8_times 91 = .ok (.iload 4, 2) := by decide +kernel
theorem dX8_times_93 : decode cX8_times 93 = .ok (.invokevirtual 70, 3) := by decide +kernel
theorem dX8_times_96 : decode cX8_times 96 = .ok (.ireturn, 1) := by decide +kernel
theorem dX8_fold_0 : decode cX8_fold 0 = .ok (.iload_n 1, 1) := by decide +kernel
theorem dX8_fold_1 : decode cX8_fold 1 = .ok (.invokestatic 63, 3) := by decide +kernel
theorem dX8_fold_4 : decode cX8_fold 4 = .ok (.ifCond .eq 17, 3) := by decide +kernel
theorem dX8_fold_7 : decode cX8_fold 7 = .ok (.iload_n 2, 1) := by decide +kernel
theorem dX8_fold_8 : decode cX8_fold 8 = .ok (.invokestatic 63, 3) := by decide +kernel
theorem dX8_fold_11 : decode cX8_fold 11 = .ok (.ifCond .eq 10, 3) := by decide +kernel
theorem dX8_fold_14 : decode cX8_fold 14 = .ok (.iload_n 3, 1) := by decide +kernel
theorem dX8_fold_15 : decode cX8_fold 15 = .ok (.invokestatic 63, 3) := by decide +kernel
theorem dX8_fold_18 : decode cX8_fold 18 = .ok (.ifCond .ne 9, 3) := by decide +kernel
theorem dX8_fold_21 : decode cX8_fold 21 = .ok (.aload_n 0, 1) := by decide +kernel
theorem dX8_fold_22 : decode cX8_fold 22 = .ok (.iconst 1, 1) := by decide +kernel
theorem dX8_fold_23 : decode cX8_fold 23 = .ok (.invokevirtual 67, 3) := by decide +kernel
theorem dX8_fold_26 : decode cX8_fold 26 = .ok (.ireturn, 1) := by decide +kernel
theorem dX8_fold_27 : decode cX8_fold 27 = .ok (.aload_n 0, 1) := by decide +kernel
theorem dX8_fold_28 : decode cX8_fold 28 = .ok (.getfield 14, 3) := by decide +kernel
theorem dX8_fold_31 : decode cX8_fold 31 = .ok (.iload_n 1, 1) := by decide +kernel
theorem dX8_fold_32 : decode cX8_fold 32 = .ok (.baload, 1) := by decide +kernel
theorem dX8_fold_33 : decode cX8_fold 33 = .ok (.ifCond .eq 12, 3) := by decide +kernel
theorem dX8_fold_36 : decode cX8_fold 36 = .ok (.aload_n 0, 1) := by decide +kernel
theorem dX8_fold_37 : decode cX8_fold 37 = .ok (.getfield 14, 3) := by decide +kernel
theorem dX8_fold_40 : decode cX8_fold 40 = .ok (.iload_n 2, 1) := by decide +kernel
theorem dX8_fold_41 : decode cX8_fold 41 = .ok (.baload, 1) := by decide +kernel
theorem dX8_fold_42 : decode cX8_fold 42 = .ok (.ifCond .ne 9, 3) := by decide +kernel
theorem dX8_fold_45 : decode cX8_fold 45 = .ok (.aload_n 0, 1) := by decide +kernel
theorem dX8_fold_46 : decode cX8_fold 46 = .ok (.iconst 2, 1) := by decide +kernel
theorem dX8_fold_47 : decode cX8_fold 47 = .ok (.invokevirtual 67, 3) := by decide +kernel
theorem dX8_fold_50 : decode cX8_fold 50 = .ok (.ireturn, 1) := by decide +kernel
theorem dX8_fold_51 : decode cX8_fold 51 = .ok (.aload_n 0, 1) := by decide +kernel
theorem dX8_fold_52 : decode cX8_fold 52 = .ok (.getfield 29, 3) := by decide +kernel
theorem dX8_fold_55 : decode cX8_fold 55 = .ok (.aload_n 0, 1) := by decide +kernel
theorem dX8_fold_56 : decode cX8_fold 56 = .ok (.getfield 11, 3) := by decide +kernel
theorem dX8_fold_59 : decode cX8_fold 59 = .ok (.iload_n 2, 1) := by decide +kernel
theorem dX8_fold_60 : decode cX8_fold 60 = .ok (.aaload, 1) := by decide +kernel
theorem dX8_fold_61 : decode cX8_fold 61 = .ok (.invokevirtual 84, 3) := by decide +kernel
theorem dX8_fold_64 : decode cX8_fold 64 = .ok (.ifCond .gt 9, 3) := by decide +kernel
theorem dX8_fold_67 : decode cX8_fold 67 = .ok (.aload_n 0, 1) := by decide +kernel
theorem dX8_fold_68 : decode cX8_fold 68 = .ok (.iconst 5, 1) := by decide +kernel
theorem dX8_fold_69 : decode cX8_fold 69 = .ok (.invokevirtual 67, 3) := by decide +kernel
theorem dX8_fold_72 : decode cX8_fold 72 = .ok (.ireturn, 1) := by decide +kernel
theorem dX8_fold_73 : decode cX8_fold 73 = .ok (.aload_n 0, 1) := by decide +kernel
theorem dX8_fold_74 : decode cX8_fold 74 = .ok (.getfield 29, 3) := by decide +kernel
theorem dX8_fold_77 : decode cX8_fold 77 = .ok (.aload_n 0, 1) := by decide +kernel
theorem dX8_fold_78 : decode cX8_fold 78 = .ok (.getfield 11, 3) := by decide +kernel
theorem dX8_fold_81 : decode cX8_fold 81 = .ok (.iload_n 1, 1) := by decide +kernel
theorem dX8_fold_82 : decode cX8_fold 82 = .ok (.aaload, 1) := by decide +kernel
theorem dX8_fold_83 : decode cX8_fold 83 = .ok (.aload_n 0, 1) := by decide +kernel
theorem dX8_fold_84 : decode cX8_fold 84 = .ok (.getfield 11, 3) := by decide +kernel
theorem dX8_fold_87 : decode cX8_fold 87 = .ok (.iload_n 2, 1) := by decide +kernel
theorem dX8_fold_88 : decode cX8_fold 88 = .ok (.aaload, 1) := by decide +kernel
theorem dX8_fold_89 : decode cX8_fold 89 = .ok (.aload_n 0, 1) := by decide +kernel
theorem dX8_fold_90 : decode cX8_fold 90 = .ok (.getfield 18, 3) := by decide +kernel
theorem dX8_fold_93 : decode cX8_fold 93 = .ok (.invokevirtual 88, 3) := by decide +kernel
theorem dX8_fold_96 : decode cX8_fold 96 = .ok (.ifCond .ne 9, 3) := by decide +kernel
theorem dX8_fold_99 : decode cX8_fold 99 = .ok (.aload_n 0, 1) := by decide +kernel
theorem dX8_fold_100 : decode cX8_fold 100 = .ok (.iconst 4, 1) := by decide +kernel
theorem dX8_fold_101 : decode cX8_fold 101 = .ok (.invokevirtual 67, 3) := by decide +kernel
theorem dX8_fold_104 : decode cX8_fold 104 = .ok (.ireturn, 1) := by decide +kernel
theorem dX8_fold_105 : decode cX8_fold 105 = .ok (.aload_n 0, 1) := by decide +kernel
theorem dX8_fold_106 : decode cX8_fold 106 = .ok (.iload_n 3, 1) := by decide +kernel
theorem dX8_fold_107 : decode cX8_fold 107 = .ok (.invokevirtual 70, 3) := by decide +kernel
theorem dX8_fold_110 : decode cX8_fold 110 = .ok (.ireturn, 1) := by decide +kernel
theorem dX8_drop_0 : decode cX8_drop 0 = .ok (.aload_n 0, 1) := by decide +kernel
theorem dX8_drop_1 : decode cX8_drop 1 = .ok (.iload_n 1, 1) := by decide +kernel
theorem dX8_drop_2 : decode cX8_drop 2 = .ok (.invokevirtual 92, 3) := by decide +kernel
theorem dX8_drop_5 : decode cX8_drop 5 = .ok (.istore_n 2, 1) := by decide +kernel
theorem dX8_drop_6 : decode cX8_drop 6 = .ok (.iload_n 2, 1) := by decide +kernel
theorem dX8_drop_7 : decode cX8_drop 7 = .ok (.ifCond .eq 9, 3) := by decide +kernel
theorem dX8_drop_10 : decode cX8_drop 10 = .ok (.aload_n 0, 1) := by decide +kernel
theorem dX8_drop_11 : decode cX8_drop 11 = .ok (.iload_n 2, 1) := by decide +kernel
theorem dX8_drop_12 : decode cX8_drop 12 = .ok (.invokevirtual 67, 3) := by decide +kernel
theorem dX8_drop_15 : decode cX8_drop 15 = .ok (.ireturn, 1) := by decide +kernel
theorem dX8_drop_16 : decode cX8_drop 16 = .ok (.aload_n 0, 1) := by decide +kernel
theorem dX8_drop_17 : decode cX8_drop 17 = .ok (.getfield 14, 3) := by decide +kernel
theorem dX8_drop_20 : decode cX8_drop 20 = .ok (.iload_n 1, 1) := by decide +kernel
theorem dX8_drop_21 : decode cX8_drop 21 = .ok (.iconst 0, 1) := by decide +kernel
theorem dX8_drop_22 : decode cX8_drop 22 = .ok (.bastore, 1) := by decide +kernel
theorem dX8_drop_23 : decode cX8_drop 23 = .ok (.aload_n 0, 1) := by decide +kernel
theorem dX8_drop_24 : decode cX8_drop 24 = .ok (.invokevirtual 96, 3) := by decide +kernel
theorem dX8_drop_27 : decode cX8_drop 27 = .ok (.ireturn, 1) := by decide +kernel
theorem dX8_exponent_0 : decode cX8_exponent 0 = .ok (.aload_n 0, 1) := by decide +kernel
theorem dX8_exponent_1 : decode cX8_exponent 1 = .ok (.iload_n 1, 1) := by decide +kernel
theorem dX8_exponent_2 : decode cX8_exponent 2 = .ok (.invokevirtual 92, 3) := by decide +kernel
theorem dX8_exponent_5 : decode cX8_exponent 5 = .ok (.istore_n 3, 1) := by decide +kernel
theorem dX8_exponent_6 : decode cX8_exponent 6 = .ok (.iload_n 3, 1) := by decide +kernel
theorem dX8_exponent_7 : decode cX8_exponent 7 = .ok (.ifCond .eq 9, 3) := by decide +kernel
theorem dX8_exponent_10 : decode cX8_exponent 10 = .ok (.aload_n 0, 1) := by decide +kernel
theorem dX8_exponent_11 : decode cX8_exponent 11 = .ok (.iload_n 3, 1) := by decide +kernel
theorem dX8_exponent_12 : decode cX8_exponent 12 = .ok (.invokevirtual 100, 3) := by decide +kernel
theorem dX8_exponent_15 : decode cX8_exponent 15 = .ok (.ireturn, 1) := by decide +kernel
theorem dX8_exponent_16 : decode cX8_exponent 16 = .ok (.iload_n 2, 1) := by decide +kernel
theorem dX8_exponent_17 : decode cX8_exponent 17 = .ok (.invokestatic 103, 3) := by decide +kernel
theorem dX8_exponent_20 : decode cX8_exponent 20 = .ok (.ifCond .ne 9, 3) := by decide +kernel
theorem dX8_exponent_23 : decode cX8_exponent 23 = .ok (.aload_n 0, 1) := by decide +kernel
theorem dX8_exponent_24 : decode cX8_exponent 24 = .ok (.iconst 3, 1) := by decide +kernel
theorem dX8_exponent_25 : decode cX8_exponent 25 = .ok (.invokevirtual 100, 3) := by decide +kernel
theorem dX8_exponent_28 : decode cX8_exponent 28 = .ok (.ireturn, 1) := by decide +kernel
theorem dX8_exponent_29 : decode cX8_exponent 29 = .ok (.aload_n 0, 1) := by decide +kernel
theorem dX8_exponent_30 : decode cX8_exponent 30 = .ok (.aload_n 0, 1) := by decide +kernel
theorem dX8_exponent_31 : decode cX8_exponent 31 = .ok (.getfield 11, 3) := by decide +kernel
theorem dX8_exponent_34 : decode cX8_exponent 34 = .ok (.iload_n 1, 1) := by decide +kernel
theorem dX8_exponent_35 : decode cX8_exponent 35 = .ok (.aaload, 1) := by decide +kernel
theorem dX8_exponent_36 : decode cX8_exponent 36 = .ok (.iload_n 2, 1) := by decide +kernel
theorem dX8_exponent_37 : decode cX8_exponent 37 = .ok (.iaload, 1) := by decide +kernel
theorem dX8_exponent_38 : decode cX8_exponent 38 = .ok (.invokevirtual 106, 3) := by decide +kernel
theorem dX8_exponent_41 : decode cX8_exponent 41 = .ok (.ireturn, 1) := by decide +kernel
theorem dX8_order_0 : decode cX8_order 0 = .ok (.iload_n 1, 1) := by decide +kernel
theorem dX8_order_1 : decode cX8_order 1 = .ok (.invokestatic 63, 3) := by decide +kernel
theorem dX8_order_4 : decode cX8_order 4 = .ok (.ifCond .eq 10, 3) := by decide +kernel
theorem dX8_order_7 : decode cX8_order 7 = .ok (.iload_n 2, 1) := by decide +kernel
theorem dX8_order_8 : decode cX8_order 8 = .ok (.invokestatic 63, 3) := by decide +kernel
theorem dX8_order_11 : decode cX8_order 11 = .ok (.ifCond .ne 9, 3) := by decide +kernel
theorem dX8_order_14 : decode cX8_order 14 = .ok (.aload_n 0, 1) := by decide +kernel
theorem dX8_order_15 : decode cX8_order 15 = .ok (.iconst 1, 1) := by decide +kernel
theorem dX8_order_16 : decode cX8_order 16 = .ok (.invokevirtual 100, 3) := by decide +kernel
theorem dX8_order_19 : decode cX8_order 19 = .ok (.ireturn, 1) := by decide +kernel
theorem dX8_order_20 : decode cX8_order 20 = .ok (.aload_n 0, 1) := by decide +kernel
theorem dX8_order_21 : decode cX8_order 21 = .ok (.getfield 14, 3) := by decide +kernel
theorem dX8_order_24 : decode cX8_order 24 = .ok (.iload_n 1, 1) := by decide +kernel
theorem dX8_order_25 : decode cX8_order 25 = .ok (.baload, 1) := by decide +kernel
theorem dX8_order_26 : decode cX8_order 26 = .ok (.ifCond .eq 12, 3) := by decide +kernel
theorem dX8_order_29 : decode cX8_order 29 = .ok (.aload_n 0, 1) := by decide +kernel
theorem dX8_order_30 : decode cX8_order 30 = .ok (.getfield 14, 3) := by decide +kernel
theorem dX8_order_33 : decode cX8_order 33 = .ok (.iload_n 2, 1) := by decide +kernel
theorem dX8_order_34 : decode cX8_order 34 = .ok (.baload, 1) := by decide +kernel
theorem dX8_order_35 : decode cX8_order 35 = .ok (.ifCond .ne 9, 3) := by decide +kernel
theorem dX8_order_38 : decode cX8_order 38 = .ok (.aload_n 0, 1) := by decide +kernel
theorem dX8_order_39 : decode cX8_order 39 = .ok (.iconst 2, 1) := by decide +kernel
theorem dX8_order_40 : decode cX8_order 40 = .ok (.invokevirtual 100, 3) := by decide +kernel
theorem dX8_order_43 : decode cX8_order 43 = .ok (.ireturn, 1) := by decide +kernel
theorem dX8_order_44 : decode cX8_order 44 = .ok (.aload_n 0, 1) := by decide +kernel
theorem dX8_order_45 : decode cX8_order 45 = .ok (.getfield 29, 3) := by decide +kernel
theorem dX8_order_48 : decode cX8_order 48 = .ok (.aload_n 0, 1) := by decide +kernel
theorem dX8_order_49 : decode cX8_order 49 = .ok (.getfield 11, 3) := by decide +kernel
theorem dX8_order_52 : decode cX8_order 52 = .ok (.iload_n 1, 1) := by decide +kernel
theorem dX8_order_53 : decode cX8_order 53 = .ok (.aaload, 1) := by decide +kernel
theorem dX8_order_54 : decode cX8_order 54 = .ok (.aload_n 0, 1) := by decide +kernel
theorem dX8_order_55 : decode cX8_order 55 = .ok (.getfield 11, 3) := by decide +kernel
theorem dX8_order_58 : decode cX8_order 58 = .ok (.iload_n 2, 1) := by decide +kernel
theorem dX8_order_59 : decode cX8_order 59 = .ok (.aaload, 1) := by decide +kernel
theorem dX8_order_60 : decode cX8_order 60 = .ok (.invokevirtual 109, 3) := by decide +kernel
theorem dX8_order_63 : decode cX8_order 63 = .ok (.istore_n 3, 1) := by decide +kernel
theorem dX8_order_64 : decode cX8_order 64 = .ok (.aload_n 0, 1) := by decide +kernel
theorem dX8_order_65 : decode cX8_order 65 = .ok (.iload_n 3, 1) := by decide +kernel
theorem dX8_order_66 : decode cX8_order 66 = .ok (.ifCond .ge 8, 3) := by decide +kernel
theorem dX8_order_69 : decode cX8_order 69 = .ok (.bipush (-2), 2) := by decide +kernel
theorem dX8_order_71 : decode cX8_order 71 = .ok (.goto 4, 3) := by decide +kernel
theorem dX8_order_74 : decode cX8_order 74 = .ok (.iload_n 3, 1) := by decide +kernel
theorem dX8_order_75 : decode cX8_order 75 = .ok (.invokevirtual 106, 3) := by decide +kernel
theorem dX8_order_78 : decode cX8_order 78 = .ok (.ireturn, 1) := by decide +kernel
theorem dX8_show_0 : decode cX8_show 0 = .ok (.aload_n 0, 1) := by decide +kernel
theorem dX8_show_1 : decode cX8_show 1 = .ok (.iload_n 1, 1) := by decide +kernel
theorem dX8_show_2 : decode cX8_show 2 = .ok (.invokevirtual 92, 3) := by decide +kernel
theorem dX8_show_5 : decode cX8_show 5 = .ok (.istore_n 2, 1) := by decide +kernel
theorem dX8_show_6 : decode cX8_show 6 = .ok (.iload_n 2, 1) := by decide +kernel
theorem dX8_show_7 : decode cX8_show 7 = .ok (.ifCond .eq 9, 3) := by decide +kernel
theorem dX8_show_10 : decode cX8_show 10 = .ok (.aload_n 0, 1) := by decide +kernel
theorem dX8_show_11 : decode cX8_show 11 = .ok (.iload_n 2, 1) := by decide +kernel
theorem dX8_show_12 : decode cX8_show 12 = .ok (.invokevirtual 100, 3) := by decide +kernel
theorem dX8_show_15 : decode cX8_show 15 = .ok (.ireturn, 1) := by decide +kernel
theorem dX8_show_16 : decode cX8_show 16 = .ok (.aload_n 0, 1) := by decide +kernel
theorem dX8_show_17 : decode cX8_show 17 = .ok (.aload_n 0, 1) := by decide +kernel
theorem dX8_show_18 : decode cX8_show 18 = .ok (.getfield 29, 3) := by decide +kernel
theorem dX8_show_21 : decode cX8_show 21 = .ok (.aload_n 0, 1) := by decide +kernel
theorem dX8_show_22 : decode cX8_show 22 = .ok (.getfield 11, 3) := by decide +kernel
theorem dX8_show_25 : decode cX8_show 25 = .ok (.iload_n 1, 1) := by decide +kernel
theorem dX8_show_26 : decode cX8_show 26 = .ok (.aaload, 1) := by decide +kernel
theorem dX8_show_27 : decode cX8_show 27 = .ok (.aload_n 0, 1) := by decide +kernel
theorem dX8_show_28 : decode cX8_show 28 = .ok (.getfield 22, 3) := by decide +kernel
theorem dX8_show_31 : decode cX8_show 31 = .ok (.invokevirtual 113, 3) := by decide +kernel
theorem dX8_show_34 : decode cX8_show 34 = .ok (.putfield 56, 3) := by decide +kernel
theorem dX8_show_37 : decode cX8_show 37 = .ok (.aload_n 0, 1) := by decide +kernel
theorem dX8_show_38 : decode cX8_show 38 = .ok (.aload_n 0, 1) := by decide +kernel
theorem dX8_show_39 : decode cX8_show 39 = .ok (.getfield 56, 3) := by decide +kernel
theorem dX8_show_42 : decode cX8_show 42 = .ok (.invokevirtual 106, 3) := by decide +kernel
theorem dX8_show_45 : decode cX8_show 45 = .ok (.ireturn, 1) := by decide +kernel
theorem dX8_out_0 : decode cX8_out 0 = .ok (.iload_n 1, 1) := by decide +kernel
theorem dX8_out_1 : decode cX8_out 1 = .ok (.ifCond .lt 20, 3) := by decide +kernel
theorem dX8_out_4 : decode cX8_out 4 = .ok (.iload_n 1, 1) := by decide +kernel
theorem dX8_out_5 : decode cX8_out 5 = .ok (.aload_n 0, 1) := by decide +kernel
theorem dX8_out_6 : decode cX8_out 6 = .ok (.getfield 56, 3) := by decide +kernel
theorem dX8_out_9 : decode cX8_out 9 = .ok (.if_icmp .ge 12, 3) := by decide +kernel
theorem dX8_out_12 : decode cX8_out 12 = .ok (.iload_n 1, 1) := by decide +kernel
theorem dX8_out_13 : decode cX8_out 13 = .ok (.aload_n 0, 1) := by decide +kernel
theorem dX8_out_14 : decode cX8_out 14 = .ok (.getfield 22, 3) := by decide +kernel
theorem dX8_out_17 : decode cX8_out 17 = .ok (.arraylength, 1) := by decide +kernel
theorem dX8_out_18 : decode cX8_out 18 = .ok (.if_icmp .lt 5, 3) := by decide +kernel
theorem dX8_out_21 : decode cX8_out 21 = .ok (.iconst (-1), 1) := by decide +kernel
theorem dX8_out_22 : decode cX8_out 22 = .ok (.ireturn, 1) := by decide +kernel
theorem dX8_out_23 : decode cX8_out 23 = .ok (.aload_n 0, 1) := by decide +kernel
theorem dX8_out_24 : decode cX8_out 24 = .ok (.getfield 22, 3) := by decide +kernel
theorem dX8_out_27 : decode cX8_out 27 = .ok (.iload_n 1, 1) := by decide +kernel
theorem dX8_out_28 : decode cX8_out 28 = .ok (.baload, 1) := by decide +kernel
theorem dX8_out_29 : decode cX8_out 29 = .ok (.ireturn, 1) := by decide +kernel
theorem dX8_map_0 : decode cX8_map 0 = .ok (.iload_n 1, 1) := by decide +kernel
theorem dX8_map_1 : decode cX8_map 1 = .ok (.invokestatic 117, 3) := by decide +kernel
theorem dX8_map_4 : decode cX8_map 4 = .ok (.ifCond .eq 10, 3) := by decide +kernel
theorem dX8_map_7 : decode cX8_map 7 = .ok (.iload_n 2, 1) := by decide +kernel
theorem dX8_map_8 : decode cX8_map 8 = .ok (.invokestatic 103, 3) := by decide +kernel
theorem dX8_map_11 : decode cX8_map 11 = .ok (.ifCond .ne 9, 3) := by decide +kernel
theorem dX8_map_14 : decode cX8_map 14 = .ok (.aload_n 0, 1) := by decide +kernel
theorem dX8_map_15 : decode cX8_map 15 = .ok (.iconst 3, 1) := by decide +kernel
theorem dX8_map_16 : decode cX8_map 16 = .ok (.invokevirtual 100, 3) := by decide +kernel
theorem dX8_map_19 : decode cX8_map 19 = .ok (.ireturn, 1) := by decide +kernel
theorem dX8_map_20 : decode cX8_map 20 = .ok (.aload_n 0, 1) := by decide +kernel
theorem dX8_map_21 : decode cX8_map 21 = .ok (.iload_n 1, 1) := by decide +kernel
theorem dX8_map_22 : decode cX8_map 22 = .ok (.iload_n 2, 1) := by decide +kernel
theorem dX8_map_23 : decode cX8_map 23 = .ok (.invokestatic 122, 3) := by decide +kernel
theorem dX8_map_26 : decode cX8_map 26 = .ok (.invokevirtual 106, 3) := by decide +kernel
theorem dX8_map_29 : decode cX8_map 29 = .ok (.ireturn, 1) := by decide +kernel
theorem dX8_steps_0 : decode cX8_steps 0 = .ok (.aload_n 0, 1) := by decide +kernel
theorem dX8_steps_1 : decode cX8_steps 1 = .ok (.iload_n 1, 1) := by decide +kernel
theorem dX8_steps_2 : decode cX8_steps 2 = .ok (.invokevirtual 92, 3) := by decide +kernel
theorem dX8_steps_5 : decode cX8_steps 5 = .ok (.istore_n 3, 1) := by decide +kernel
theorem dX8_steps_6 : decode cX8_steps 6 = .ok (.iload_n 3, 1) := by decide +kernel
theorem dX8_steps_7 : decode cX8_steps 7 = .ok (.ifCond .eq 9, 3) := by decide +kernel
theorem dX8_steps_10 : decode cX8_steps 10 = .ok (.aload_n 0, 1) := by decide +kernel
theorem dX8_steps_11 : decode cX8_steps 11 = .ok (.iload_n 3, 1) := by decide +kernel
theorem dX8_steps_12 : decode cX8_steps 12 = .ok (.invokevirtual 100, 3) := by decide +kernel
theorem dX8_steps_15 : decode cX8_steps 15 = .ok (.ireturn, 1) := by decide +kernel
theorem dX8_steps_16 : decode cX8_steps 16 = .ok (.iload_n 2, 1) := by decide +kernel
theorem dX8_steps_17 : decode cX8_steps 17 = .ok (.invokestatic 117, 3) := by decide +kernel
theorem dX8_steps_20 : decode cX8_steps 20 = .ok (.ifCond .ne 9, 3) := by decide +kernel
theorem dX8_steps_23 : decode cX8_steps 23 = .ok (.aload_n 0, 1) := by decide +kernel
theorem dX8_steps_24 : decode cX8_steps 24 = .ok (.iconst 3, 1) := by decide +kernel
theorem dX8_steps_25 : decode cX8_steps 25 = .ok (.invokevirtual 100, 3) := by decide +kernel
theorem dX8_steps_28 : decode cX8_steps 28 = .ok (.ireturn, 1) := by decide +kernel
theorem dX8_steps_29 : decode cX8_steps 29 = .ok (.aload_n 0, 1) := by decide +kernel
theorem dX8_steps_30 : decode cX8_steps 30 = .ok (.aload_n 0, 1) := by decide +kernel
theorem dX8_steps_31 : decode cX8_steps 31 = .ok (.getfield 11, 3) := by decide +kernel
theorem dX8_steps_34 : decode cX8_steps 34 = .ok (.iload_n 1, 1) := by decide +kernel
theorem dX8_steps_35 : decode cX8_steps 35 = .ok (.aaload, 1) := by decide +kernel
theorem dX8_steps_36 : decode cX8_steps 36 = .ok (.iload_n 2, 1) := by decide +kernel
theorem dX8_steps_37 : decode cX8_steps 37 = .ok (.invokestatic 126, 3) := by decide +kernel
theorem dX8_steps_40 : decode cX8_steps 40 = .ok (.invokevirtual 106, 3) := by decide +kernel
theorem dX8_steps_43 : decode cX8_steps 43 = .ok (.ireturn, 1) := by decide +kernel
theorem dX8_comma_0 : decode cX8_comma 0 = .ok (.aload_n 0, 1) := by decide +kernel
theorem dX8_comma_1 : decode cX8_comma 1 = .ok (.iload_n 1, 1) := by decide +kernel
theorem dX8_comma_2 : decode cX8_comma 2 = .ok (.invokevirtual 92, 3) := by decide +kernel
theorem dX8_comma_5 : decode cX8_comma 5 = .ok (.istore_n 2, 1) := by decide +kernel
theorem dX8_comma_6 : decode cX8_comma 6 = .ok (.iload_n 2, 1) := by decide +kernel
theorem dX8_comma_7 : decode cX8_comma 7 = .ok (.ifCond .eq 9, 3) := by decide +kernel
theorem dX8_comma_10 : decode cX8_comma 10 = .ok (.aload_n 0, 1) := by decide +kernel
theorem dX8_comma_11 : decode cX8_comma 11 = .ok (.iload_n 2, 1) := by decide +kernel
theorem dX8_comma_12 : decode cX8_comma 12 = .ok (.invokevirtual 100, 3) := by decide +kernel
theorem dX8_comma_15 : decode cX8_comma 15 = .ok (.ireturn, 1) := by decide +kernel
theorem dX8_comma_16 : decode cX8_comma 16 = .ok (.aload_n 0, 1) := by decide +kernel
theorem dX8_comma_17 : decode cX8_comma 17 = .ok (.getfield 11, 3) := by decide +kernel
theorem dX8_comma_20 : decode cX8_comma 20 = .ok (.iload_n 1, 1) := by decide +kernel
theorem dX8_comma_21 : decode cX8_comma 21 = .ok (.aaload, 1) := by decide +kernel
theorem dX8_comma_22 : decode cX8_comma 22 = .ok (.invokestatic 130, 3) := by decide +kernel
theorem dX8_comma_25 : decode cX8_comma 25 = .ok (.ifCond .eq 9, 3) := by decide +kernel
theorem dX8_comma_28 : decode cX8_comma 28 = .ok (.aload_n 0, 1) := by decide +kernel
theorem dX8_comma_29 : decode cX8_comma 29 = .ok (.iconst 5, 1) := by decide +kernel
theorem dX8_comma_30 : decode cX8_comma 30 = .ok (.invokevirtual 100, 3) := by decide +kernel
theorem dX8_comma_33 : decode cX8_comma 33 = .ok (.ireturn, 1) := by decide +kernel
theorem dX8_comma_34 : decode cX8_comma 34 = .ok (.aload_n 0, 1) := by decide +kernel
theorem dX8_comma_35 : decode cX8_comma 35 = .ok (.getfield 36, 3) := by decide +kernel
theorem dX8_comma_38 : decode cX8_comma 38 = .ok (.aload_n 0, 1) := by decide +kernel
theorem dX8_comma_39 : decode cX8_comma 39 = .ok (.getfield 11, 3) := by decide +kernel
theorem dX8_comma_42 : decode cX8_comma 42 = .ok (.iload_n 1, 1) := by decide +kernel
theorem dX8_comma_43 : decode cX8_comma 43 = .ok (.aaload, 1) := by decide +kernel
theorem dX8_comma_44 : decode cX8_comma 44 = .ok (.invokevirtual 134, 3) := by decide +kernel
theorem dX8_comma_47 : decode cX8_comma 47 = .ok (.ifCond .ne 10, 3) := by decide +kernel
theorem dX8_comma_50 : decode cX8_comma 50 = .ok (.aload_n 0, 1) := by decide +kernel
theorem dX8_comma_51 : decode cX8_comma 51 = .ok (.bipush 6, 2) := by decide +kernel
theorem dX8_comma_53 : decode cX8_comma 53 = .ok (.invokevirtual 100, 3) := by decide +kernel
theorem dX8_comma_56 : decode cX8_comma 56 = .ok (.ireturn, 1) := by decide +kernel
theorem dX8_comma_57 : decode cX8_comma 57 = .ok (.aload_n 0, 1) := by decide +kernel
theorem dX8_comma_58 : decode cX8_comma 58 = .ok (.aload_n 0, 1) := by decide +kernel
theorem dX8_comma_59 : decode cX8_comma 59 = .ok (.getfield 36, 3) := by decide +kernel
theorem dX8_comma_62 : decode cX8_comma 62 = .ok (.getfield 137, 3) := by decide +kernel
theorem dX8_comma_65 : decode cX8_comma 65 = .ok (.invokevirtual 106, 3) := by decide +kernel
theorem dX8_comma_68 : decode cX8_comma 68 = .ok (.ireturn, 1) := by decide +kernel
theorem dX8_clear_0 : decode cX8_clear 0 = .ok (.aload_n 0, 1) := by decide +kernel
theorem dX8_clear_1 : decode cX8_clear 1 = .ok (.getfield 36, 3) := by decide +kernel
theorem dX8_clear_4 : decode cX8_clear 4 = .ok (.getfield 137, 3) := by decide +kernel
theorem dX8_clear_7 : decode cX8_clear 7 = .ok (.istore_n 1, 1) := by decide +kernel
theorem dX8_clear_8 : decode cX8_clear 8 = .ok (.aload_n 0, 1) := by decide +kernel
theorem dX8_clear_9 : decode cX8_clear 9 = .ok (.getfield 36, 3) := by decide +kernel
theorem dX8_clear_12 : decode cX8_clear 12 = .ok (.iconst 0, 1) := by decide +kernel
theorem dX8_clear_13 : decode cX8_clear 13 = .ok (.putfield 137, 3) := by decide +kernel
theorem dX8_clear_16 : decode cX8_clear 16 = .ok (.aload_n 0, 1) := by decide +kernel
theorem dX8_clear_17 : decode cX8_clear 17 = .ok (.iload_n 1, 1) := by decide +kernel
theorem dX8_clear_18 : decode cX8_clear 18 = .ok (.invokevirtual 106, 3) := by decide +kernel
theorem dX8_clear_21 : decode cX8_clear 21 = .ok (.ireturn, 1) := by decide +kernel
theorem dX8_rank_0 : decode cX8_rank 0 = .ok (.aload_n 0, 1) := by decide +kernel
theorem dX8_rank_1 : decode cX8_rank 1 = .ok (.aload_n 0, 1) := by decide +kernel
theorem dX8_rank_2 : decode cX8_rank 2 = .ok (.getfield 36, 3) := by decide +kernel
theorem dX8_rank_5 : decode cX8_rank 5 = .ok (.invokevirtual 140, 3) := by decide +kernel
theorem dX8_rank_8 : decode cX8_rank 8 = .ok (.invokevirtual 106, 3) := by decide +kernel
theorem dX8_rank_11 : decode cX8_rank 11 = .ok (.ireturn, 1) := by decide +kernel
theorem dX8_twist_0 : decode cX8_twist 0 = .ok (.aload_n 0, 1) := by decide +kernel
theorem dX8_twist_1 : decode cX8_twist 1 = .ok (.iconst 0, 1) := by decide +kernel
theorem dX8_twist_2 : decode cX8_twist 2 = .ok (.putfield 60, 3) := by decide +kernel
theorem dX8_twist_5 : decode cX8_twist 5 = .ok (.aload_n 0, 1) := by decide +kernel
theorem dX8_twist_6 : decode cX8_twist 6 = .ok (.getfield 36, 3) := by decide +kernel
theorem dX8_twist_9 : decode cX8_twist 9 = .ok (.invokevirtual 144, 3) := by decide +kernel
theorem dX8_twist_12 : decode cX8_twist 12 = .ok (.lreturn, 1) := by decide +kernel
theorem dX8_vanishes_0 : decode cX8_vanishes 0 = .ok (.aload_n 0, 1) := by decide +kernel
theorem dX8_vanishes_1 : decode cX8_vanishes 1 = .ok (.iload_n 1, 1) := by decide +kernel
theorem dX8_vanishes_2 : decode cX8_vanishes 2 = .ok (.invokevirtual 92, 3) := by decide +kernel
theorem dX8_vanishes_5 : decode cX8_vanishes 5 = .ok (.istore_n 2, 1) := by decide +kernel
theorem dX8_vanishes_6 : decode cX8_vanishes 6 = .ok (.iload_n 2, 1) := by decide +kernel
theorem dX8_vanishes_7 : decode cX8_vanishes 7 = .ok (.ifCond .eq 9, 3) := by decide +kernel
theorem dX8_vanishes_10 : decode cX8_vanishes 10 = .ok (.aload_n 0, 1) := by decide +kernel
theorem dX8_vanishes_11 : decode cX8_vanishes 11 = .ok (.iload_n 2, 1) := by decide +kernel
theorem dX8_vanishes_12 : decode cX8_vanishes 12 = .ok (.invokevirtual 100, 3) := by decide +kernel
theorem dX8_vanishes_15 : decode cX8_vanishes 15 = .ok (.ireturn, 1) := by decide +kernel
theorem dX8_vanishes_16 : decode cX8_vanishes 16 = .ok (.aload_n 0, 1) := by decide +kernel
theorem dX8_vanishes_17 : decode cX8_vanishes 17 = .ok (.aload_n 0, 1) := by decide +kernel
theorem dX8_vanishes_18 : decode cX8_vanishes 18 = .ok (.getfield 36, 3) := by decide +kernel
theorem dX8_vanishes_21 : decode cX8_vanishes 21 = .ok (.aload_n 0, 1) := by decide +kernel
theorem dX8_vanishes_22 : decode cX8_vanishes 22 = .ok (.getfield 11, 3) := by decide +kernel
theorem dX8_vanishes_25 : decode cX8_vanishes 25 = .ok (.iload_n 1, 1) := by decide +kernel
theorem dX8_vanishes_26 : decode cX8_vanishes 26 = .ok (.aaload, 1) := by decide +kernel
theorem dX8_vanishes_27 : decode cX8_vanishes 27 = .ok (.invokevirtual 148, 3) := by decide +kernel
theorem dX8_vanishes_30 : decode cX8_vanishes 30 = .ok (.ifCond .eq 7, 3) := by decide +kernel
theorem dX8_vanishes_33 : decode cX8_vanishes 33 = .ok (.iconst 1, 1) := by decide +kernel
theorem dX8_vanishes_34 : decode cX8_vanishes 34 = .ok (.goto 4, 3) := by decide +kernel
theorem dX8_vanishes_37 : decode cX8_vanishes 37 = .ok (.iconst 0, 1) := by decide +kernel
theorem dX8_vanishes_38 : decode cX8_vanishes 38 = .ok (.invokevirtual 106, 3) := by decide +kernel
theorem dX8_vanishes_41 : decode cX8_vanishes 41 = .ok (.ireturn, 1) := by decide +kernel
theorem dX8_supports_0 : decode cX8_supports 0 = .ok (.iload_n 1, 1) := by decide +kernel
theorem dX8_supports_1 : decode cX8_supports 1 = .ok (.invokestatic 117, 3) := by decide +kernel
theorem dX8_supports_4 : decode cX8_supports 4 = .ok (.ifCond .ne 9, 3) := by decide +kernel
theorem dX8_supports_7 : decode cX8_supports 7 = .ok (.aload_n 0, 1) := by decide +kernel
theorem dX8_supports_8 : decode cX8_supports 8 = .ok (.iconst 3, 1) := by decide +kernel
theorem dX8_supports_9 : decode cX8_supports 9 = .ok (.invokevirtual 100, 3) := by decide +kernel
theorem dX8_supports_12 : decode cX8_supports 12 = .ok (.ireturn, 1) := by decide +kernel
theorem dX8_supports_13 : decode cX8_supports 13 = .ok (.aload_n 0, 1) := by decide +kernel
theorem dX8_supports_14 : decode cX8_supports 14 = .ok (.aload_n 0, 1) := by decide +kernel
theorem dX8_supports_15 : decode cX8_supports 15 = .ok (.getfield 36, 3) := by decide +kernel
theorem dX8_supports_18 : decode cX8_supports 18 = .ok (.iload_n 1, 1) := by decide +kernel
theorem dX8_supports_19 : decode cX8_supports 19 = .ok (.invokevirtual 151, 3) := by decide +kernel
theorem dX8_supports_22 : decode cX8_supports 22 = .ok (.invokevirtual 106, 3) := by decide +kernel
theorem dX8_supports_25 : decode cX8_supports 25 = .ok (.ireturn, 1) := by decide +kernel
theorem dX8_begin_0 : decode cX8_begin 0 = .ok (.aload_n 0, 1) := by decide +kernel
theorem dX8_begin_1 : decode cX8_begin 1 = .ok (.iload_n 1, 1) := by decide +kernel
theorem dX8_begin_2 : decode cX8_begin 2 = .ok (.invokevirtual 92, 3) := by decide +kernel
theorem dX8_begin_5 : decode cX8_begin 5 = .ok (.istore_n 2, 1) := by decide +kernel
theorem dX8_begin_6 : decode cX8_begin 6 = .ok (.iload_n 2, 1) := by decide +kernel
theorem dX8_begin_7 : decode cX8_begin 7 = .ok (.ifCond .eq 9, 3) := by decide +kernel
theorem dX8_begin_10 : decode cX8_begin 10 = .ok (.aload_n 0, 1) := by decide +kernel
theorem dX8_begin_11 : decode cX8_begin 11 = .ok (.iload_n 2, 1) := by decide +kernel
theorem dX8_begin_12 : decode cX8_begin 12 = .ok (.invokevirtual 67, 3) := by decide +kernel
theorem dX8_begin_15 : decode cX8_begin 15 = .ok (.ireturn, 1) := by decide +kernel
theorem dX8_begin_16 : decode cX8_begin 16 = .ok (.aload_n 0, 1) := by decide +kernel
theorem dX8_begin_17 : decode cX8_begin 17 = .ok (.getfield 29, 3) := by decide +kernel
theorem dX8_begin_20 : decode cX8_begin 20 = .ok (.aload_n 0, 1) := by decide +kernel
theorem dX8_begin_21 : decode cX8_begin 21 = .ok (.getfield 11, 3) := by decide +kernel
theorem dX8_begin_24 : decode cX8_begin 24 = .ok (.iload_n 1, 1) := by decide +kernel
theorem dX8_begin_25 : decode cX8_begin 25 = .ok (.aaload, 1) := by decide +kernel
theorem dX8_begin_26 : decode cX8_begin 26 = .ok (.invokevirtual 84, 3) := by decide +kernel
theorem dX8_begin_29 : decode cX8_begin 29 = .ok (.ifCond .gt 9, 3) := by decide +kernel
theorem dX8_begin_32 : decode cX8_begin 32 = .ok (.aload_n 0, 1) := by decide +kernel
theorem dX8_begin_33 : decode cX8_begin 33 = .ok (.iconst 5, 1) := by decide +kernel
theorem dX8_begin_34 : decode cX8_begin 34 = .ok (.invokevirtual 67, 3) := by decide +kernel
theorem dX8_begin_37 : decode cX8_begin 37 = .ok (.ireturn, 1) := by decide +kernel
theorem dX8_begin_38 : decode cX8_begin 38 = .ok (.aload_n 0, 1) := by decide +kernel
theorem dX8_begin_39 : decode cX8_begin 39 = .ok (.getfield 45, 3) := by decide +kernel
theorem dX8_begin_42 : decode cX8_begin 42 = .ok (.aload_n 0, 1) := by decide +kernel
theorem dX8_begin_43 : decode cX8_begin 43 = .ok (.getfield 11, 3) := by decide +kernel
theorem dX8_begin_46 : decode cX8_begin 46 = .ok (.iload_n 1, 1) := by decide +kernel
theorem dX8_begin_47 : decode cX8_begin 47 = .ok (.aaload, 1) := by decide +kernel
theorem dX8_begin_48 : decode cX8_begin 48 = .ok (.invokevirtual 154, 3) := by decide +kernel
theorem dX8_begin_51 : decode cX8_begin 51 = .ok (.aload_n 0, 1) := by decide +kernel
theorem dX8_begin_52 : decode cX8_begin 52 = .ok (.invokevirtual 96, 3) := by decide +kernel
theorem dX8_begin_55 : decode cX8_begin 55 = .ok (.ireturn, 1) := by decide +kernel
theorem dX8_note_0 : decode cX8_note 0 = .ok (.aload_n 0, 1) := by decide +kernel
theorem dX8_note_1 : decode cX8_note 1 = .ok (.iload_n 1, 1) := by decide +kernel
theorem dX8_note_2 : decode cX8_note 2 = .ok (.invokevirtual 92, 3) := by decide +kernel
theorem dX8_note_5 : decode cX8_note 5 = .ok (.istore_n 2, 1) := by decide +kernel
theorem dX8_note_6 : decode cX8_note 6 = .ok (.iload_n 2, 1) := by decide +kernel
theorem dX8_note_7 : decode cX8_note 7 = .ok (.ifCond .eq 9, 3) := by decide +kernel
theorem dX8_note_10 : decode cX8_note 10 = .ok (.aload_n 0, 1) := by decide +kernel
theorem dX8_note_11 : decode cX8_note 11 = .ok (.iload_n 2, 1) := by decide +kernel
theorem dX8_note_12 : decode cX8_note 12 = .ok (.invokevirtual 100, 3) := by decide +kernel
theorem dX8_note_15 : decode cX8_note 15 = .ok (.ireturn, 1) := by decide +kernel
theorem dX8_note_16 : decode cX8_note 16 = .ok (.aload_n 0, 1) := by decide +kernel
theorem dX8_note_17 : decode cX8_note 17 = .ok (.getfield 45, 3) := by decide +kernel
theorem dX8_note_20 : decode cX8_note 20 = .ok (.invokevirtual 158, 3) := by decide +kernel
theorem dX8_note_23 : decode cX8_note 23 = .ok (.ifCond .ne 10, 3) := by decide +kernel
theorem dX8_note_26 : decode cX8_note 26 = .ok (.aload_n 0, 1) := by decide +kernel
theorem dX8_note_27 : decode cX8_note 27 = .ok (.bipush 7, 2) := by decide +kernel
theorem dX8_note_29 : decode cX8_note 29 = .ok (.invokevirtual 100, 3) := by decide +kernel
theorem dX8_note_32 : decode cX8_note 32 = .ok (.ireturn, 1) := by decide +kernel
theorem dX8_note_33 : decode cX8_note 33 = .ok (.aload_n 0, 1) := by decide +kernel
theorem dX8_note_34 : decode cX8_note 34 = .ok (.getfield 29, 3) := by decide +kernel
theorem dX8_note_37 : decode cX8_note 37 = .ok (.aload_n 0, 1) := by decide +kernel
theorem dX8_note_38 : decode cX8_note 38 = .ok (.getfield 11, 3) := by decide +kernel
theorem dX8_note_41 : decode cX8_note 41 = .ok (.iload_n 1, 1) := by decide +kernel
theorem dX8_note_42 : decode cX8_note 42 = .ok (.aaload, 1) := by decide +kernel
theorem dX8_note_43 : decode cX8_note 43 = .ok (.aload_n 0, 1) := by decide +kernel
theorem dX8_note_44 : decode cX8_note 44 = .ok (.getfield 45, 3) := by decide +kernel
theorem dX8_note_47 : decode cX8_note 47 = .ok (.getfield 161, 3) := by decide +kernel
theorem dX8_note_50 : decode cX8_note 50 = .ok (.aload_n 0, 1) := by decide +kernel
theorem dX8_note_51 : decode cX8_note 51 = .ok (.getfield 18, 3) := by decide +kernel
theorem dX8_note_54 : decode cX8_note 54 = .ok (.invokevirtual 88, 3) := by decide +kernel
theorem dX8_note_57 : decode cX8_note 57 = .ok (.ifCond .ne 9, 3) := by decide +kernel
theorem dX8_note_60 : decode cX8_note 60 = .ok (.aload_n 0, 1) := by decide +kernel
theorem dX8_note_61 : decode cX8_note 61 = .ok (.iconst 4, 1) := by decide +kernel
theorem dX8_note_62 : decode cX8_note 62 = .ok (.invokevirtual 100, 3) := by decide +kernel
theorem dX8_note_65 : decode cX8_note 65 = .ok (.ireturn, 1) := by decide +kernel
theorem dX8_note_66 : decode cX8_note 66 = .ok (.aload_n 0, 1) := by decide +kernel
theorem dX8_note_67 : decode cX8_note 67 = .ok (.getfield 45, 3) := by decide +kernel
theorem dX8_note_70 : decode cX8_note 70 = .ok (.getfield 164, 3) := by decide +kernel
theorem dX8_note_73 : decode cX8_note 73 = .ok (.aload_n 0, 1) := by decide +kernel
theorem dX8_note_74 : decode cX8_note 74 = .ok (.getfield 18, 3) := by decide +kernel
theorem dX8_note_77 : decode cX8_note 77 = .ok (.invokevirtual 168, 3) := by decide +kernel
theorem dX8_note_80 : decode cX8_note 80 = .ok (.ifCond .eq 10, 3) := by decide +kernel
theorem dX8_note_83 : decode cX8_note 83 = .ok (.aload_n 0, 1) := by decide +kernel
theorem dX8_note_84 : decode cX8_note 84 = .ok (.bipush 8, 2) := by decide +kernel
theorem dX8_note_86 : decode cX8_note 86 = .ok (.invokevirtual 100, 3) := by decide +kernel
theorem dX8_note_89 : decode cX8_note 89 = .ok (.ireturn, 1) := by decide +kernel
theorem dX8_note_90 : decode cX8_note 90 = .ok (.aload_n 0, 1) := by decide +kernel
theorem dX8_note_91 : decode cX8_note 91 = .ok (.getfield 45, 3) := by decide +kernel
theorem dX8_note_94 : decode cX8_note 94 = .ok (.getfield 164, 3) := by decide +kernel
theorem dX8_note_97 : decode cX8_note 97 = .ok (.invokevirtual 173, 3) := by decide +kernel
theorem dX8_note_100 : decode cX8_note 100 = .ok (.ifCond .eq 10, 3) := by decide +kernel
theorem dX8_note_103 : decode cX8_note 103 = .ok (.aload_n 0, 1) := by decide +kernel
theorem dX8_note_104 : decode cX8_note 104 = .ok (.bipush 6, 2) := by decide +kernel
theorem dX8_note_106 : decode cX8_note 106 = .ok (.invokevirtual 100, 3) := by decide +kernel
theorem dX8_note_109 : decode cX8_note 109 = .ok (.ireturn, 1) := by decide +kernel
theorem dX8_note_110 : decode cX8_note 110 = .ok (.aload_n 0, 1) := by decide +kernel
theorem dX8_note_111 : decode cX8_note 111 = .ok (.aload_n 0, 1) := by decide +kernel
theorem dX8_note_112 : decode cX8_note 112 = .ok (.getfield 45, 3) := by decide +kernel
theorem dX8_note_115 : decode cX8_note 115 = .ok (.getfield 164, 3) := by decide +kernel
theorem dX8_note_118 : decode cX8_note 118 = .ok (.aload_n 0, 1) := by decide +kernel
theorem dX8_note_119 : decode cX8_note 119 = .ok (.getfield 45, 3) := by decide +kernel
theorem dX8_note_122 : decode cX8_note 122 = .ok (.getfield 164, 3) := by decide +kernel
theorem dX8_note_125 : decode cX8_note 125 = .ok (.aload_n 0, 1) := by decide +kernel
theorem dX8_note_126 : decode cX8_note 126 = .ok (.getfield 18, 3) := by decide +kernel
theorem dX8_note_129 : decode cX8_note 129 = .ok (.aload_n 0, 1) := by decide +kernel
theorem dX8_note_130 : decode cX8_note 130 = .ok (.getfield 29, 3) := by decide +kernel
theorem dX8_note_133 : decode cX8_note 133 = .ok (.invokevirtual 176, 3) := by decide +kernel
theorem dX8_note_136 : decode cX8_note 136 = .ok (.aload_n 0, 1) := by decide +kernel
theorem dX8_note_137 : decode cX8_note 137 = .ok (.getfield 18, 3) := by decide +kernel
theorem dX8_note_140 : decode cX8_note 140 = .ok (.invokevirtual 180, 3) := by decide +kernel
theorem dX8_note_143 : decode cX8_note 143 = .ok (.invokevirtual 106, 3) := by decide +kernel
theorem dX8_note_146 : decode cX8_note 146 = .ok (.ireturn, 1) := by decide +kernel
theorem dX8_lay_0 : decode cX8_lay 0 = .ok (.iload_n 1, 1) := by decide +kernel
theorem dX8_lay_1 : decode cX8_lay 1 = .ok (.invokestatic 63, 3) := by decide +kernel
theorem dX8_lay_4 : decode cX8_lay 4 = .ok (.ifCond .eq 10, 3) := by decide +kernel
theorem dX8_lay_7 : decode cX8_lay 7 = .ok (.iload_n 2, 1) := by decide +kernel
theorem dX8_lay_8 : decode cX8_lay 8 = .ok (.invokestatic 63, 3) := by decide +kernel
theorem dX8_lay_11 : decode cX8_lay 11 = .ok (.ifCond .ne 9, 3) := by decide +kernel
theorem dX8_lay_14 : decode cX8_lay 14 = .ok (.aload_n 0, 1) := by decide +kernel
theorem dX8_lay_15 : decode cX8_lay 15 = .ok (.iconst 1, 1) := by decide +kernel
theorem dX8_lay_16 : decode cX8_lay 16 = .ok (.invokevirtual 67, 3) := by decide +kernel
theorem dX8_lay_19 : decode cX8_lay 19 = .ok (.ireturn, 1) := by decide +kernel
theorem dX8_lay_20 : decode cX8_lay 20 = .ok (.aload_n 0, 1) := by decide +kernel
theorem dX8_lay_21 : decode cX8_lay 21 = .ok (.getfield 14, 3) := by decide +kernel
theorem dX8_lay_24 : decode cX8_lay 24 = .ok (.iload_n 1, 1) := by decide +kernel
theorem dX8_lay_25 : decode cX8_lay 25 = .ok (.baload, 1) := by decide +kernel
theorem dX8_lay_26 : decode cX8_lay 26 = .ok (.ifCond .eq 12, 3) := by decide +kernel
theorem dX8_lay_29 : decode cX8_lay 29 = .ok (.aload_n 0, 1) := by decide +kernel
theorem dX8_lay_30 : decode cX8_lay 30 = .ok (.getfield 14, 3) := by decide +kernel
theorem dX8_lay_33 : decode cX8_lay 33 = .ok (.iload_n 2, 1) := by decide +kernel
theorem dX8_lay_34 : decode cX8_lay 34 = .ok (.baload, 1) := by decide +kernel
theorem dX8_lay_35 : decode cX8_lay 35 = .ok (.ifCond .ne 9, 3) := by decide +kernel
theorem dX8_lay_38 : decode cX8_lay 38 = .ok (.aload_n 0, 1) := by decide +kernel
theorem dX8_lay_39 : decode cX8_lay 39 = .ok (.iconst 2, 1) := by decide +kernel
theorem dX8_lay_40 : decode cX8_lay 40 = .ok (.invokevirtual 67, 3) := by decide +kernel
theorem dX8_lay_43 : decode cX8_lay 43 = .ok (.ireturn, 1) := by decide +kernel
theorem dX8_lay_44 : decode cX8_lay 44 = .ok (.iload_n 3, 1) := by decide +kernel
theorem dX8_lay_45 : decode cX8_lay 45 = .ok (.iconst 1, 1) := by decide +kernel
theorem dX8_lay_46 : decode cX8_lay 46 = .ok (.if_icmp .lt 9, 3) := by decide +kernel
theorem dX8_lay_49 : decode cX8_lay 49 = .ok (.iload_n 3, 1) := by decide +kernel
theorem dX8_lay_50 : decode cX8_lay 50 = .ok (.bipush 24, 2) := by decide +kernel
theorem dX8_lay_52 : decode cX8_lay 52 = .ok (.if_icmp .le 9, 3) := by decide +kernel
theorem dX8_lay_55 : decode cX8_lay 55 = .ok (.aload_n 0, 1) := by decide +kernel
theorem dX8_lay_56 : decode cX8_lay 56 = .ok (.iconst 3, 1) := by decide +kernel
theorem dX8_lay_57 : decode cX8_lay 57 = .ok (.invokevirtual 67, 3) := by decide +kernel
theorem dX8_lay_60 : decode cX8_lay 60 = .ok (.ireturn, 1) := by decide +kernel
theorem dX8_lay_61 : decode cX8_lay 61 = .ok (.aload_n 0, 1) := by decide +kernel
theorem dX8_lay_62 : decode cX8_lay 62 = .ok (.getfield 29, 3) := by decide +kernel
theorem dX8_lay_65 : decode cX8_lay 65 = .ok (.aload_n 0, 1) := by decide +kernel
theorem dX8_lay_66 : decode cX8_lay 66 = .ok (.getfield 11, 3) := by decide +kernel
theorem dX8_lay_69 : decode cX8_lay 69 = .ok (.iload_n 1, 1) := by decide +kernel
theorem dX8_lay_70 : decode cX8_lay 70 = .ok (.aaload, 1) := by decide +kernel
theorem dX8_lay_71 : decode cX8_lay 71 = .ok (.invokevirtual 84, 3) := by decide +kernel
theorem dX8_lay_74 : decode cX8_lay 74 = .ok (.ifCond .gt 9, 3) := by decide +kernel
theorem dX8_lay_77 : decode cX8_lay 77 = .ok (.aload_n 0, 1) := by decide +kernel
theorem dX8_lay_78 : decode cX8_lay 78 = .ok (.iconst 5, 1) := by decide +kernel
theorem dX8_lay_79 : decode cX8_lay 79 = .ok (.invokevirtual 67, 3) := by decide +kernel
theorem dX8_lay_82 : decode cX8_lay 82 = .ok (.ireturn, 1) := by decide +kernel
theorem dX8_lay_83 : decode cX8_lay 83 = .ok (.aload_n 0, 1) := by decide +kernel
theorem dX8_lay_84 : decode cX8_lay 84 = .ok (.getfield 45, 3) := by decide +kernel
theorem dX8_lay_87 : decode cX8_lay 87 = .ok (.aload_n 0, 1) := by decide +kernel
theorem dX8_lay_88 : decode cX8_lay 88 = .ok (.getfield 11, 3) := by decide +kernel
theorem dX8_lay_91 : decode cX8_lay 91 = .ok (.iload_n 1, 1) := by decide +kernel
theorem dX8_lay_92 : decode cX8_lay 92 = .ok (.aaload, 1) := by decide +kernel
theorem dX8_lay_93 : decode cX8_lay 93 = .ok (.aload_n 0, 1) := by decide +kernel
theorem dX8_lay_94 : decode cX8_lay 94 = .ok (.getfield 11, 3) := by decide +kernel
theorem dX8_lay_97 : decode cX8_lay 97 = .ok (.iload_n 2, 1) := by decide +kernel
theorem dX8_lay_98 : decode cX8_lay 98 = .ok (.aaload, 1) := by decide +kernel
theorem dX8_lay_99 : decode cX8_lay 99 = .ok (.iload_n 3, 1) := by decide +kernel
theorem dX8_lay_100 : decode cX8_lay 100 = .ok (.invokevirtual 184, 3) := by decide +kernel
theorem dX8_lay_103 : decode cX8_lay 103 = .ok (.istore 4, 2) := by decide +kernel
theorem dX8_lay_105 : decode cX8_lay 105 = .ok (.iload 4, 2) := by decide +kernel
theorem dX8_lay_107 : decode cX8_lay 107 = .ok (.ifCond .ne 10, 3) := by decide +kernel
theorem dX8_lay_110 : decode cX8_lay 110 = .ok (.aload_n 0, 1) := by decide +kernel
theorem dX8_lay_111 : decode cX8_lay 111 = .ok (.invokevirtual 96, 3) := by decide +kernel
theorem dX8_lay_114 : decode cX8_lay 114 = .ok (.goto 9, 3) := by decide +kernel
theorem dX8_lay_117 : decode cX8_lay 117 = .ok (.aload_n 0, 1) := by decide +kernel
theorem dX8_lay_118 : decode cX8_lay 118 = .ok (.iload 4, 2) := by decide +kernel
theorem dX8_lay_120 : decode cX8_lay 120 = .ok (.invokevirtual 67, 3) := by decide +kernel
theorem dX8_lay_123 : decode cX8_lay 123 = .ok (.ireturn, 1) := by decide +kernel
theorem dX8_take_0 : decode cX8_take 0 = .ok (.iload_n 2, 1) := by decide +kernel
theorem dX8_take_1 : decode cX8_take 1 = .ok (.invokestatic 63, 3) := by decide +kernel
theorem dX8_take_4 : decode cX8_take 4 = .ok (.ifCond .ne 9, 3) := by decide +kernel
theorem dX8_take_7 : decode cX8_take 7 = .ok (.aload_n 0, 1) := by decide +kernel
theorem dX8_take_8 : decode cX8_take 8 = .ok (.iconst 1, 1) := by decide +kernel
theorem dX8_take_9 : decode cX8_take 9 = .ok (.invokevirtual 67, 3) := by decide +kernel
theorem dX8_take_12 : decode cX8_take 12 = .ok (.ireturn, 1) := by decide +kernel
theorem dX8_take_13 : decode cX8_take 13 = .ok (.aload_n 0, 1) := by decide +kernel
theorem dX8_take_14 : decode cX8_take 14 = .ok (.getfield 45, 3) := by decide +kernel
theorem dX8_take_17 : decode cX8_take 17 = .ok (.invokevirtual 158, 3) := by decide +kernel
theorem dX8_take_20 : decode cX8_take 20 = .ok (.ifCond .ne 10, 3) := by decide +kernel
theorem dX8_take_23 : decode cX8_take 23 = .ok (.aload_n 0, 1) := by decide +kernel
theorem dX8_take_24 : decode cX8_take 24 = .ok (.bipush 7, 2) := by decide +kernel
theorem dX8_take_26 : decode cX8_take 26 = .ok (.invokevirtual 67, 3) := by decide +kernel
theorem dX8_take_29 : decode cX8_take 29 = .ok (.ireturn, 1) := by decide +kernel
theorem dX8_take_30 : decode cX8_take 30 = .ok (.iload_n 1, 1) := by decide +kernel
theorem dX8_take_31 : decode cX8_take 31 = .ok (.ifCond .lt 17, 3) := by decide +kernel
theorem dX8_take_34 : decode cX8_take 34 = .ok (.iload_n 1, 1) := by decide +kernel
theorem dX8_take_35 : decode cX8_take 35 = .ok (.aload_n 0, 1) := by decide +kernel
theorem dX8_take_36 : decode cX8_take 36 = .ok (.getfield 45, 3) := by decide +kernel
theorem dX8_take_39 : decode cX8_take 39 = .ok (.getfield 164, 3) := by decide +kernel
theorem dX8_take_42 : decode cX8_take 42 = .ok (.getfield 188, 3) := by decide +kernel
theorem dX8_take_45 : decode cX8_take 45 = .ok (.if_icmp .le 9, 3) := by decide +kernel
theorem dX8_take_48 : decode cX8_take 48 = .ok (.aload_n 0, 1) := by decide +kernel
theorem dX8_take_49 : decode cX8_take 49 = .ok (.iconst 3, 1) := by decide +kernel
theorem dX8_take_50 : decode cX8_take 50 = .ok (.invokevirtual 67, 3) := by decide +kernel
theorem dX8_take_53 : decode cX8_take 53 = .ok (.ireturn, 1) := by decide +kernel
theorem dX8_take_54 : decode cX8_take 54 = .ok (.aload_n 0, 1) := by decide +kernel
theorem dX8_take_55 : decode cX8_take 55 = .ok (.getfield 45, 3) := by decide +kernel
theorem dX8_take_58 : decode cX8_take 58 = .ok (.iload_n 1, 1) := by decide +kernel
theorem dX8_take_59 : decode cX8_take 59 = .ok (.aload_n 0, 1) := by decide +kernel
theorem dX8_take_60 : decode cX8_take 60 = .ok (.getfield 18, 3) := by decide +kernel
theorem dX8_take_63 : decode cX8_take 63 = .ok (.invokevirtual 189, 3) := by decide +kernel
theorem dX8_take_66 : decode cX8_take 66 = .ok (.aload_n 0, 1) := by decide +kernel
theorem dX8_take_67 : decode cX8_take 67 = .ok (.iload_n 2, 1) := by decide +kernel
theorem dX8_take_68 : decode cX8_take 68 = .ok (.invokevirtual 70, 3) := by decide +kernel
theorem dX8_take_71 : decode cX8_take 71 = .ok (.ireturn, 1) := by decide +kernel
theorem dX8_scale_0 : decode cX8_scale 0 = .ok (.aload_n 0, 1) := by decide +kernel
theorem dX8_scale_1 : decode cX8_scale 1 = .ok (.getfield 45, 3) := by decide +kernel
theorem dX8_scale_4 : decode cX8_scale 4 = .ok (.invokevirtual 158, 3) := by decide +kernel
theorem dX8_scale_7 : decode cX8_scale 7 = .ok (.ifCond .ne 10, 3) := by decide +kernel
theorem dX8_scale_10 : decode cX8_scale 10 = .ok (.aload_n 0, 1) := by decide +kernel
theorem dX8_scale_11 : decode cX8_scale 11 = .ok (.bipush 7, 2) := by decide +kernel
theorem dX8_scale_13 : decode cX8_scale 13 = .ok (.invokevirtual 100, 3) := by decide +kernel
theorem dX8_scale_16 : decode cX8_scale 16 = .ok (.ireturn, 1) := by decide +kernel
theorem dX8_scale_17 : decode cX8_scale 17 = .ok (.iload_n 1, 1) := by decide +kernel
theorem dX8_scale_18 : decode cX8_scale 18 = .ok (.tableswitch 131 0 4 #[34, 49, 69, 89, 110], 34) := by decide +kernel
theorem dX8_scale_52 : decode cX8_scale 52 = .ok (.aload_n 0, 1) := by decide +kernel
theorem dX8_scale_53 : decode cX8_scale 53 = .ok (.aload_n 0, 1) := by decide +kernel
theorem dX8_scale_54 : decode cX8_scale 54 = .ok (.getfield 45, 3) := by decide +kernel
theorem dX8_scale_57 : decode cX8_scale 57 = .ok (.getfield 164, 3) := by decide +kernel
theorem dX8_scale_60 : decode cX8_scale 60 = .ok (.getfield 188, 3) := by decide +kernel
theorem dX8_scale_63 : decode cX8_scale 63 = .ok (.invokevirtual 106, 3) := by decide +kernel
theorem dX8_scale_66 : decode cX8_scale 66 = .ok (.ireturn, 1) := by decide +kernel
theorem dX8_scale_67 : decode cX8_scale 67 = .ok (.aload_n 0, 1) := by decide +kernel
theorem dX8_scale_68 : decode cX8_scale 68 = .ok (.aload_n 0, 1) := by decide +kernel
theorem dX8_scale_69 : decode cX8_scale 69 = .ok (.getfield 45, 3) := by decide +kernel
theorem dX8_scale_72 : decode cX8_scale 72 = .ok (.invokevirtual 193, 3) := by decide +kernel
theorem dX8_scale_75 : decode cX8_scale 75 = .ok (.ifCond .eq 7, 3) := by decide +kernel
theorem dX8_scale_78 : decode cX8_scale 78 = .ok (.iconst 1, 1) := by decide +kernel
theorem dX8_scale_79 : decode cX8_scale 79 = .ok (.goto 4, 3) := by decide +kernel
theorem dX8_scale_82 : decode cX8_scale 82 = .ok (.iconst 0, 1) := by decide +kernel
theorem dX8_scale_83 : decode cX8_scale 83 = .ok (.invokevirtual 106, 3) := by decide +kernel
theorem dX8_scale_86 : decode cX8_scale 86 = .ok (.ireturn, 1) := by decide +kernel
theorem dX8_scale_87 : decode cX8_scale 87 = .ok (.aload_n 0, 1) := by decide +kernel
theorem dX8_scale_88 : decode cX8_scale 88 = .ok (.aload_n 0, 1) := by decide +kernel
theorem dX8_scale_89 : decode cX8_scale 89 = .ok (.getfield 45, 3) := by decide +kernel
theorem dX8_scale_92 : decode cX8_scale 92 = .ok (.invokevirtual 196, 3) := by decide +kernel
theorem dX8_scale_95 : decode cX8_scale 95 = .ok (.ifCond .eq 7, 3) := by decide +kernel
theorem dX8_scale_98 : decode cX8_scale 98 = .ok (.iconst 1, 1) := by decide +kernel
theorem dX8_scale_99 : decode cX8_scale 99 = .ok (.goto 4, 3) := by decide +kernel
theorem dX8_scale_102 : decode cX8_scale 102 = .ok (.iconst 0, 1) := by decide +kernel
theorem dX8_scale_103 : decode cX8_scale 103 = .ok (.invokevirtual 106, 3) := by decide +kernel
theorem dX8_scale_106 : decode cX8_scale 106 = .ok (.ireturn, 1) := by decide +kernel
theorem dX8_scale_107 : decode cX8_scale 107 = .ok (.aload_n 0, 1) := by decide +kernel
theorem dX8_scale_108 : decode cX8_scale 108 = .ok (.aload_n 0, 1) := by decide +kernel
theorem dX8_scale_109 : decode cX8_scale 109 = .ok (.getfield 45, 3) := by decide +kernel
theorem dX8_scale_112 : decode cX8_scale 112 = .ok (.iconst 0, 1) := by decide +kernel
theorem dX8_scale_113 : decode cX8_scale 113 = .ok (.invokevirtual 199, 3) := by decide +kernel
theorem dX8_scale_116 : decode cX8_scale 116 = .ok (.ifCond .eq 7, 3) := by decide +kernel
theorem dX8_scale_119 : decode cX8_scale 119 = .ok (.iconst 1, 1) := by decide +kernel
theorem dX8_scale_120 : decode cX8_scale 120 = .ok (.goto 4, 3) := by decide +kernel
theorem dX8_scale_123 : decode cX8_scale 123 = .ok (.iconst 0, 1) := by decide +kernel
theorem dX8_scale_124 : decode cX8_scale 124 = .ok (.invokevirtual 106, 3) := by decide +kernel
theorem dX8_scale_127 : decode cX8_scale 127 = .ok (.ireturn, 1) := by decide +kernel
theorem dX8_scale_128 : decode cX8_scale 128 = .ok (.aload_n 0, 1) := by decide +kernel
theorem dX8_scale_129 : decode cX8_scale 129 = .ok (.aload_n 0, 1) := by decide +kernel
theorem dX8_scale_130 : decode cX8_scale 130 = .ok (.getfield 45, 3) := by decide +kernel
theorem dX8_scale_133 : decode cX8_scale 133 = .ok (.iconst 1, 1) := by decide +kernel
theorem dX8_scale_134 : decode cX8_scale 134 = .ok (.invokevirtual 199, 3) := by decide +kernel
theorem dX8_scale_137 : decode cX8_scale 137 = .ok (.ifCond .eq 7, 3) := by decide +kernel
theorem dX8_scale_140 : decode cX8_scale 140 = .ok (.iconst 1, 1) := by decide +kernel
theorem dX8_scale_141 : decode cX8_scale 141 = .ok (.goto 4, 3) := by decide +kernel
theorem dX8_scale_144 : decode cX8_scale 144 = .ok (.iconst 0, 1) := by decide +kernel
theorem dX8_scale_145 : decode cX8_scale 145 = .ok (.invokevirtual 106, 3) := by decide +kernel
theorem dX8_scale_148 : decode cX8_scale 148 = .ok (.ireturn, 1) := by decide +kernel
theorem dX8_scale_149 : decode cX8_scale 149 = .ok (.aload_n 0, 1) := by decide +kernel
theorem dX8_scale_150 : decode cX8_scale 150 = .ok (.iconst 3, 1) := by decide +kernel
theorem dX8_scale_151 : decode cX8_scale 151 = .ok (.invokevirtual 100, 3) := by decide +kernel
theorem dX8_scale_154 : decode cX8_scale 154 = .ok (.ireturn, 1) := by decide +kernel
theorem dX8_kinds_0 : decode cX8_kinds 0 = .ok (.aload_n 0, 1) := by decide +kernel
theorem dX8_kinds_1 : decode cX8_kinds 1 = .ok (.getfield 45, 3) := by decide +kernel
theorem dX8_kinds_4 : decode cX8_kinds 4 = .ok (.invokevirtual 158, 3) := by decide +kernel
theorem dX8_kinds_7 : decode cX8_kinds 7 = .ok (.ifCond .ne 10, 3) := by decide +kernel
theorem dX8_kinds_10 : decode cX8_kinds 10 = .ok (.aload_n 0, 1) := by decide +kernel
theorem dX8_kinds_11 : decode cX8_kinds 11 = .ok (.bipush 7, 2) := by decide +kernel
theorem dX8_kinds_13 : decode cX8_kinds 13 = .ok (.invokevirtual 100, 3) := by decide +kernel
theorem dX8_kinds_16 : decode cX8_kinds 16 = .ok (.ireturn, 1) := by decide +kernel
theorem dX8_kinds_17 : decode cX8_kinds 17 = .ok (.iload_n 1, 1) := by decide +kernel
theorem dX8_kinds_18 : decode cX8_kinds 18 = .ok (.iconst 1, 1) := by decide +kernel
theorem dX8_kinds_19 : decode cX8_kinds 19 = .ok (.if_icmp .lt 17, 3) := by decide +kernel
theorem dX8_kinds_22 : decode cX8_kinds 22 = .ok (.iload_n 1, 1) := by decide +kernel
theorem dX8_kinds_23 : decode cX8_kinds 23 = .ok (.aload_n 0, 1) := by decide +kernel
theorem dX8_kinds_24 : decode cX8_kinds 24 = .ok (.getfield 45, 3) := by decide +kernel
theorem dX8_kinds_27 : decode cX8_kinds 27 = .ok (.getfield 164, 3) := by decide +kernel
theorem dX8_kinds_30 : decode cX8_kinds 30 = .ok (.getfield 188, 3) := by decide +kernel
theorem dX8_kinds_33 : decode cX8_kinds 33 = .ok (.if_icmp .le 9, 3) := by decide +kernel
theorem dX8_kinds_36 : decode cX8_kinds 36 = .ok (.aload_n 0, 1) := by decide +kernel
theorem dX8_kinds_37 : decode cX8_kinds 37 = .ok (.iconst 3, 1) := by decide +kernel
theorem dX8_kinds_38 : decode cX8_kinds 38 = .ok (.invokevirtual 100, 3) := by decide +kernel
theorem dX8_kinds_41 : decode cX8_kinds 41 = .ok (.ireturn, 1) := by decide +kernel
theorem dX8_kinds_42 : decode cX8_kinds 42 = .ok (.aload_n 0, 1) := by decide +kernel
theorem dX8_kinds_43 : decode cX8_kinds 43 = .ok (.aload_n 0, 1) := by decide +kernel
theorem dX8_kinds_44 : decode cX8_kinds 44 = .ok (.getfield 45, 3) := by decide +kernel
theorem dX8_kinds_47 : decode cX8_kinds 47 = .ok (.iload_n 1, 1) := by decide +kernel
theorem dX8_kinds_48 : decode cX8_kinds 48 = .ok (.invokevirtual 203, 3) := by decide +kernel
theorem dX8_kinds_51 : decode cX8_kinds 51 = .ok (.invokevirtual 106, 3) := by decide +kernel
theorem dX8_kinds_54 : decode cX8_kinds 54 = .ok (.ireturn, 1) := by decide +kernel
theorem dX8_step_0 : decode cX8_step 0 = .ok (.iload_n 3, 1) := by decide +kernel
theorem dX8_step_1 : decode cX8_step 1 = .ok (.invokestatic 63, 3) := by decide +kernel
theorem dX8_step_4 : decode cX8_step 4 = .ok (.ifCond .ne 9, 3) := by decide +kernel
theorem dX8_step_7 : decode cX8_step 7 = .ok (.aload_n 0, 1) := by decide +kernel
theorem dX8_step_8 : decode cX8_step 8 = .ok (.iconst 1, 1) := by decide +kernel
theorem dX8_step_9 : decode cX8_step 9 = .ok (.invokevirtual 100, 3) := by decide +kernel
theorem dX8_step_12 : decode cX8_step 12 = .ok (.ireturn, 1) := by decide +kernel
theorem dX8_step_13 : decode cX8_step 13 = .ok (.aload_n 0, 1) := by decide +kernel
theorem dX8_step_14 : decode cX8_step 14 = .ok (.getfield 45, 3) := by decide +kernel
theorem dX8_step_17 : decode cX8_step 17 = .ok (.invokevirtual 158, 3) := by decide +kernel
theorem dX8_step_20 : decode cX8_step 20 = .ok (.ifCond .ne 10, 3) := by decide +kernel
theorem dX8_step_23 : decode cX8_step 23 = .ok (.aload_n 0, 1) := by decide +kernel
theorem dX8_step_24 : decode cX8_step 24 = .ok (.bipush 7, 2) := by decide +kernel
theorem dX8_step_26 : decode cX8_step 26 = .ok (.invokevirtual 100, 3) := by decide +kernel
theorem dX8_step_29 : decode cX8_step 29 = .ok (.ireturn, 1) := by decide +kernel
theorem dX8_step_30 : decode cX8_step 30 = .ok (.iload_n 1, 1) := by decide +kernel
theorem dX8_step_31 : decode cX8_step 31 = .ok (.iconst 1, 1) := by decide +kernel
theorem dX8_step_32 : decode cX8_step 32 = .ok (.if_icmp .lt 17, 3) := by decide +kernel
theorem dX8_step_35 : decode cX8_step 35 = .ok (.iload_n 1, 1) := by decide +kernel
theorem dX8_step_36 : decode cX8_step 36 = .ok (.aload_n 0, 1) := by decide +kernel
theorem dX8_step_37 : decode cX8_step 37 = .ok (.getfield 45, 3) := by decide +kernel
theorem dX8_step_40 : decode cX8_step 40 = .ok (.getfield 164, 3) := by decide +kernel
theorem dX8_step_43 : decode cX8_step 43 = .ok (.getfield 188, 3) := by decide +kernel
theorem dX8_step_46 : decode cX8_step 46 = .ok (.if_icmp .le 9, 3) := by decide +kernel
theorem dX8_step_49 : decode cX8_step 49 = .ok (.aload_n 0, 1) := by decide +kernel
theorem dX8_step_50 : decode cX8_step 50 = .ok (.iconst 3, 1) := by decide +kernel
theorem dX8_step_51 : decode cX8_step 51 = .ok (.invokevirtual 100, 3) := by decide +kernel
theorem dX8_step_54 : decode cX8_step 54 = .ok (.ireturn, 1) := by decide +kernel
theorem dX8_step_55 : decode cX8_step 55 = .ok (.aload_n 0, 1) := by decide +kernel
theorem dX8_step_56 : decode cX8_step 56 = .ok (.getfield 45, 3) := by decide +kernel
theorem dX8_step_59 : decode cX8_step 59 = .ok (.iload_n 1, 1) := by decide +kernel
theorem dX8_step_60 : decode cX8_step 60 = .ok (.invokevirtual 203, 3) := by decide +kernel
theorem dX8_step_63 : decode cX8_step 63 = .ok (.istore 4, 2) := by decide +kernel
theorem dX8_step_65 : decode cX8_step 65 = .ok (.iload_n 2, 1) := by decide +kernel
theorem dX8_step_66 : decode cX8_step 66 = .ok (.ifCond .lt 9, 3) := by decide +kernel
theorem dX8_step_69 : decode cX8_step 69 = .ok (.iload_n 2, 1) := by decide +kernel
theorem dX8_step_70 : decode cX8_step 70 = .ok (.iload 4, 2) := by decide +kernel
theorem dX8_step_72 : decode cX8_step 72 = .ok (.if_icmp .lt 9, 3) := by decide +kernel
theorem dX8_step_75 : decode cX8_step 75 = .ok (.aload_n 0, 1) := by decide +kernel
theorem dX8_step_76 : decode cX8_step 76 = .ok (.iconst 3, 1) := by decide +kernel
theorem dX8_step_77 : decode cX8_step 77 = .ok (.invokevirtual 100, 3) := by decide +kernel
theorem dX8_step_80 : decode cX8_step 80 = .ok (.ireturn, 1) := by decide +kernel
theorem dX8_step_81 : decode cX8_step 81 = .ok (.aload_n 0, 1) := by decide +kernel
theorem dX8_step_82 : decode cX8_step 82 = .ok (.getfield 45, 3) := by decide +kernel
theorem dX8_step_85 : decode cX8_step 85 = .ok (.iload_n 2, 1) := by decide +kernel
theorem dX8_step_86 : decode cX8_step 86 = .ok (.iload 4, 2) := by decide +kernel
theorem dX8_step_88 : decode cX8_step 88 = .ok (.aload_n 0, 1) := by decide +kernel
theorem dX8_step_89 : decode cX8_step 89 = .ok (.getfield 18, 3) := by decide +kernel
theorem dX8_step_92 : decode cX8_step 92 = .ok (.invokevirtual 206, 3) := by decide +kernel
theorem dX8_step_95 : decode cX8_step 95 = .ok (.istore 5, 2) := by decide +kernel
theorem dX8_step_97 : decode cX8_step 97 = .ok (.aload_n 0, 1) := by decide +kernel
theorem dX8_step_98 : decode cX8_step 98 = .ok (.iload_n 3, 1) := by decide +kernel
theorem dX8_step_99 : decode cX8_step 99 = .ok (.invokevirtual 70, 3) := by decide +kernel
theorem dX8_step_102 : decode cX8_step 102 = .ok (.ifCond .eq 8, 3) := by decide +kernel
theorem dX8_step_105 : decode cX8_step 105 = .ok (.iload 5, 2) := by decide +kernel
theorem dX8_step_107 : decode cX8_step 107 = .ok (.goto 4, 3) := by decide +kernel
theorem dX8_step_110 : decode cX8_step 110 = .ok (.iconst (-1), 1) := by decide +kernel
theorem dX8_step_111 : decode cX8_step 111 = .ok (.ireturn, 1) := by decide +kernel
theorem dX8_mode_0 : decode cX8_mode 0 = .ok (.aload_n 0, 1) := by decide +kernel
theorem dX8_mode_1 : decode cX8_mode 1 = .ok (.getfield 45, 3) := by decide +kernel
theorem dX8_mode_4 : decode cX8_mode 4 = .ok (.invokevirtual 158, 3) := by decide +kernel
theorem dX8_mode_7 : decode cX8_mode 7 = .ok (.ifCond .ne 10, 3) := by decide +kernel
theorem dX8_mode_10 : decode cX8_mode 10 = .ok (.aload_n 0, 1) := by decide +kernel
theorem dX8_mode_11 : decode cX8_mode 11 = .ok (.bipush 7, 2) := by decide +kernel
theorem dX8_mode_13 : decode cX8_mode 13 = .ok (.invokevirtual 67, 3) := by decide +kernel
theorem dX8_mode_16 : decode cX8_mode 16 = .ok (.ireturn, 1) := by decide +kernel
theorem dX8_mode_17 : decode cX8_mode 17 = .ok (.iload_n 1, 1) := by decide +kernel
theorem dX8_mode_18 : decode cX8_mode 18 = .ok (.ifCond .lt 17, 3) := by decide +kernel
theorem dX8_mode_21 : decode cX8_mode 21 = .ok (.iload_n 1, 1) := by decide +kernel
theorem dX8_mode_22 : decode cX8_mode 22 = .ok (.aload_n 0, 1) := by decide +kernel
theorem dX8_mode_23 : decode cX8_mode 23 = .ok (.getfield 45, 3) := by decide +kernel
theorem dX8_mode_26 : decode cX8_mode 26 = .ok (.getfield 164, 3) := by decide +kernel
theorem dX8_mode_29 : decode cX8_mode 29 = .ok (.getfield 188, 3) := by decide +kernel
theorem dX8_mode_32 : decode cX8_mode 32 = .ok (.if_icmp .lt 9, 3) := by decide +kernel
theorem dX8_mode_35 : decode cX8_mode 35 = .ok (.aload_n 0, 1) := by decide +kernel
theorem dX8_mode_36 : decode cX8_mode 36 = .ok (.iconst 3, 1) := by decide +kernel
theorem dX8_mode_37 : decode cX8_mode 37 = .ok (.invokevirtual 67, 3) := by decide +kernel
theorem dX8_mode_40 : decode cX8_mode 40 = .ok (.ireturn, 1) := by decide +kernel
theorem dX8_mode_41 : decode cX8_mode 41 = .ok (.aload_n 0, 1) := by decide +kernel
theorem dX8_mode_42 : decode cX8_mode 42 = .ok (.getfield 45, 3) := by decide +kernel
theorem dX8_mode_45 : decode cX8_mode 45 = .ok (.iload_n 1, 1) := by decide +kernel
theorem dX8_mode_46 : decode cX8_mode 46 = .ok (.invokevirtual 210, 3) := by decide +kernel
theorem dX8_mode_49 : decode cX8_mode 49 = .ok (.ifCond .eq 10, 3) := by decide +kernel
theorem dX8_mode_52 : decode cX8_mode 52 = .ok (.aload_n 0, 1) := by decide +kernel
theorem dX8_mode_53 : decode cX8_mode 53 = .ok (.invokevirtual 96, 3) := by decide +kernel
theorem dX8_mode_56 : decode cX8_mode 56 = .ok (.goto 8, 3) := by decide +kernel
theorem dX8_mode_59 : decode cX8_mode 59 = .ok (.aload_n 0, 1) := by decide +kernel
theorem dX8_mode_60 : decode cX8_mode 60 = .ok (.iconst 4, 1) := by decide +kernel
theorem dX8_mode_61 : decode cX8_mode 61 = .ok (.invokevirtual 67, 3) := by decide +kernel
theorem dX8_mode_64 : decode cX8_mode 64 = .ok (.ireturn, 1) := by decide +kernel
theorem dX8_follows_0 : decode cX8_follows 0 = .ok (.aload_n 0, 1) := by decide +kernel
theorem dX8_follows_1 : decode cX8_follows 1 = .ok (.getfield 45, 3) := by decide +kernel
theorem dX8_follows_4 : decode cX8_follows 4 = .ok (.invokevirtual 158, 3) := by decide +kernel
theorem dX8_follows_7 : decode cX8_follows 7 = .ok (.ifCond .ne 10, 3) := by decide +kernel
theorem dX8_follows_10 : decode cX8_follows 10 = .ok (.aload_n 0, 1) := by decide +kernel
theorem dX8_follows_11 : decode cX8_follows 11 = .ok (.bipush 7, 2) := by decide +kernel
theorem dX8_follows_13 : decode cX8_follows 13 = .ok (.invokevirtual 100, 3) := by decide +kernel
theorem dX8_follows_16 : decode cX8_follows 16 = .ok (.ireturn, 1) := by decide +kernel
theorem dX8_follows_17 : decode cX8_follows 17 = .ok (.iload_n 1, 1) := by decide +kernel
theorem dX8_follows_18 : decode cX8_follows 18 = .ok (.invokestatic 117, 3) := by decide +kernel
theorem dX8_follows_21 : decode cX8_follows 21 = .ok (.ifCond .ne 9, 3) := by decide +kernel
theorem dX8_follows_24 : decode cX8_follows 24 = .ok (.aload_n 0, 1) := by decide +kernel
theorem dX8_follows_25 : decode cX8_follows 25 = .ok (.iconst 3, 1) := by decide +kernel
theorem dX8_follows_26 : decode cX8_follows 26 = .ok (.invokevirtual 100, 3) := by decide +kernel
theorem dX8_follows_29 : decode cX8_follows 29 = .ok (.ireturn, 1) := by decide +kernel
theorem dX8_follows_30 : decode cX8_follows 30 = .ok (.aload_n 0, 1) := by decide +kernel
theorem dX8_follows_31 : decode cX8_follows 31 = .ok (.aload_n 0, 1) := by decide +kernel
theorem dX8_follows_32 : decode cX8_follows 32 = .ok (.getfield 45, 3) := by decide +kernel
theorem dX8_follows_35 : decode cX8_follows 35 = .ok (.iload_n 1, 1) := by decide +kernel
theorem dX8_follows_36 : decode cX8_follows 36 = .ok (.invokevirtual 213, 3) := by decide +kernel
theorem dX8_follows_39 : decode cX8_follows 39 = .ok (.ifCond .eq 7, 3) := by decide +kernel
theorem dX8_follows_42 : decode cX8_follows 42 = .ok (.iconst 1, 1) := by decide +kernel
theorem dX8_follows_43 : decode cX8_follows 43 = .ok (.goto 4, 3) := by decide +kernel
theorem dX8_follows_46 : decode cX8_follows 46 = .ok (.iconst 0, 1) := by decide +kernel
theorem dX8_follows_47 : decode cX8_follows 47 = .ok (.invokevirtual 106, 3) := by decide +kernel
theorem dX8_follows_50 : decode cX8_follows 50 = .ok (.ireturn, 1) := by decide +kernel
theorem dX8_quotient_0 : decode cX8_quotient 0 = .ok (.iload_n 1, 1) := by decide +kernel
theorem dX8_quotient_1 : decode cX8_quotient 1 = .ok (.invokestatic 63, 3) := by decide +kernel
theorem dX8_quotient_4 : decode cX8_quotient 4 = .ok (.ifCond .eq 10, 3) := by decide +kernel
theorem dX8_quotient_7 : decode cX8_quotient 7 = .ok (.iload_n 2, 1) := by decide +kernel
theorem dX8_quotient_8 : decode cX8_quotient 8 = .ok (.invokestatic 63, 3) := by decide +kernel
theorem dX8_quotient_11 : decode cX8_quotient 11 = .ok (.ifCond .ne 9, 3) := by decide +kernel
theorem dX8_quotient_14 : decode cX8_quotient 14 = .ok (.aload_n 0, 1) := by decide +kernel
theorem dX8_quotient_15 : decode cX8_quotient 15 = .ok (.iconst 1, 1) := by decide +kernel
theorem dX8_quotient_16 : decode cX8_quotient 16 = .ok (.invokevirtual 100, 3) := by decide +kernel
theorem dX8_quotient_19 : decode cX8_quotient 19 = .ok (.ireturn, 1) := by decide +kernel
theorem dX8_quotient_20 : decode cX8_quotient 20 = .ok (.aload_n 0, 1) := by decide +kernel
theorem dX8_quotient_21 : decode cX8_quotient 21 = .ok (.getfield 14, 3) := by decide +kernel
theorem dX8_quotient_24 : decode cX8_quotient 24 = .ok (.iload_n 1, 1) := by decide +kernel
theorem dX8_quotient_25 : decode cX8_quotient 25 = .ok (.baload, 1) := by decide +kernel
theorem dX8_quotient_26 : decode cX8_quotient 26 = .ok (.ifCond .eq 12, 3) := by decide +kernel
theorem dX8_quotient_29 : decode cX8_quotient 29 = .ok (.aload_n 0, 1) := by decide +kernel
theorem dX8_quotient_30 : decode cX8_quotient 30 = .ok (.getfield 14, 3) := by decide +kernel
theorem dX8_quotient_33 : decode cX8_quotient 33 = .ok (.iload_n 2, 1) := by decide +kernel
theorem dX8_quotient_34 : decode cX8_quotient 34 = .ok (.baload, 1) := by decide +kernel
theorem dX8_quotient_35 : decode cX8_quotient 35 = .ok (.ifCond .ne 9, 3) := by decide +kernel
theorem dX8_quotient_38 : decode cX8_quotient 38 = .ok (.aload_n 0, 1) := by decide +kernel
theorem dX8_quotient_39 : decode cX8_quotient 39 = .ok (.iconst 2, 1) := by decide +kernel
theorem dX8_quotient_40 : decode cX8_quotient 40 = .ok (.invokevirtual 100, 3) := by decide +kernel
theorem dX8_quotient_43 : decode cX8_quotient 43 = .ok (.ireturn, 1) := by decide +kernel
theorem dX8_quotient_44 : decode cX8_quotient 44 = .ok (.iload_n 3, 1) := by decide +kernel
theorem dX8_quotient_45 : decode cX8_quotient 45 = .ok (.ifCond .lt 9, 3) := by decide +kernel
theorem dX8_quotient_48 : decode cX8_quotient 48 = .ok (.iload_n 3, 1) := by decide +kernel
theorem dX8_quotient_49 : decode cX8_quotient 49 = .ok (.bipush 19, 2) := by decide +kernel
theorem dX8_quotient_51 : decode cX8_quotient 51 = .ok (.if_icmp .le 9, 3) := by decide +kernel
theorem dX8_quotient_54 : decode cX8_quotient 54 = .ok (.aload_n 0, 1) := by decide +kernel
theorem dX8_quotient_55 : decode cX8_quotient 55 = .ok (.iconst 3, 1) := by decide +kernel
theorem dX8_quotient_56 : decode cX8_quotient 56 = .ok (.invokevirtual 100, 3) := by decide +kernel
theorem dX8_quotient_59 : decode cX8_quotient 59 = .ok (.ireturn, 1) := by decide +kernel
theorem dX8_quotient_60 : decode cX8_quotient 60 = .ok (.aload_n 0, 1) := by decide +kernel
theorem dX8_quotient_61 : decode cX8_quotient 61 = .ok (.getfield 29, 3) := by decide +kernel
theorem dX8_quotient_64 : decode cX8_quotient 64 = .ok (.aload_n 0, 1) := by decide +kernel
theorem dX8_quotient_65 : decode cX8_quotient 65 = .ok (.getfield 11, 3) := by decide +kernel
theorem dX8_quotient_68 : decode cX8_quotient 68 = .ok (.iload_n 1, 1) := by decide +kernel
theorem dX8_quotient_69 : decode cX8_quotient 69 = .ok (.aaload, 1) := by decide +kernel
theorem dX8_quotient_70 : decode cX8_quotient 70 = .ok (.invokevirtual 84, 3) := by decide +kernel
theorem dX8_quotient_73 : decode cX8_quotient 73 = .ok (.ifCond .le 19, 3) := by decide +kernel
theorem dX8_quotient_76 : decode cX8_quotient 76 = .ok (.aload_n 0, 1) := by decide +kernel
theorem dX8_quotient_77 : decode cX8_quotient 77 = .ok (.getfield 29, 3) := by decide +kernel
theorem dX8_quotient_80 : decode cX8_quotient 80 = .ok (.aload_n 0, 1) := by decide +kernel
theorem dX8_quotient_81 : decode cX8_quotient 81 = .ok (.getfield 11, 3) := by decide +kernel
theorem dX8_quotient_84 : decode cX8_quotient 84 = .ok (.iload_n 2, 1) := by decide +kernel
theorem dX8_quotient_85 : decode cX8_quotient 85 = .ok (.aaload, 1) := by decide +kernel
theorem dX8_quotient_86 : decode cX8_quotient 86 = .ok (.invokevirtual 84, 3) := by decide +kernel
theorem dX8_quotient_89 : decode cX8_quotient 89 = .ok (.ifCond .gt 9, 3) := by decide +kernel
theorem dX8_quotient_92 : decode cX8_quotient 92 = .ok (.aload_n 0, 1) := by decide +kernel
theorem dX8_quotient_93 : decode cX8_quotient 93 = .ok (.iconst 5, 1) := by decide +kernel
theorem dX8_quotient_94 : decode cX8_quotient 94 = .ok (.invokevirtual 100, 3) := by decide +kernel
theorem dX8_quotient_97 : decode cX8_quotient 97 = .ok (.ireturn, 1) := by decide +kernel
theorem dX8_quotient_98 : decode cX8_quotient 98 = .ok (.aload_n 0, 1) := by decide +kernel
theorem dX8_quotient_99 : decode cX8_quotient 99 = .ok (.getfield 52, 3) := by decide +kernel
theorem dX8_quotient_102 : decode cX8_quotient 102 = .ok (.aload_n 0, 1) := by decide +kernel
theorem dX8_quotient_103 : decode cX8_quotient 103 = .ok (.getfield 11, 3) := by decide +kernel
theorem dX8_quotient_106 : decode cX8_quotient 106 = .ok (.iload_n 1, 1) := by decide +kernel
theorem dX8_quotient_107 : decode cX8_quotient 107 = .ok (.aaload, 1) := by decide +kernel
theorem dX8_quotient_108 : decode cX8_quotient 108 = .ok (.aload_n 0, 1) := by decide +kernel
theorem dX8_quotient_109 : decode cX8_quotient 109 = .ok (.getfield 11, 3) := by decide +kernel
theorem dX8_quotient_112 : decode cX8_quotient 112 = .ok (.iload_n 2, 1) := by decide +kernel
theorem dX8_quotient_113 : decode cX8_quotient 113 = .ok (.aaload, 1) := by decide +kernel
theorem dX8_quotient_114 : decode cX8_quotient 114 = .ok (.iload_n 3, 1) := by decide +kernel
theorem dX8_quotient_115 : decode cX8_quotient 115 = .ok (.invokevirtual 216, 3) := by decide +kernel
theorem dX8_quotient_118 : decode cX8_quotient 118 = .ok (.istore 4, 2) := by decide +kernel
theorem dX8_quotient_120 : decode cX8_quotient 120 = .ok (.iload 4, 2) := by decide +kernel
theorem dX8_quotient_122 : decode cX8_quotient 122 = .ok (.iconst (-1), 1) := by decide +kernel
theorem dX8_quotient_123 : decode cX8_quotient 123 = .ok (.if_icmp .ne 12, 3) := by decide +kernel
theorem dX8_quotient_126 : decode cX8_quotient 126 = .ok (.aload_n 0, 1) := by decide +kernel
theorem dX8_quotient_127 : decode cX8_quotient 127 = .ok (.bipush 9, 2) := by decide +kernel
theorem dX8_quotient_129 : decode cX8_quotient 129 = .ok (.invokevirtual 100, 3) := by decide +kernel
theorem dX8_quotient_132 : decode cX8_quotient 132 = .ok (.goto 9, 3) := by decide +kernel
theorem dX8_quotient_135 : decode cX8_quotient 135 = .ok (.aload_n 0, 1) := by decide +kernel
theorem dX8_quotient_136 : decode cX8_quotient 136 = .ok (.iload 4, 2) := by decide +kernel
theorem dX8_quotient_138 : decode cX8_quotient 138 = .ok (.invokevirtual 106, 3) := by decide +kernel
theorem dX8_quotient_141 : decode cX8_quotient 141 = .ok (.ireturn, 1) := by decide +kernel
theorem dX8_isShelf_0 : decode cX8_isShelf 0 = .ok (.iload_n 0, 1) := by decide +kernel
theorem dX8_isShelf_1 : decode cX8_isShelf 1 = .ok (.ifCond .lt 13, 3) := by decide +kernel
theorem dX8_isShelf_4 : decode cX8_isShelf 4 = .ok (.iload_n 0, 1) := by decide +kernel
theorem dX8_isShelf_5 : decode cX8_isShelf 5 = .ok (.bipush 16, 2) := by decide +kernel
theorem dX8_isShelf_7 : decode cX8_isShelf 7 = .ok (.if_icmp .ge 7, 3) := by decide +kernel
theorem dX8_isShelf_10 : decode cX8_isShelf 10 = .ok (.iconst 1, 1) := by decide +kernel
theorem dX8_isShelf_11 : decode cX8_isShelf 11 = .ok (.goto 4, 3) := by decide +kernel
theorem dX8_isShelf_14 : decode cX8_isShelf 14 = .ok (.iconst 0, 1) := by decide +kernel
theorem dX8_isShelf_15 : decode cX8_isShelf 15 = .ok (.ireturn, 1) := by decide +kernel
theorem dX8_isPrimeNumber_0 : decode cX8_isPrimeNumber 0 = .ok (.iload_n 0, 1) := by decide +kernel
theorem dX8_isPrimeNumber_1 : decode cX8_isPrimeNumber 1 = .ok (.ifCond .lt 13, 3) := by decide +kernel
theorem dX8_isPrimeNumber_4 : decode cX8_isPrimeNumber 4 = .ok (.iload_n 0, 1) := by decide +kernel
theorem dX8_isPrimeNumber_5 : decode cX8_isPrimeNumber 5 = .ok (.bipush 6, 2) := by decide +kernel
theorem dX8_isPrimeNumber_7 : decode cX8_isPrimeNumber 7 = .ok (.if_icmp .ge 7, 3) := by decide +kernel
theorem dX8_isPrimeNumber_10 : decode cX8_isPrimeNumber 10 = .ok (.iconst 1, 1) := by decide +kernel
theorem dX8_isPrimeNumber_11 : decode cX8_isPrimeNumber 11 = .ok (.goto 4, 3) := by decide +kernel
theorem dX8_isPrimeNumber_14 : decode cX8_isPrimeNumber 14 = .ok (.iconst 0, 1) := by decide +kernel
theorem dX8_isPrimeNumber_15 : decode cX8_isPrimeNumber 15 = .ok (.ireturn, 1) := by decide +kernel
theorem dX8_faultOf_0 : decode cX8_faultOf 0 = .ok (.iload_n 1, 1) := by decide +kernel
theorem dX8_faultOf_1 : decode cX8_faultOf 1 = .ok (.invokestatic 63, 3) := by decide +kernel
theorem dX8_faultOf_4 : decode cX8_faultOf 4 = .ok (.ifCond .ne 5, 3) := by decide +kernel
theorem dX8_faultOf_7 : decode cX8_faultOf 7 = .ok (.iconst 1, 1) := by decide +kernel
theorem dX8_faultOf_8 : decode cX8_faultOf 8 = .ok (.ireturn, 1) := by decide +kernel
theorem dX8_faultOf_9 : decode cX8_faultOf 9 = .ok (.aload_n 0, 1) := by decide +kernel
theorem dX8_faultOf_10 : decode cX8_faultOf 10 = .ok (.getfield 14, 3) := by decide +kernel
theorem dX8_faultOf_13 : decode cX8_faultOf 13 = .ok (.iload_n 1, 1) := by decide +kernel
theorem dX8_faultOf_14 : decode cX8_faultOf 14 = .ok (.baload, 1) := by decide +kernel
theorem dX8_faultOf_15 : decode cX8_faultOf 15 = .ok (.ifCond .eq 7, 3) := by decide +kernel
theorem dX8_faultOf_18 : decode cX8_faultOf 18 = .ok (.iconst 0, 1) := by decide +kernel
theorem dX8_faultOf_19 : decode cX8_faultOf 19 = .ok (.goto 4, 3) := by decide +kernel
theorem dX8_faultOf_22 : decode cX8_faultOf 22 = .ok (.iconst 2, 1) := by decide +kernel
theorem dX8_faultOf_23 : decode cX8_faultOf 23 = .ok (.ireturn, 1) := by decide +kernel
theorem dX8_putMade_0 : decode cX8_putMade 0 = .ok (.iload_n 1, 1) := by decide +kernel
theorem dX8_putMade_1 : decode cX8_putMade 1 = .ok (.invokestatic 63, 3) := by decide +kernel
theorem dX8_putMade_4 : decode cX8_putMade 4 = .ok (.ifCond .ne 9, 3) := by decide +kernel
theorem dX8_putMade_7 : decode cX8_putMade 7 = .ok (.aload_n 0, 1) := by decide +kernel
theorem dX8_putMade_8 : decode cX8_putMade 8 = .ok (.iconst 1, 1) := by decide +kernel
theorem dX8_putMade_9 : decode cX8_putMade 9 = .ok (.invokevirtual 67, 3) := by decide +kernel
theorem dX8_putMade_12 : decode cX8_putMade 12 = .ok (.ireturn, 1) := by decide +kernel
theorem dX8_putMade_13 : decode cX8_putMade 13 = .ok (.aload_n 0, 1) := by decide +kernel
theorem dX8_putMade_14 : decode cX8_putMade 14 = .ok (.getfield 18, 3) := by decide +kernel
theorem dX8_putMade_17 : decode cX8_putMade 17 = .ok (.bipush 24, 2) := by decide +kernel
theorem dX8_putMade_19 : decode cX8_putMade 19 = .ok (.invokestatic 219, 3) := by decide +kernel
theorem dX8_putMade_22 : decode cX8_putMade 22 = .ok (.ifCond .ne 9, 3) := by decide +kernel
theorem dX8_putMade_25 : decode cX8_putMade 25 = .ok (.aload_n 0, 1) := by decide +kernel
theorem dX8_putMade_26 : decode cX8_putMade 26 = .ok (.iconst 4, 1) := by decide +kernel
theorem dX8_putMade_27 : decode cX8_putMade 27 = .ok (.invokevirtual 67, 3) := by decide +kernel
theorem dX8_putMade_30 : decode cX8_putMade 30 = .ok (.ireturn, 1) := by decide +kernel
theorem dX8_putMade_31 : decode cX8_putMade 31 = .ok (.aload_n 0, 1) := by decide +kernel
theorem dX8_putMade_32 : decode cX8_putMade 32 = .ok (.getfield 18, 3) := by decide +kernel
theorem dX8_putMade_35 : decode cX8_putMade 35 = .ok (.aload_n 0, 1) := by decide +kernel
theorem dX8_putMade_36 : decode cX8_putMade 36 = .ok (.getfield 11, 3) := by decide +kernel
theorem dX8_putMade_39 : decode cX8_putMade 39 = .ok (.iload_n 1, 1) := by decide +kernel
theorem dX8_putMade_40 : decode cX8_putMade 40 = .ok (.aaload, 1) := by decide +kernel
theorem dX8_putMade_41 : decode cX8_putMade 41 = .ok (.invokestatic 223, 3) := by decide +kernel
theorem dX8_putMade_44 : decode cX8_putMade 44 = .ok (.aload_n 0, 1) := by decide +kernel
theorem dX8_putMade_45 : decode cX8_putMade 45 = .ok (.getfield 14, 3) := by decide +kernel
theorem dX8_putMade_48 : decode cX8_putMade 48 = .ok (.iload_n 1, 1) := by decide +kernel
theorem dX8_putMade_49 : decode cX8_putMade 49 = .ok (.iconst 1, 1) := by decide +kernel
theorem dX8_putMade_50 : decode cX8_putMade 50 = .ok (.bastore, 1) := by decide +kernel
theorem dX8_putMade_51 : decode cX8_putMade 51 = .ok (.aload_n 0, 1) := by decide +kernel
theorem dX8_putMade_52 : decode cX8_putMade 52 = .ok (.invokevirtual 96, 3) := by decide +kernel
theorem dX8_putMade_55 : decode cX8_putMade 55 = .ok (.ireturn, 1) := by decide +kernel
theorem dX8_accept_0 : decode cX8_accept 0 = .ok (.aload_n 0, 1) := by decide +kernel
theorem dX8_accept_1 : decode cX8_accept 1 = .ok (.iconst 0, 1) := by decide +kernel
theorem dX8_accept_2 : decode cX8_accept 2 = .ok (.putfield 60, 3) := by decide +kernel
theorem dX8_accept_5 : decode cX8_accept 5 = .ok (.iconst 1, 1) := by decide +kernel
theorem dX8_accept_6 : decode cX8_accept 6 = .ok (.ireturn, 1) := by decide +kernel
theorem dX8_refuse_0 : decode cX8_refuse 0 = .ok (.aload_n 0, 1) := by decide +kernel
theorem dX8_refuse_1 : decode cX8_refuse 1 = .ok (.iload_n 1, 1) := by decide +kernel
theorem dX8_refuse_2 : decode cX8_refuse 2 = .ok (.putfield 60, 3) := by decide +kernel
theorem dX8_refuse_5 : decode cX8_refuse 5 = .ok (.iconst 0, 1) := by decide +kernel
theorem dX8_refuse_6 : decode cX8_refuse 6 = .ok (.ireturn, 1) := by decide +kernel
theorem dX8_answer_0 : decode cX8_answer 0 = .ok (.aload_n 0, 1) := by decide +kernel
theorem dX8_answer_1 : decode cX8_answer 1 = .ok (.iconst 0, 1) := by decide +kernel
theorem dX8_answer_2 : decode cX8_answer 2 = .ok (.putfield 60, 3) := by decide +kernel
theorem dX8_answer_5 : decode cX8_answer 5 = .ok (.iload_n 1, 1) := by decide +kernel
theorem dX8_answer_6 : decode cX8_answer 6 = .ok (.ireturn, 1) := by decide +kernel
theorem dX8_none_0 : decode cX8_none 0 = .ok (.aload_n 0, 1) := by decide +kernel
theorem dX8_none_1 : decode cX8_none 1 = .ok (.iload_n 1, 1) := by decide +kernel
theorem dX8_none_2 : decode cX8_none 2 = .ok (.putfield 60, 3) := by decide +kernel
theorem dX8_none_5 : decode cX8_none 5 = .ok (.iconst (-1), 1) := by decide +kernel
theorem dX8_none_6 : decode cX8_none 6 = .ok (.ireturn, 1) := by decide +kernel
theorem dJ6_bitCount_0f7a4_0 : decode cJ6_bitCount_0f7a4 0 = .ok (.iload_n 0, 1) := by decide +kernel
theorem dJ6_bitCount_0f7a4_1 : decode cJ6_bitCount_0f7a4 1 = .ok (.iload_n 0, 1) := by decide +kernel
theorem dJ6_bitCount_0f7a4_2 : decode cJ6_bitCount_0f7a4 2 = .ok (.iconst 1, 1) := by decide +kernel
theorem dJ6_bitCount_0f7a4_3 : decode cJ6_bitCount_0f7a4 3 = .ok (.iushr, 1) := by decide +kernel
theorem dJ6_bitCount_0f7a4_4 : decode cJ6_bitCount_0f7a4 4 = .ok (.ldc_w 265, 3) := by decide +kernel
theorem dJ6_bitCount_0f7a4_7 : decode cJ6_bitCount_0f7a4 7 = .ok (.iand, 1) := by decide +kernel
theorem dJ6_bitCount_0f7a4_8 : decode cJ6_bitCount_0f7a4 8 = .ok (.isub, 1) := by decide +kernel
theorem dJ6_bitCount_0f7a4_9 : decode cJ6_bitCount_0f7a4 9 = .ok (.istore_n 0, 1) := by decide +kernel
theorem dJ6_bitCount_0f7a4_10 : decode cJ6_bitCount_0f7a4 10 = .ok (.iload_n 0, 1) := by decide +kernel
theorem dJ6_bitCount_0f7a4_11 : decode cJ6_bitCount_0f7a4 11 = .ok (.ldc_w 266, 3) := by decide +kernel
theorem dJ6_bitCount_0f7a4_14 : decode cJ6_bitCount_0f7a4 14 = .ok (.iand, 1) := by decide +kernel
theorem dJ6_bitCount_0f7a4_15 : decode cJ6_bitCount_0f7a4 15 = .ok (.iload_n 0, 1) := by decide +kernel
theorem dJ6_bitCount_0f7a4_16 : decode cJ6_bitCount_0f7a4 16 = .ok (.iconst 2, 1) := by decide +kernel
theorem dJ6_bitCount_0f7a4_17 : decode cJ6_bitCount_0f7a4 17 = .ok (.iushr, 1) := by decide +kernel
theorem dJ6_bitCount_0f7a4_18 : decode cJ6_bitCount_0f7a4 18 = .ok (.ldc_w 266, 3) := by decide +kernel
theorem dJ6_bitCount_0f7a4_21 : decode cJ6_bitCount_0f7a4 21 = .ok (.iand, 1) := by decide +kernel
theorem dJ6_bitCount_0f7a4_22 : decode cJ6_bitCount_0f7a4 22 = .ok (.iadd, 1) := by decide +kernel
theorem dJ6_bitCount_0f7a4_23 : decode cJ6_bitCount_0f7a4 23 = .ok (.istore_n 0, 1) := by decide +kernel
theorem dJ6_bitCount_0f7a4_24 : decode cJ6_bitCount_0f7a4 24 = .ok (.iload_n 0, 1) := by decide +kernel
theorem dJ6_bitCount_0f7a4_25 : decode cJ6_bitCount_0f7a4 25 = .ok (.iload_n 0, 1) := by decide +kernel
theorem dJ6_bitCount_0f7a4_26 : decode cJ6_bitCount_0f7a4 26 = .ok (.iconst 4, 1) := by decide +kernel
theorem dJ6_bitCount_0f7a4_27 : decode cJ6_bitCount_0f7a4 27 = .ok (.iushr, 1) := by decide +kernel
theorem dJ6_bitCount_0f7a4_28 : decode cJ6_bitCount_0f7a4 28 = .ok (.iadd, 1) := by decide +kernel
theorem dJ6_bitCount_0f7a4_29 : decode cJ6_bitCount_0f7a4 29 = .ok (.ldc_w 267, 3) := by decide +kernel
theorem dJ6_bitCount_0f7a4_32 : decode cJ6_bitCount_0f7a4 32 = .ok (.iand, 1) := by decide +kernel
theorem dJ6_bitCount_0f7a4_33 : decode cJ6_bitCount_0f7a4 33 = .ok (.istore_n 0, 1) := by decide +kernel
theorem dJ6_bitCount_0f7a4_34 : decode cJ6_bitCount_0f7a4 34 = .ok (.iload_n 0, 1) := by decide +kernel
theorem dJ6_bitCount_0f7a4_35 : decode cJ6_bitCount_0f7a4 35 = .ok (.iload_n 0, 1) := by decide +kernel
theorem dJ6_bitCount_0f7a4_36 : decode cJ6_bitCount_0f7a4 36 = .ok (.bipush 8, 2) := by decide +kernel
theorem dJ6_bitCount_0f7a4_38 : decode cJ6_bitCount_0f7a4 38 = .ok (.iushr, 1) := by decide +kernel
theorem dJ6_bitCount_0f7a4_39 : decode cJ6_bitCount_0f7a4 39 = .ok (.iadd, 1) := by decide +kernel
theorem dJ6_bitCount_0f7a4_40 : decode cJ6_bitCount_0f7a4 40 = .ok (.istore_n 0, 1) := by decide +kernel
theorem dJ6_bitCount_0f7a4_41 : decode cJ6_bitCount_0f7a4 41 = .ok (.iload_n 0, 1) := by decide +kernel
theorem dJ6_bitCount_0f7a4_42 : decode cJ6_bitCount_0f7a4 42 = .ok (.iload_n 0, 1) := by decide +kernel
theorem dJ6_bitCount_0f7a4_43 : decode cJ6_bitCount_0f7a4 43 = .ok (.bipush 16, 2) := by decide +kernel
theorem dJ6_bitCount_0f7a4_45 : decode cJ6_bitCount_0f7a4 45 = .ok (.iushr, 1) := by decide +kernel
theorem dJ6_bitCount_0f7a4_46 : decode cJ6_bitCount_0f7a4 46 = .ok (.iadd, 1) := by decide +kernel
theorem dJ6_bitCount_0f7a4_47 : decode cJ6_bitCount_0f7a4 47 = .ok (.istore_n 0, 1) := by decide +kernel
theorem dJ6_bitCount_0f7a4_48 : decode cJ6_bitCount_0f7a4 48 = .ok (.iload_n 0, 1) := by decide +kernel
theorem dJ6_bitCount_0f7a4_49 : decode cJ6_bitCount_0f7a4 49 = .ok (.bipush 63, 2) := by decide +kernel
theorem dJ6_bitCount_0f7a4_51 : decode cJ6_bitCount_0f7a4 51 = .ok (.iand, 1) := by decide +kernel
theorem dJ6_bitCount_0f7a4_52 : decode cJ6_bitCount_0f7a4 52 = .ok (.ireturn, 1) := by decide +kernel
theorem dJ9_floorDiv_7cf53_0 : decode cJ9_floorDiv_7cf53 0 = .ok (.iload_n 0, 1) := by decide +kernel
theorem dJ9_floorDiv_7cf53_1 : decode cJ9_floorDiv_7cf53 1 = .ok (.iload_n 1, 1) := by decide +kernel
theorem dJ9_floorDiv_7cf53_2 : decode cJ9_floorDiv_7cf53 2 = .ok (.idiv, 1) := by decide +kernel
theorem dJ9_floorDiv_7cf53_3 : decode cJ9_floorDiv_7cf53 3 = .ok (.istore_n 2, 1) := by decide +kernel
theorem dJ9_floorDiv_7cf53_4 : decode cJ9_floorDiv_7cf53 4 = .ok (.iload_n 0, 1) := by decide +kernel
theorem dJ9_floorDiv_7cf53_5 : decode cJ9_floorDiv_7cf53 5 = .ok (.iload_n 1, 1) := by decide +kernel
theorem dJ9_floorDiv_7cf53_6 : decode cJ9_floorDiv_7cf53 6 = .ok (.ixor, 1) := by decide +kernel
theorem dJ9_floorDiv_7cf53_7 : decode cJ9_floorDiv_7cf53 7 = .ok (.ifCond .ge 14, 3) := by decide +kernel
theorem dJ9_floorDiv_7cf53_10 : decode cJ9_floorDiv_7cf53 10 = .ok (.iload_n 2, 1) := by decide +kernel
theorem dJ9_floorDiv_7cf53_11 : decode cJ9_floorDiv_7cf53 11 = .ok (.iload_n 1, 1) := by decide +kernel
theorem dJ9_floorDiv_7cf53_12 : decode cJ9_floorDiv_7cf53 12 = .ok (.imul, 1) := by decide +kernel
theorem dJ9_floorDiv_7cf53_13 : decode cJ9_floorDiv_7cf53 13 = .ok (.iload_n 0, 1) := by decide +kernel
theorem dJ9_floorDiv_7cf53_14 : decode cJ9_floorDiv_7cf53 14 = .ok (.if_icmp .eq 7, 3) := by decide +kernel
theorem dJ9_floorDiv_7cf53_17 : decode cJ9_floorDiv_7cf53 17 = .ok (.iload_n 2, 1) := by decide +kernel
theorem dJ9_floorDiv_7cf53_18 : decode cJ9_floorDiv_7cf53 18 = .ok (.iconst 1, 1) := by decide +kernel
theorem dJ9_floorDiv_7cf53_19 : decode cJ9_floorDiv_7cf53 19 = .ok (.isub, 1) := by decide +kernel
theorem dJ9_floorDiv_7cf53_20 : decode cJ9_floorDiv_7cf53 20 = .ok (.ireturn, 1) := by decide +kernel
theorem dJ9_floorDiv_7cf53_21 : decode cJ9_floorDiv_7cf53 21 = .ok (.iload_n 2, 1) := by decide +kernel
theorem dJ9_floorDiv_7cf53_22 : decode cJ9_floorDiv_7cf53 22 = .ok (.ireturn, 1) := by decide +kernel
theorem dJ9_abs_067f4_0 : decode cJ9_abs_067f4 0 = .ok (.lload_n 0, 1) := by decide +kernel
theorem dJ9_abs_067f4_1 : decode cJ9_abs_067f4 1 = .ok (.lconst 0, 1) := by decide +kernel
theorem dJ9_abs_067f4_2 : decode cJ9_abs_067f4 2 = .ok (.lcmp, 1) := by decide +kernel
theorem dJ9_abs_067f4_3 : decode cJ9_abs_067f4 3 = .ok (.ifCond .ge 8, 3) := by decide +kernel
theorem dJ9_abs_067f4_6 : decode cJ9_abs_067f4 6 = .ok (.lload_n 0, 1) := by decide +kernel
theorem dJ9_abs_067f4_7 : decode cJ9_abs_067f4 7 = .ok (.lneg, 1) := by decide +kernel
theorem dJ9_abs_067f4_8 : decode cJ9_abs_067f4 8 = .ok (.goto 4, 3) := by decide +kernel
theorem dJ9_abs_067f4_11 : decode cJ9_abs_067f4 11 = .ok (.lload_n 0, 1) := by decide +kernel
theorem dJ9_abs_067f4_12 : decode cJ9_abs_067f4 12 = .ok (.lreturn, 1) := by decide +kernel
theorem dJ9_max_7cf53_0 : decode cJ9_max_7cf53 0 = .ok (.iload_n 0, 1) := by decide +kernel
theorem dJ9_max_7cf53_1 : decode cJ9_max_7cf53 1 = .ok (.iload_n 1, 1) := by decide +kernel
theorem dJ9_max_7cf53_2 : decode cJ9_max_7cf53 2 = .ok (.if_icmp .lt 7, 3) := by decide +kernel
theorem dJ9_max_7cf53_5 : decode cJ9_max_7cf53 5 = .ok (.iload_n 0, 1) := by decide +kernel
theorem dJ9_max_7cf53_6 : decode cJ9_max_7cf53 6 = .ok (.goto 4, 3) := by decide +kernel
theorem dJ9_max_7cf53_9 : decode cJ9_max_7cf53 9 = .ok (.iload_n 1, 1) := by decide +kernel
theorem dJ9_max_7cf53_10 : decode cJ9_max_7cf53 10 = .ok (.ireturn, 1) := by decide +kernel
theorem dJ9_min_7cf53_0 : decode cJ9_min_7cf53 0 = .ok (.iload_n 0, 1) := by decide +kernel
theorem dJ9_min_7cf53_1 : decode cJ9_min_7cf53 1 = .ok (.iload_n 1, 1) := by decide +kernel
theorem dJ9_min_7cf53_2 : decode cJ9_min_7cf53 2 = .ok (.if_icmp .gt 7, 3) := by decide +kernel
theorem dJ9_min_7cf53_5 : decode cJ9_min_7cf53 5 = .ok (.iload_n 0, 1) := by decide +kernel
theorem dJ9_min_7cf53_6 : decode cJ9_min_7cf53 6 = .ok (.goto 4, 3) := by decide +kernel
theorem dJ9_min_7cf53_9 : decode cJ9_min_7cf53 9 = .ok (.iload_n 1, 1) := by decide +kernel
theorem dJ9_min_7cf53_10 : decode cJ9_min_7cf53 10 = .ok (.ireturn, 1) := by decide +kernel
