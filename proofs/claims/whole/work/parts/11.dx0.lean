theorem dX0_init_0 : decode cX0_init 0 = .ok (.aload_n 0, 1) := by decide +kernel
theorem dX0_init_1 : decode cX0_init 1 = .ok (.invokespecial 1, 3) := by decide +kernel
theorem dX0_init_4 : decode cX0_init 4 = .ok (.aload_n 0, 1) := by decide +kernel
theorem dX0_init_5 : decode cX0_init 5 = .ok (.iconst 1, 1) := by decide +kernel
theorem dX0_init_6 : decode cX0_init 6 = .ok (.bipush 9, 2) := by decide +kernel
theorem dX0_init_8 : decode cX0_init 8 = .ok (.iload_n 1, 1) := by decide +kernel
theorem dX0_init_9 : decode cX0_init 9 = .ok (.invokestatic 9, 3) := by decide +kernel
theorem dX0_init_12 : decode cX0_init 12 = .ok (.invokestatic 15, 3) := by decide +kernel
theorem dX0_init_15 : decode cX0_init 15 = .ok (.putfield 18, 3) := by decide +kernel
theorem dX0_init_18 : decode cX0_init 18 = .ok (.aload_n 0, 1) := by decide +kernel
theorem dX0_init_19 : decode cX0_init 19 = .ok (.iconst 1, 1) := by decide +kernel
theorem dX0_init_20 : decode cX0_init 20 = .ok (.aload_n 0, 1) := by decide +kernel
theorem dX0_init_21 : decode cX0_init 21 = .ok (.getfield 18, 3) := by decide +kernel
theorem dX0_init_24 : decode cX0_init 24 = .ok (.ishl, 1) := by decide +kernel
theorem dX0_init_25 : decode cX0_init 25 = .ok (.putfield 22, 3) := by decide +kernel
theorem dX0_init_28 : decode cX0_init 28 = .ok (.aload_n 0, 1) := by decide +kernel
theorem dX0_init_29 : decode cX0_init 29 = .ok (.iconst 1, 1) := by decide +kernel
theorem dX0_init_30 : decode cX0_init 30 = .ok (.aload_n 0, 1) := by decide +kernel
theorem dX0_init_31 : decode cX0_init 31 = .ok (.getfield 22, 3) := by decide +kernel
theorem dX0_init_34 : decode cX0_init 34 = .ok (.bipush 6, 2) := by decide +kernel
theorem dX0_init_36 : decode cX0_init 36 = .ok (.ishr, 1) := by decide +kernel
theorem dX0_init_37 : decode cX0_init 37 = .ok (.invokestatic 15, 3) := by decide +kernel
theorem dX0_init_40 : decode cX0_init 40 = .ok (.putfield 25, 3) := by decide +kernel
theorem dX0_init_43 : decode cX0_init 43 = .ok (.aload_n 0, 1) := by decide +kernel
theorem dX0_init_44 : decode cX0_init 44 = .ok (.aload_n 0, 1) := by decide +kernel
theorem dX0_init_45 : decode cX0_init 45 = .ok (.getfield 18, 3) := by decide +kernel
theorem dX0_init_48 : decode cX0_init 48 = .ok (.bipush 6, 2) := by decide +kernel
theorem dX0_init_50 : decode cX0_init 50 = .ok (.if_icmp .ge 14, 3) := by decide +kernel
theorem dX0_init_53 : decode cX0_init 53 = .ok (.lconst 1, 1) := by decide +kernel
theorem dX0_init_54 : decode cX0_init 54 = .ok (.aload_n 0, 1) := by decide +kernel
theorem dX0_init_55 : decode cX0_init 55 = .ok (.getfield 22, 3) := by decide +kernel
theorem dX0_init_58 : decode cX0_init 58 = .ok (.lshl, 1) := by decide +kernel
theorem dX0_init_59 : decode cX0_init 59 = .ok (.lconst 1, 1) := by decide +kernel
theorem dX0_init_60 : decode cX0_init 60 = .ok (.lsub, 1) := by decide +kernel
theorem dX0_init_61 : decode cX0_init 61 = .ok (.goto 6, 3) := by decide +kernel
theorem dX0_init_64 : decode cX0_init 64 = .ok (.ldc2_w 28, 3) := by decide +kernel
theorem dX0_init_67 : decode cX0_init 67 = .ok (.putfield 30, 3) := by decide +kernel
theorem dX0_init_70 : decode cX0_init 70 = .ok (.aload_n 0, 1) := by decide +kernel
theorem dX0_init_71 : decode cX0_init 71 = .ok (.bipush 32, 2) := by decide +kernel
theorem dX0_init_73 : decode cX0_init 73 = .ok (.aload_n 0, 1) := by decide +kernel
theorem dX0_init_74 : decode cX0_init 74 = .ok (.getfield 25, 3) := by decide +kernel
theorem dX0_init_77 : decode cX0_init 77 = .ok (.multianewarray 34 2, 4) := by decide +kernel
theorem dX0_init_81 : decode cX0_init 81 = .ok (.putfield 36, 3) := by decide +kernel
theorem dX0_init_84 : decode cX0_init 84 = .ok (.aload_n 0, 1) := by decide +kernel
theorem dX0_init_85 : decode cX0_init 85 = .ok (.aload_n 0, 1) := by decide +kernel
theorem dX0_init_86 : decode cX0_init 86 = .ok (.getfield 25, 3) := by decide +kernel
theorem dX0_init_89 : decode cX0_init 89 = .ok (.newarray .long, 2) := by decide +kernel
theorem dX0_init_91 : decode cX0_init 91 = .ok (.putfield 39, 3) := by decide +kernel
theorem dX0_init_94 : decode cX0_init 94 = .ok (.aload_n 0, 1) := by decide +kernel
theorem dX0_init_95 : decode cX0_init 95 = .ok (.aload_n 0, 1) := by decide +kernel
theorem dX0_init_96 : decode cX0_init 96 = .ok (.getfield 22, 3) := by decide +kernel
theorem dX0_init_99 : decode cX0_init 99 = .ok (.newarray .int, 2) := by decide +kernel
theorem dX0_init_101 : decode cX0_init 101 = .ok (.putfield 43, 3) := by decide +kernel
theorem dX0_init_104 : decode cX0_init 104 = .ok (.aload_n 0, 1) := by decide +kernel
theorem dX0_init_105 : decode cX0_init 105 = .ok (.aload_n 0, 1) := by decide +kernel
theorem dX0_init_106 : decode cX0_init 106 = .ok (.getfield 22, 3) := by decide +kernel
theorem dX0_init_109 : decode cX0_init 109 = .ok (.newarray .int, 2) := by decide +kernel
theorem dX0_init_111 : decode cX0_init 111 = .ok (.putfield 47, 3) := by decide +kernel
theorem dX0_init_114 : decode cX0_init 114 = .ok (.return_, 1) := by decide +kernel
theorem dX0_load_0 : decode cX0_load 0 = .ok (.iload_n 2, 1) := by decide +kernel
theorem dX0_load_1 : decode cX0_load 1 = .ok (.bipush (-2), 2) := by decide +kernel
theorem dX0_load_3 : decode cX0_load 3 = .ok (.if_icmp .eq 8, 3) := by decide +kernel
theorem dX0_load_6 : decode cX0_load 6 = .ok (.iload_n 2, 1) := by decide +kernel
theorem dX0_load_7 : decode cX0_load 7 = .ok (.iconst (-1), 1) := by decide +kernel
theorem dX0_load_8 : decode cX0_load 8 = .ok (.if_icmp .ne 7, 3) := by decide +kernel
theorem dX0_load_11 : decode cX0_load 11 = .ok (.iconst 1, 1) := by decide +kernel
theorem dX0_load_12 : decode cX0_load 12 = .ok (.goto 4, 3) := by decide +kernel
theorem dX0_load_15 : decode cX0_load 15 = .ok (.iconst 0, 1) := by decide +kernel
theorem dX0_load_16 : decode cX0_load 16 = .ok (.istore_n 3, 1) := by decide +kernel
theorem dX0_load_17 : decode cX0_load 17 = .ok (.iload_n 1, 1) := by decide +kernel
theorem dX0_load_18 : decode cX0_load 18 = .ok (.invokestatic 50, 3) := by decide +kernel
theorem dX0_load_21 : decode cX0_load 21 = .ok (.ifCond .eq 15, 3) := by decide +kernel
theorem dX0_load_24 : decode cX0_load 24 = .ok (.iload_n 3, 1) := by decide +kernel
theorem dX0_load_25 : decode cX0_load 25 = .ok (.ifCond .ne 13, 3) := by decide +kernel
theorem dX0_load_28 : decode cX0_load 28 = .ok (.aload_n 0, 1) := by decide +kernel
theorem dX0_load_29 : decode cX0_load 29 = .ok (.iload_n 2, 1) := by decide +kernel
theorem dX0_load_30 : decode cX0_load 30 = .ok (.invokevirtual 54, 3) := by decide +kernel
theorem dX0_load_33 : decode cX0_load 33 = .ok (.ifCond .ne 5, 3) := by decide +kernel
theorem dX0_load_36 : decode cX0_load 36 = .ok (.iconst (-1), 1) := by decide +kernel
theorem dX0_load_37 : decode cX0_load 37 = .ok (.ireturn, 1) := by decide +kernel
theorem dX0_load_38 : decode cX0_load 38 = .ok (.iconst 0, 1) := by decide +kernel
theorem dX0_load_39 : decode cX0_load 39 = .ok (.istore 4, 2) := by decide +kernel
theorem dX0_load_41 : decode cX0_load 41 = .ok (.iload 4, 2) := by decide +kernel
theorem dX0_load_43 : decode cX0_load 43 = .ok (.aload_n 0, 1) := by decide +kernel
theorem dX0_load_44 : decode cX0_load 44 = .ok (.getfield 25, 3) := by decide +kernel
theorem dX0_load_47 : decode cX0_load 47 = .ok (.if_icmp .ge 50, 3) := by decide +kernel
theorem dX0_load_50 : decode cX0_load 50 = .ok (.iload_n 3, 1) := by decide +kernel
theorem dX0_load_51 : decode cX0_load 51 = .ok (.ifCond .eq 26, 3) := by decide +kernel
theorem dX0_load_54 : decode cX0_load 54 = .ok (.aload_n 0, 1) := by decide +kernel
theorem dX0_load_55 : decode cX0_load 55 = .ok (.getfield 39, 3) := by decide +kernel
theorem dX0_load_58 : decode cX0_load 58 = .ok (.iload 4, 2) := by decide +kernel
theorem dX0_load_60 : decode cX0_load 60 = .ok (.iload_n 2, 1) := by decide +kernel
theorem dX0_load_61 : decode cX0_load 61 = .ok (.iconst (-1), 1) := by decide +kernel
theorem dX0_load_62 : decode cX0_load 62 = .ok (.if_icmp .ne 10, 3) := by decide +kernel
theorem dX0_load_65 : decode cX0_load 65 = .ok (.aload_n 0, 1) := by decide +kernel
theorem dX0_load_66 : decode cX0_load 66 = .ok (.getfield 30, 3) := by decide +kernel
theorem dX0_load_69 : decode cX0_load 69 = .ok (.goto 4, 3) := by decide +kernel
theorem dX0_load_72 : decode cX0_load 72 = .ok (.lconst 0, 1) := by decide +kernel
theorem dX0_load_73 : decode cX0_load 73 = .ok (.lastore, 1) := by decide +kernel
theorem dX0_load_74 : decode cX0_load 74 = .ok (.goto 17, 3) := by decide +kernel
theorem dX0_load_77 : decode cX0_load 77 = .ok (.aload_n 0, 1) := by decide +kernel
theorem dX0_load_78 : decode cX0_load 78 = .ok (.getfield 39, 3) := by decide +kernel
theorem dX0_load_81 : decode cX0_load 81 = .ok (.iload 4, 2) := by decide +kernel
theorem dX0_load_83 : decode cX0_load 83 = .ok (.aload_n 0, 1) := by decide +kernel
theorem dX0_load_84 : decode cX0_load 84 = .ok (.iload_n 2, 1) := by decide +kernel
theorem dX0_load_85 : decode cX0_load 85 = .ok (.iload 4, 2) := by decide +kernel
theorem dX0_load_87 : decode cX0_load 87 = .ok (.invokevirtual 57, 3) := by decide +kernel
theorem dX0_load_90 : decode cX0_load 90 = .ok (.lastore, 1) := by decide +kernel
theorem dX0_load_91 : decode cX0_load 91 = .ok (.iinc 4 1, 3) := by decide +kernel
theorem dX0_load_94 : decode cX0_load 94 = .ok (.goto (-53), 3) := by decide +kernel
theorem dX0_load_97 : decode cX0_load 97 = .ok (.aload_n 0, 1) := by decide +kernel
theorem dX0_load_98 : decode cX0_load 98 = .ok (.iload_n 1, 1) := by decide +kernel
theorem dX0_load_99 : decode cX0_load 99 = .ok (.invokevirtual 61, 3) := by decide +kernel
theorem dX0_load_102 : decode cX0_load 102 = .ok (.ireturn, 1) := by decide +kernel
theorem dX0_reckon_0 : decode cX0_reckon 0 = .ok (.iload_n 1, 1) := by decide +kernel
theorem dX0_reckon_1 : decode cX0_reckon 1 = .ok (.ifCond .lt 30, 3) := by decide +kernel
theorem dX0_reckon_4 : decode cX0_reckon 4 = .ok (.iload_n 1, 1) := by decide +kernel
theorem dX0_reckon_5 : decode cX0_reckon 5 = .ok (.iconst 4, 1) := by decide +kernel
theorem dX0_reckon_6 : decode cX0_reckon 6 = .ok (.if_icmp .gt 25, 3) := by decide +kernel
theorem dX0_reckon_9 : decode cX0_reckon 9 = .ok (.iload_n 2, 1) := by decide +kernel
theorem dX0_reckon_10 : decode cX0_reckon 10 = .ok (.invokestatic 50, 3) := by decide +kernel
theorem dX0_reckon_13 : decode cX0_reckon 13 = .ok (.ifCond .eq 18, 3) := by decide +kernel
theorem dX0_reckon_16 : decode cX0_reckon 16 = .ok (.iload_n 3, 1) := by decide +kernel
theorem dX0_reckon_17 : decode cX0_reckon 17 = .ok (.invokestatic 50, 3) := by decide +kernel
theorem dX0_reckon_20 : decode cX0_reckon 20 = .ok (.ifCond .eq 11, 3) := by decide +kernel
theorem dX0_reckon_23 : decode cX0_reckon 23 = .ok (.iload 4, 2) := by decide +kernel
theorem dX0_reckon_25 : decode cX0_reckon 25 = .ok (.invokestatic 50, 3) := by decide +kernel
theorem dX0_reckon_28 : decode cX0_reckon 28 = .ok (.ifCond .ne 5, 3) := by decide +kernel
theorem dX0_reckon_31 : decode cX0_reckon 31 = .ok (.iconst (-1), 1) := by decide +kernel
theorem dX0_reckon_32 : decode cX0_reckon 32 = .ok (.ireturn, 1) := by decide +kernel
theorem dX0_reckon_33 : decode cX0_reckon 33 = .ok (.iconst 0, 1) := by decide +kernel
theorem dX0_reckon_34 : decode cX0_reckon 34 = .ok (.istore 5, 2) := by decide +kernel
theorem dX0_reckon_36 : decode cX0_reckon 36 = .ok (.iload 5, 2) := by decide +kernel
theorem dX0_reckon_38 : decode cX0_reckon 38 = .ok (.aload_n 0, 1) := by decide +kernel
theorem dX0_reckon_39 : decode cX0_reckon 39 = .ok (.getfield 25, 3) := by decide +kernel
theorem dX0_reckon_42 : decode cX0_reckon 42 = .ok (.if_icmp .ge 44, 3) := by decide +kernel
theorem dX0_reckon_45 : decode cX0_reckon 45 = .ok (.aload_n 0, 1) := by decide +kernel
theorem dX0_reckon_46 : decode cX0_reckon 46 = .ok (.getfield 39, 3) := by decide +kernel
theorem dX0_reckon_49 : decode cX0_reckon 49 = .ok (.iload 5, 2) := by decide +kernel
theorem dX0_reckon_51 : decode cX0_reckon 51 = .ok (.iload_n 1, 1) := by decide +kernel
theorem dX0_reckon_52 : decode cX0_reckon 52 = .ok (.aload_n 0, 1) := by decide +kernel
theorem dX0_reckon_53 : decode cX0_reckon 53 = .ok (.getfield 36, 3) := by decide +kernel
theorem dX0_reckon_56 : decode cX0_reckon 56 = .ok (.iload_n 3, 1) := by decide +kernel
theorem dX0_reckon_57 : decode cX0_reckon 57 = .ok (.aaload, 1) := by decide +kernel
theorem dX0_reckon_58 : decode cX0_reckon 58 = .ok (.iload 5, 2) := by decide +kernel
theorem dX0_reckon_60 : decode cX0_reckon 60 = .ok (.laload, 1) := by decide +kernel
theorem dX0_reckon_61 : decode cX0_reckon 61 = .ok (.aload_n 0, 1) := by decide +kernel
theorem dX0_reckon_62 : decode cX0_reckon 62 = .ok (.getfield 36, 3) := by decide +kernel
theorem dX0_reckon_65 : decode cX0_reckon 65 = .ok (.iload 4, 2) := by decide +kernel
theorem dX0_reckon_67 : decode cX0_reckon 67 = .ok (.aaload, 1) := by decide +kernel
theorem dX0_reckon_68 : decode cX0_reckon 68 = .ok (.iload 5, 2) := by decide +kernel
theorem dX0_reckon_70 : decode cX0_reckon 70 = .ok (.laload, 1) := by decide +kernel
theorem dX0_reckon_71 : decode cX0_reckon 71 = .ok (.invokestatic 65, 3) := by decide +kernel
theorem dX0_reckon_74 : decode cX0_reckon 74 = .ok (.aload_n 0, 1) := by decide +kernel
theorem dX0_reckon_75 : decode cX0_reckon 75 = .ok (.getfield 30, 3) := by decide +kernel
theorem dX0_reckon_78 : decode cX0_reckon 78 = .ok (.land, 1) := by decide +kernel
theorem dX0_reckon_79 : decode cX0_reckon 79 = .ok (.lastore, 1) := by decide +kernel
theorem dX0_reckon_80 : decode cX0_reckon 80 = .ok (.iinc 5 1, 3) := by decide +kernel
theorem dX0_reckon_83 : decode cX0_reckon 83 = .ok (.goto (-47), 3) := by decide +kernel
theorem dX0_reckon_86 : decode cX0_reckon 86 = .ok (.aload_n 0, 1) := by decide +kernel
theorem dX0_reckon_87 : decode cX0_reckon 87 = .ok (.iload_n 2, 1) := by decide +kernel
theorem dX0_reckon_88 : decode cX0_reckon 88 = .ok (.invokevirtual 61, 3) := by decide +kernel
theorem dX0_reckon_91 : decode cX0_reckon 91 = .ok (.ireturn, 1) := by decide +kernel
theorem dX0_not_0 : decode cX0_not 0 = .ok (.iload_n 1, 1) := by decide +kernel
theorem dX0_not_1 : decode cX0_not 1 = .ok (.invokestatic 50, 3) := by decide +kernel
theorem dX0_not_4 : decode cX0_not 4 = .ok (.ifCond .eq 10, 3) := by decide +kernel
theorem dX0_not_7 : decode cX0_not 7 = .ok (.iload_n 2, 1) := by decide +kernel
theorem dX0_not_8 : decode cX0_not 8 = .ok (.invokestatic 50, 3) := by decide +kernel
theorem dX0_not_11 : decode cX0_not 11 = .ok (.ifCond .ne 5, 3) := by decide +kernel
theorem dX0_not_14 : decode cX0_not 14 = .ok (.iconst (-1), 1) := by decide +kernel
theorem dX0_not_15 : decode cX0_not 15 = .ok (.ireturn, 1) := by decide +kernel
theorem dX0_not_16 : decode cX0_not 16 = .ok (.iconst 0, 1) := by decide +kernel
theorem dX0_not_17 : decode cX0_not 17 = .ok (.istore_n 3, 1) := by decide +kernel
theorem dX0_not_18 : decode cX0_not 18 = .ok (.iload_n 3, 1) := by decide +kernel
theorem dX0_not_19 : decode cX0_not 19 = .ok (.aload_n 0, 1) := by decide +kernel
theorem dX0_not_20 : decode cX0_not 20 = .ok (.getfield 25, 3) := by decide +kernel
theorem dX0_not_23 : decode cX0_not 23 = .ok (.if_icmp .ge 32, 3) := by decide +kernel
theorem dX0_not_26 : decode cX0_not 26 = .ok (.aload_n 0, 1) := by decide +kernel
theorem dX0_not_27 : decode cX0_not 27 = .ok (.getfield 39, 3) := by decide +kernel
theorem dX0_not_30 : decode cX0_not 30 = .ok (.iload_n 3, 1) := by decide +kernel
theorem dX0_not_31 : decode cX0_not 31 = .ok (.aload_n 0, 1) := by decide +kernel
theorem dX0_not_32 : decode cX0_not 32 = .ok (.getfield 36, 3) := by decide +kernel
theorem dX0_not_35 : decode cX0_not 35 = .ok (.iload_n 2, 1) := by decide +kernel
theorem dX0_not_36 : decode cX0_not 36 = .ok (.aaload, 1) := by decide +kernel
theorem dX0_not_37 : decode cX0_not 37 = .ok (.iload_n 3, 1) := by decide +kernel
theorem dX0_not_38 : decode cX0_not 38 = .ok (.laload, 1) := by decide +kernel
theorem dX0_not_39 : decode cX0_not 39 = .ok (.ldc2_w 28, 3) := by decide +kernel
theorem dX0_not_42 : decode cX0_not 42 = .ok (.lxor, 1) := by decide +kernel
theorem dX0_not_43 : decode cX0_not 43 = .ok (.aload_n 0, 1) := by decide +kernel
theorem dX0_not_44 : decode cX0_not 44 = .ok (.getfield 30, 3) := by decide +kernel
theorem dX0_not_47 : decode cX0_not 47 = .ok (.land, 1) := by decide +kernel
theorem dX0_not_48 : decode cX0_not 48 = .ok (.lastore, 1) := by decide +kernel
theorem dX0_not_49 : decode cX0_not 49 = .ok (.iinc 3 1, 3) := by decide +kernel
theorem dX0_not_52 : decode cX0_not 52 = .ok (.goto (-34), 3) := by decide +kernel
theorem dX0_not_55 : decode cX0_not 55 = .ok (.aload_n 0, 1) := by decide +kernel
theorem dX0_not_56 : decode cX0_not 56 = .ok (.iload_n 1, 1) := by decide +kernel
theorem dX0_not_57 : decode cX0_not 57 = .ok (.invokevirtual 61, 3) := by decide +kernel
theorem dX0_not_60 : decode cX0_not 60 = .ok (.ireturn, 1) := by decide +kernel
theorem dX0_with_0 : decode cX0_with 0 = .ok (.iload_n 1, 1) := by decide +kernel
theorem dX0_with_1 : decode cX0_with 1 = .ok (.invokestatic 50, 3) := by decide +kernel
theorem dX0_with_4 : decode cX0_with 4 = .ok (.ifCond .eq 18, 3) := by decide +kernel
theorem dX0_with_7 : decode cX0_with 7 = .ok (.iload_n 2, 1) := by decide +kernel
theorem dX0_with_8 : decode cX0_with 8 = .ok (.invokestatic 50, 3) := by decide +kernel
theorem dX0_with_11 : decode cX0_with 11 = .ok (.ifCond .eq 11, 3) := by decide +kernel
theorem dX0_with_14 : decode cX0_with 14 = .ok (.aload_n 0, 1) := by decide +kernel
theorem dX0_with_15 : decode cX0_with 15 = .ok (.iload_n 3, 1) := by decide +kernel
theorem dX0_with_16 : decode cX0_with 16 = .ok (.invokevirtual 54, 3) := by decide +kernel
theorem dX0_with_19 : decode cX0_with 19 = .ok (.ifCond .ne 5, 3) := by decide +kernel
theorem dX0_with_22 : decode cX0_with 22 = .ok (.iconst (-1), 1) := by decide +kernel
theorem dX0_with_23 : decode cX0_with 23 = .ok (.ireturn, 1) := by decide +kernel
theorem dX0_with_24 : decode cX0_with 24 = .ok (.iconst 0, 1) := by decide +kernel
theorem dX0_with_25 : decode cX0_with 25 = .ok (.istore 5, 2) := by decide +kernel
theorem dX0_with_27 : decode cX0_with 27 = .ok (.iload 5, 2) := by decide +kernel
theorem dX0_with_29 : decode cX0_with 29 = .ok (.aload_n 0, 1) := by decide +kernel
theorem dX0_with_30 : decode cX0_with 30 = .ok (.getfield 25, 3) := by decide +kernel
theorem dX0_with_33 : decode cX0_with 33 = .ok (.if_icmp .ge 31, 3) := by decide +kernel
theorem dX0_with_36 : decode cX0_with 36 = .ok (.aload_n 0, 1) := by decide +kernel
theorem dX0_with_37 : decode cX0_with 37 = .ok (.getfield 39, 3) := by decide +kernel
theorem dX0_with_40 : decode cX0_with 40 = .ok (.iload 5, 2) := by decide +kernel
theorem dX0_with_42 : decode cX0_with 42 = .ok (.aload_n 0, 1) := by decide +kernel
theorem dX0_with_43 : decode cX0_with 43 = .ok (.aload_n 0, 1) := by decide +kernel
theorem dX0_with_44 : decode cX0_with 44 = .ok (.getfield 36, 3) := by decide +kernel
theorem dX0_with_47 : decode cX0_with 47 = .ok (.iload_n 2, 1) := by decide +kernel
theorem dX0_with_48 : decode cX0_with 48 = .ok (.aaload, 1) := by decide +kernel
theorem dX0_with_49 : decode cX0_with 49 = .ok (.iload_n 3, 1) := by decide +kernel
theorem dX0_with_50 : decode cX0_with 50 = .ok (.iload 4, 2) := by decide +kernel
theorem dX0_with_52 : decode cX0_with 52 = .ok (.iload 5, 2) := by decide +kernel
theorem dX0_with_54 : decode cX0_with 54 = .ok (.invokevirtual 69, 3) := by decide +kernel
theorem dX0_with_57 : decode cX0_with 57 = .ok (.lastore, 1) := by decide +kernel
theorem dX0_with_58 : decode cX0_with 58 = .ok (.iinc 5 1, 3) := by decide +kernel
theorem dX0_with_61 : decode cX0_with 61 = .ok (.goto (-34), 3) := by decide +kernel
theorem dX0_with_64 : decode cX0_with 64 = .ok (.aload_n 0, 1) := by decide +kernel
theorem dX0_with_65 : decode cX0_with 65 = .ok (.iload_n 1, 1) := by decide +kernel
theorem dX0_with_66 : decode cX0_with 66 = .ok (.invokevirtual 61, 3) := by decide +kernel
theorem dX0_with_69 : decode cX0_with 69 = .ok (.ireturn, 1) := by decide +kernel
theorem dX0_bind_0 : decode cX0_bind 0 = .ok (.iload_n 1, 1) := by decide +kernel
theorem dX0_bind_1 : decode cX0_bind 1 = .ok (.invokestatic 50, 3) := by decide +kernel
theorem dX0_bind_4 : decode cX0_bind 4 = .ok (.ifCond .eq 18, 3) := by decide +kernel
theorem dX0_bind_7 : decode cX0_bind 7 = .ok (.iload_n 2, 1) := by decide +kernel
theorem dX0_bind_8 : decode cX0_bind 8 = .ok (.invokestatic 50, 3) := by decide +kernel
theorem dX0_bind_11 : decode cX0_bind 11 = .ok (.ifCond .eq 11, 3) := by decide +kernel
theorem dX0_bind_14 : decode cX0_bind 14 = .ok (.aload_n 0, 1) := by decide +kernel
theorem dX0_bind_15 : decode cX0_bind 15 = .ok (.iload_n 3, 1) := by decide +kernel
theorem dX0_bind_16 : decode cX0_bind 16 = .ok (.invokevirtual 54, 3) := by decide +kernel
theorem dX0_bind_19 : decode cX0_bind 19 = .ok (.ifCond .ne 5, 3) := by decide +kernel
theorem dX0_bind_22 : decode cX0_bind 22 = .ok (.iconst (-1), 1) := by decide +kernel
theorem dX0_bind_23 : decode cX0_bind 23 = .ok (.ireturn, 1) := by decide +kernel
theorem dX0_bind_24 : decode cX0_bind 24 = .ok (.iconst 0, 1) := by decide +kernel
theorem dX0_bind_25 : decode cX0_bind 25 = .ok (.istore 5, 2) := by decide +kernel
theorem dX0_bind_27 : decode cX0_bind 27 = .ok (.iload 5, 2) := by decide +kernel
theorem dX0_bind_29 : decode cX0_bind 29 = .ok (.aload_n 0, 1) := by decide +kernel
theorem dX0_bind_30 : decode cX0_bind 30 = .ok (.getfield 25, 3) := by decide +kernel
theorem dX0_bind_33 : decode cX0_bind 33 = .ok (.if_icmp .ge 60, 3) := by decide +kernel
theorem dX0_bind_36 : decode cX0_bind 36 = .ok (.aload_n 0, 1) := by decide +kernel
theorem dX0_bind_37 : decode cX0_bind 37 = .ok (.getfield 36, 3) := by decide +kernel
theorem dX0_bind_40 : decode cX0_bind 40 = .ok (.iload_n 2, 1) := by decide +kernel
theorem dX0_bind_41 : decode cX0_bind 41 = .ok (.aaload, 1) := by decide +kernel
theorem dX0_bind_42 : decode cX0_bind 42 = .ok (.iload 5, 2) := by decide +kernel
theorem dX0_bind_44 : decode cX0_bind 44 = .ok (.laload, 1) := by decide +kernel
theorem dX0_bind_45 : decode cX0_bind 45 = .ok (.lstore 6, 2) := by decide +kernel
theorem dX0_bind_47 : decode cX0_bind 47 = .ok (.aload_n 0, 1) := by decide +kernel
theorem dX0_bind_48 : decode cX0_bind 48 = .ok (.aload_n 0, 1) := by decide +kernel
theorem dX0_bind_49 : decode cX0_bind 49 = .ok (.getfield 36, 3) := by decide +kernel
theorem dX0_bind_52 : decode cX0_bind 52 = .ok (.iload_n 2, 1) := by decide +kernel
theorem dX0_bind_53 : decode cX0_bind 53 = .ok (.aaload, 1) := by decide +kernel
theorem dX0_bind_54 : decode cX0_bind 54 = .ok (.iload_n 3, 1) := by decide +kernel
theorem dX0_bind_55 : decode cX0_bind 55 = .ok (.iload 5, 2) := by decide +kernel
theorem dX0_bind_57 : decode cX0_bind 57 = .ok (.invokevirtual 73, 3) := by decide +kernel
theorem dX0_bind_60 : decode cX0_bind 60 = .ok (.lstore 8, 2) := by decide +kernel
theorem dX0_bind_62 : decode cX0_bind 62 = .ok (.aload_n 0, 1) := by decide +kernel
theorem dX0_bind_63 : decode cX0_bind 63 = .ok (.getfield 39, 3) := by decide +kernel
theorem dX0_bind_66 : decode cX0_bind 66 = .ok (.iload 5, 2) := by decide +kernel
theorem dX0_bind_68 : decode cX0_bind 68 = .ok (.iload 4, 2) := by decide +kernel
theorem dX0_bind_70 : decode cX0_bind 70 = .ok (.ifCond .eq 11, 3) := by decide +kernel
theorem dX0_bind_73 : decode cX0_bind 73 = .ok (.lload 6, 2) := by decide +kernel
theorem dX0_bind_75 : decode cX0_bind 75 = .ok (.lload 8, 2) := by decide +kernel
theorem dX0_bind_77 : decode cX0_bind 77 = .ok (.land, 1) := by decide +kernel
theorem dX0_bind_78 : decode cX0_bind 78 = .ok (.goto 8, 3) := by decide +kernel
theorem dX0_bind_81 : decode cX0_bind 81 = .ok (.lload 6, 2) := by decide +kernel
theorem dX0_bind_83 : decode cX0_bind 83 = .ok (.lload 8, 2) := by decide +kernel
theorem dX0_bind_85 : decode cX0_bind 85 = .ok (.lor, 1) := by decide +kernel
theorem dX0_bind_86 : decode cX0_bind 86 = .ok (.lastore, 1) := by decide +kernel
theorem dX0_bind_87 : decode cX0_bind 87 = .ok (.iinc 5 1, 3) := by decide +kernel
theorem dX0_bind_90 : decode cX0_bind 90 = .ok (.goto (-63), 3) := by decide +kernel
theorem dX0_bind_93 : decode cX0_bind 93 = .ok (.aload_n 0, 1) := by decide +kernel
theorem dX0_bind_94 : decode cX0_bind 94 = .ok (.iload_n 1, 1) := by decide +kernel
theorem dX0_bind_95 : decode cX0_bind 95 = .ok (.invokevirtual 61, 3) := by decide +kernel
theorem dX0_bind_98 : decode cX0_bind 98 = .ok (.ireturn, 1) := by decide +kernel
theorem dX0_put_0 : decode cX0_put 0 = .ok (.iload_n 1, 1) := by decide +kernel
theorem dX0_put_1 : decode cX0_put 1 = .ok (.invokestatic 50, 3) := by decide +kernel
theorem dX0_put_4 : decode cX0_put 4 = .ok (.ifCond .eq 26, 3) := by decide +kernel
theorem dX0_put_7 : decode cX0_put 7 = .ok (.iload_n 2, 1) := by decide +kernel
theorem dX0_put_8 : decode cX0_put 8 = .ok (.invokestatic 50, 3) := by decide +kernel
theorem dX0_put_11 : decode cX0_put 11 = .ok (.ifCond .eq 19, 3) := by decide +kernel
theorem dX0_put_14 : decode cX0_put 14 = .ok (.aload_n 0, 1) := by decide +kernel
theorem dX0_put_15 : decode cX0_put 15 = .ok (.iload_n 3, 1) := by decide +kernel
theorem dX0_put_16 : decode cX0_put 16 = .ok (.invokevirtual 54, 3) := by decide +kernel
theorem dX0_put_19 : decode cX0_put 19 = .ok (.ifCond .eq 11, 3) := by decide +kernel
theorem dX0_put_22 : decode cX0_put 22 = .ok (.iload 4, 2) := by decide +kernel
theorem dX0_put_24 : decode cX0_put 24 = .ok (.invokestatic 50, 3) := by decide +kernel
theorem dX0_put_27 : decode cX0_put 27 = .ok (.ifCond .ne 5, 3) := by decide +kernel
theorem dX0_put_30 : decode cX0_put 30 = .ok (.iconst (-1), 1) := by decide +kernel
theorem dX0_put_31 : decode cX0_put 31 = .ok (.ireturn, 1) := by decide +kernel
theorem dX0_put_32 : decode cX0_put 32 = .ok (.iconst 0, 1) := by decide +kernel
theorem dX0_put_33 : decode cX0_put 33 = .ok (.istore 5, 2) := by decide +kernel
theorem dX0_put_35 : decode cX0_put 35 = .ok (.iload 5, 2) := by decide +kernel
theorem dX0_put_37 : decode cX0_put 37 = .ok (.aload_n 0, 1) := by decide +kernel
theorem dX0_put_38 : decode cX0_put 38 = .ok (.getfield 25, 3) := by decide +kernel
theorem dX0_put_41 : decode cX0_put 41 = .ok (.if_icmp .ge 67, 3) := by decide +kernel
theorem dX0_put_44 : decode cX0_put 44 = .ok (.aload_n 0, 1) := by decide +kernel
theorem dX0_put_45 : decode cX0_put 45 = .ok (.getfield 36, 3) := by decide +kernel
theorem dX0_put_48 : decode cX0_put 48 = .ok (.iload 4, 2) := by decide +kernel
theorem dX0_put_50 : decode cX0_put 50 = .ok (.aaload, 1) := by decide +kernel
theorem dX0_put_51 : decode cX0_put 51 = .ok (.iload 5, 2) := by decide +kernel
theorem dX0_put_53 : decode cX0_put 53 = .ok (.laload, 1) := by decide +kernel
theorem dX0_put_54 : decode cX0_put 54 = .ok (.lstore 6, 2) := by decide +kernel
theorem dX0_put_56 : decode cX0_put 56 = .ok (.aload_n 0, 1) := by decide +kernel
theorem dX0_put_57 : decode cX0_put 57 = .ok (.getfield 39, 3) := by decide +kernel
theorem dX0_put_60 : decode cX0_put 60 = .ok (.iload 5, 2) := by decide +kernel
theorem dX0_put_62 : decode cX0_put 62 = .ok (.lload 6, 2) := by decide +kernel
theorem dX0_put_64 : decode cX0_put 64 = .ok (.aload_n 0, 1) := by decide +kernel
theorem dX0_put_65 : decode cX0_put 65 = .ok (.aload_n 0, 1) := by decide +kernel
theorem dX0_put_66 : decode cX0_put 66 = .ok (.getfield 36, 3) := by decide +kernel
theorem dX0_put_69 : decode cX0_put 69 = .ok (.iload_n 2, 1) := by decide +kernel
theorem dX0_put_70 : decode cX0_put 70 = .ok (.aaload, 1) := by decide +kernel
theorem dX0_put_71 : decode cX0_put 71 = .ok (.iload_n 3, 1) := by decide +kernel
theorem dX0_put_72 : decode cX0_put 72 = .ok (.iconst 1, 1) := by decide +kernel
theorem dX0_put_73 : decode cX0_put 73 = .ok (.iload 5, 2) := by decide +kernel
theorem dX0_put_75 : decode cX0_put 75 = .ok (.invokevirtual 69, 3) := by decide +kernel
theorem dX0_put_78 : decode cX0_put 78 = .ok (.land, 1) := by decide +kernel
theorem dX0_put_79 : decode cX0_put 79 = .ok (.lload 6, 2) := by decide +kernel
theorem dX0_put_81 : decode cX0_put 81 = .ok (.ldc2_w 28, 3) := by decide +kernel
theorem dX0_put_84 : decode cX0_put 84 = .ok (.lxor, 1) := by decide +kernel
theorem dX0_put_85 : decode cX0_put 85 = .ok (.aload_n 0, 1) := by decide +kernel
theorem dX0_put_86 : decode cX0_put 86 = .ok (.aload_n 0, 1) := by decide +kernel
theorem dX0_put_87 : decode cX0_put 87 = .ok (.getfield 36, 3) := by decide +kernel
theorem dX0_put_90 : decode cX0_put 90 = .ok (.iload_n 2, 1) := by decide +kernel
theorem dX0_put_91 : decode cX0_put 91 = .ok (.aaload, 1) := by decide +kernel
theorem dX0_put_92 : decode cX0_put 92 = .ok (.iload_n 3, 1) := by decide +kernel
theorem dX0_put_93 : decode cX0_put 93 = .ok (.iconst 0, 1) := by decide +kernel
theorem dX0_put_94 : decode cX0_put 94 = .ok (.iload 5, 2) := by decide +kernel
theorem dX0_put_96 : decode cX0_put 96 = .ok (.invokevirtual 69, 3) := by decide +kernel
theorem dX0_put_99 : decode cX0_put 99 = .ok (.land, 1) := by decide +kernel
theorem dX0_put_100 : decode cX0_put 100 = .ok (.lor, 1) := by decide +kernel
theorem dX0_put_101 : decode cX0_put 101 = .ok (.lastore, 1) := by decide +kernel
theorem dX0_put_102 : decode cX0_put 102 = .ok (.iinc 5 1, 3) := by decide +kernel
theorem dX0_put_105 : decode cX0_put 105 = .ok (.goto (-70), 3) := by decide +kernel
theorem dX0_put_108 : decode cX0_put 108 = .ok (.aload_n 0, 1) := by decide +kernel
theorem dX0_put_109 : decode cX0_put 109 = .ok (.iload_n 1, 1) := by decide +kernel
theorem dX0_put_110 : decode cX0_put 110 = .ok (.invokevirtual 61, 3) := by decide +kernel
theorem dX0_put_113 : decode cX0_put 113 = .ok (.ireturn, 1) := by decide +kernel
theorem dX0_many_0 : decode cX0_many 0 = .ok (.iload_n 1, 1) := by decide +kernel
theorem dX0_many_1 : decode cX0_many 1 = .ok (.invokestatic 50, 3) := by decide +kernel
theorem dX0_many_4 : decode cX0_many 4 = .ok (.ifCond .eq 16, 3) := by decide +kernel
theorem dX0_many_7 : decode cX0_many 7 = .ok (.aload_n 0, 1) := by decide +kernel
theorem dX0_many_8 : decode cX0_many 8 = .ok (.aload_n 0, 1) := by decide +kernel
theorem dX0_many_9 : decode cX0_many 9 = .ok (.getfield 36, 3) := by decide +kernel
theorem dX0_many_12 : decode cX0_many 12 = .ok (.iload_n 1, 1) := by decide +kernel
theorem dX0_many_13 : decode cX0_many 13 = .ok (.aaload, 1) := by decide +kernel
theorem dX0_many_14 : decode cX0_many 14 = .ok (.invokevirtual 77, 3) := by decide +kernel
theorem dX0_many_17 : decode cX0_many 17 = .ok (.goto 4, 3) := by decide +kernel
theorem dX0_many_20 : decode cX0_many 20 = .ok (.iconst (-1), 1) := by decide +kernel
theorem dX0_many_21 : decode cX0_many 21 = .ok (.ireturn, 1) := by decide +kernel
theorem dX0_nth_0 : decode cX0_nth 0 = .ok (.iload_n 1, 1) := by decide +kernel
theorem dX0_nth_1 : decode cX0_nth 1 = .ok (.invokestatic 50, 3) := by decide +kernel
theorem dX0_nth_4 : decode cX0_nth 4 = .ok (.ifCond .ne 5, 3) := by decide +kernel
theorem dX0_nth_7 : decode cX0_nth 7 = .ok (.iconst (-1), 1) := by decide +kernel
theorem dX0_nth_8 : decode cX0_nth 8 = .ok (.ireturn, 1) := by decide +kernel
theorem dX0_nth_9 : decode cX0_nth 9 = .ok (.iconst 0, 1) := by decide +kernel
theorem dX0_nth_10 : decode cX0_nth 10 = .ok (.istore_n 3, 1) := by decide +kernel
theorem dX0_nth_11 : decode cX0_nth 11 = .ok (.iconst 0, 1) := by decide +kernel
theorem dX0_nth_12 : decode cX0_nth 12 = .ok (.istore 4, 2) := by decide +kernel
theorem dX0_nth_14 : decode cX0_nth 14 = .ok (.iload 4, 2) := by decide +kernel
theorem dX0_nth_16 : decode cX0_nth 16 = .ok (.aload_n 0, 1) := by decide +kernel
theorem dX0_nth_17 : decode cX0_nth 17 = .ok (.getfield 22, 3) := by decide +kernel
theorem dX0_nth_20 : decode cX0_nth 20 = .ok (.if_icmp .ge 35, 3) := by decide +kernel
theorem dX0_nth_23 : decode cX0_nth 23 = .ok (.aload_n 0, 1) := by decide +kernel
theorem dX0_nth_24 : decode cX0_nth 24 = .ok (.getfield 36, 3) := by decide +kernel
theorem dX0_nth_27 : decode cX0_nth 27 = .ok (.iload_n 1, 1) := by decide +kernel
theorem dX0_nth_28 : decode cX0_nth 28 = .ok (.aaload, 1) := by decide +kernel
theorem dX0_nth_29 : decode cX0_nth 29 = .ok (.iload 4, 2) := by decide +kernel
theorem dX0_nth_31 : decode cX0_nth 31 = .ok (.invokestatic 81, 3) := by decide +kernel
theorem dX0_nth_34 : decode cX0_nth 34 = .ok (.iconst 1, 1) := by decide +kernel
theorem dX0_nth_35 : decode cX0_nth 35 = .ok (.if_icmp .ne 14, 3) := by decide +kernel
theorem dX0_nth_38 : decode cX0_nth 38 = .ok (.iload_n 3, 1) := by decide +kernel
theorem dX0_nth_39 : decode cX0_nth 39 = .ok (.iload_n 2, 1) := by decide +kernel
theorem dX0_nth_40 : decode cX0_nth 40 = .ok (.if_icmp .ne 6, 3) := by decide +kernel
theorem dX0_nth_43 : decode cX0_nth 43 = .ok (.iload 4, 2) := by decide +kernel
theorem dX0_nth_45 : decode cX0_nth 45 = .ok (.ireturn, 1) := by decide +kernel
theorem dX0_nth_46 : decode cX0_nth 46 = .ok (.iinc 3 1, 3) := by decide +kernel
theorem dX0_nth_49 : decode cX0_nth 49 = .ok (.iinc 4 1, 3) := by decide +kernel
theorem dX0_nth_52 : decode cX0_nth 52 = .ok (.goto (-38), 3) := by decide +kernel
theorem dX0_nth_55 : decode cX0_nth 55 = .ok (.bipush (-2), 2) := by decide +kernel
theorem dX0_nth_57 : decode cX0_nth 57 = .ok (.ireturn, 1) := by decide +kernel
theorem dX0_value_0 : decode cX0_value 0 = .ok (.iload_n 1, 1) := by decide +kernel
theorem dX0_value_1 : decode cX0_value 1 = .ok (.invokestatic 50, 3) := by decide +kernel
theorem dX0_value_4 : decode cX0_value 4 = .ok (.ifCond .eq 15, 3) := by decide +kernel
theorem dX0_value_7 : decode cX0_value 7 = .ok (.iload_n 2, 1) := by decide +kernel
theorem dX0_value_8 : decode cX0_value 8 = .ok (.ifCond .lt 11, 3) := by decide +kernel
theorem dX0_value_11 : decode cX0_value 11 = .ok (.iload_n 2, 1) := by decide +kernel
theorem dX0_value_12 : decode cX0_value 12 = .ok (.aload_n 0, 1) := by decide +kernel
theorem dX0_value_13 : decode cX0_value 13 = .ok (.getfield 22, 3) := by decide +kernel
theorem dX0_value_16 : decode cX0_value 16 = .ok (.if_icmp .lt 5, 3) := by decide +kernel
theorem dX0_value_19 : decode cX0_value 19 = .ok (.iconst (-1), 1) := by decide +kernel
theorem dX0_value_20 : decode cX0_value 20 = .ok (.ireturn, 1) := by decide +kernel
theorem dX0_value_21 : decode cX0_value 21 = .ok (.aload_n 0, 1) := by decide +kernel
theorem dX0_value_22 : decode cX0_value 22 = .ok (.getfield 36, 3) := by decide +kernel
theorem dX0_value_25 : decode cX0_value 25 = .ok (.iload_n 1, 1) := by decide +kernel
theorem dX0_value_26 : decode cX0_value 26 = .ok (.aaload, 1) := by decide +kernel
theorem dX0_value_27 : decode cX0_value 27 = .ok (.iload_n 2, 1) := by decide +kernel
theorem dX0_value_28 : decode cX0_value 28 = .ok (.invokestatic 81, 3) := by decide +kernel
theorem dX0_value_31 : decode cX0_value 31 = .ok (.ireturn, 1) := by decide +kernel
theorem dX0_same_0 : decode cX0_same 0 = .ok (.iload_n 1, 1) := by decide +kernel
theorem dX0_same_1 : decode cX0_same 1 = .ok (.invokestatic 50, 3) := by decide +kernel
theorem dX0_same_4 : decode cX0_same 4 = .ok (.ifCond .eq 10, 3) := by decide +kernel
theorem dX0_same_7 : decode cX0_same 7 = .ok (.iload_n 2, 1) := by decide +kernel
theorem dX0_same_8 : decode cX0_same 8 = .ok (.invokestatic 50, 3) := by decide +kernel
theorem dX0_same_11 : decode cX0_same 11 = .ok (.ifCond .ne 5, 3) := by decide +kernel
theorem dX0_same_14 : decode cX0_same 14 = .ok (.iconst 0, 1) := by decide +kernel
theorem dX0_same_15 : decode cX0_same 15 = .ok (.ireturn, 1) := by decide +kernel
theorem dX0_same_16 : decode cX0_same 16 = .ok (.iconst 0, 1) := by decide +kernel
theorem dX0_same_17 : decode cX0_same 17 = .ok (.istore_n 3, 1) := by decide +kernel
theorem dX0_same_18 : decode cX0_same 18 = .ok (.iload_n 3, 1) := by decide +kernel
theorem dX0_same_19 : decode cX0_same 19 = .ok (.aload_n 0, 1) := by decide +kernel
theorem dX0_same_20 : decode cX0_same 20 = .ok (.getfield 25, 3) := by decide +kernel
theorem dX0_same_23 : decode cX0_same 23 = .ok (.if_icmp .ge 31, 3) := by decide +kernel
theorem dX0_same_26 : decode cX0_same 26 = .ok (.aload_n 0, 1) := by decide +kernel
theorem dX0_same_27 : decode cX0_same 27 = .ok (.getfield 36, 3) := by decide +kernel
theorem dX0_same_30 : decode cX0_same 30 = .ok (.iload_n 1, 1) := by decide +kernel
theorem dX0_same_31 : decode cX0_same 31 = .ok (.aaload, 1) := by decide +kernel
theorem dX0_same_32 : decode cX0_same 32 = .ok (.iload_n 3, 1) := by decide +kernel
theorem dX0_same_33 : decode cX0_same 33 = .ok (.laload, 1) := by decide +kernel
theorem dX0_same_34 : decode cX0_same 34 = .ok (.aload_n 0, 1) := by decide +kernel
theorem dX0_same_35 : decode cX0_same 35 = .ok (.getfield 36, 3) := by decide +kernel
theorem dX0_same_38 : decode cX0_same 38 = .ok (.iload_n 2, 1) := by decide +kernel
theorem dX0_same_39 : decode cX0_same 39 = .ok (.aaload, 1) := by decide +kernel
theorem dX0_same_40 : decode cX0_same 40 = .ok (.iload_n 3, 1) := by decide +kernel
theorem dX0_same_41 : decode cX0_same 41 = .ok (.laload, 1) := by decide +kernel
theorem dX0_same_42 : decode cX0_same 42 = .ok (.lcmp, 1) := by decide +kernel
theorem dX0_same_43 : decode cX0_same 43 = .ok (.ifCond .eq 5, 3) := by decide +kernel
theorem dX0_same_46 : decode cX0_same 46 = .ok (.iconst 0, 1) := by decide +kernel
theorem dX0_same_47 : decode cX0_same 47 = .ok (.ireturn, 1) := by decide +kernel
theorem dX0_same_48 : decode cX0_same 48 = .ok (.iinc 3 1, 3) := by decide +kernel
theorem dX0_same_51 : decode cX0_same 51 = .ok (.goto (-33), 3) := by decide +kernel
theorem dX0_same_54 : decode cX0_same 54 = .ok (.iconst 1, 1) := by decide +kernel
theorem dX0_same_55 : decode cX0_same 55 = .ok (.ireturn, 1) := by decide +kernel
theorem dX0_size_0 : decode cX0_size 0 = .ok (.iload_n 1, 1) := by decide +kernel
theorem dX0_size_1 : decode cX0_size 1 = .ok (.invokestatic 50, 3) := by decide +kernel
theorem dX0_size_4 : decode cX0_size 4 = .ok (.ifCond .ne 5, 3) := by decide +kernel
theorem dX0_size_7 : decode cX0_size 7 = .ok (.iconst (-1), 1) := by decide +kernel
theorem dX0_size_8 : decode cX0_size 8 = .ok (.ireturn, 1) := by decide +kernel
theorem dX0_size_9 : decode cX0_size 9 = .ok (.iconst 0, 1) := by decide +kernel
theorem dX0_size_10 : decode cX0_size 10 = .ok (.istore_n 2, 1) := by decide +kernel
theorem dX0_size_11 : decode cX0_size 11 = .ok (.iload_n 2, 1) := by decide +kernel
theorem dX0_size_12 : decode cX0_size 12 = .ok (.aload_n 0, 1) := by decide +kernel
theorem dX0_size_13 : decode cX0_size 13 = .ok (.getfield 22, 3) := by decide +kernel
theorem dX0_size_16 : decode cX0_size 16 = .ok (.if_icmp .ge 25, 3) := by decide +kernel
theorem dX0_size_19 : decode cX0_size 19 = .ok (.aload_n 0, 1) := by decide +kernel
theorem dX0_size_20 : decode cX0_size 20 = .ok (.getfield 43, 3) := by decide +kernel
theorem dX0_size_23 : decode cX0_size 23 = .ok (.iload_n 2, 1) := by decide +kernel
theorem dX0_size_24 : decode cX0_size 24 = .ok (.aload_n 0, 1) := by decide +kernel
theorem dX0_size_25 : decode cX0_size 25 = .ok (.getfield 36, 3) := by decide +kernel
theorem dX0_size_28 : decode cX0_size 28 = .ok (.iload_n 1, 1) := by decide +kernel
theorem dX0_size_29 : decode cX0_size 29 = .ok (.aaload, 1) := by decide +kernel
theorem dX0_size_30 : decode cX0_size 30 = .ok (.iload_n 2, 1) := by decide +kernel
theorem dX0_size_31 : decode cX0_size 31 = .ok (.invokestatic 81, 3) := by decide +kernel
theorem dX0_size_34 : decode cX0_size 34 = .ok (.iastore, 1) := by decide +kernel
theorem dX0_size_35 : decode cX0_size 35 = .ok (.iinc 2 1, 3) := by decide +kernel
theorem dX0_size_38 : decode cX0_size 38 = .ok (.goto (-27), 3) := by decide +kernel
theorem dX0_size_41 : decode cX0_size 41 = .ok (.iconst 0, 1) := by decide +kernel
theorem dX0_size_42 : decode cX0_size 42 = .ok (.istore_n 2, 1) := by decide +kernel
theorem dX0_size_43 : decode cX0_size 43 = .ok (.aload_n 0, 1) := by decide +kernel
theorem dX0_size_44 : decode cX0_size 44 = .ok (.getfield 18, 3) := by decide +kernel
theorem dX0_size_47 : decode cX0_size 47 = .ok (.iconst 1, 1) := by decide +kernel
theorem dX0_size_48 : decode cX0_size 48 = .ok (.isub, 1) := by decide +kernel
theorem dX0_size_49 : decode cX0_size 49 = .ok (.istore_n 3, 1) := by decide +kernel
theorem dX0_size_50 : decode cX0_size 50 = .ok (.iload_n 3, 1) := by decide +kernel
theorem dX0_size_51 : decode cX0_size 51 = .ok (.ifCond .lt 16, 3) := by decide +kernel
theorem dX0_size_54 : decode cX0_size 54 = .ok (.aload_n 0, 1) := by decide +kernel
theorem dX0_size_55 : decode cX0_size 55 = .ok (.iload_n 3, 1) := by decide +kernel
theorem dX0_size_56 : decode cX0_size 56 = .ok (.iload_n 2, 1) := by decide +kernel
theorem dX0_size_57 : decode cX0_size 57 = .ok (.invokevirtual 85, 3) := by decide +kernel
theorem dX0_size_60 : decode cX0_size 60 = .ok (.istore_n 2, 1) := by decide +kernel
theorem dX0_size_61 : decode cX0_size 61 = .ok (.iinc 3 (-1), 3) := by decide +kernel
theorem dX0_size_64 : decode cX0_size 64 = .ok (.goto (-14), 3) := by decide +kernel
theorem dX0_size_67 : decode cX0_size 67 = .ok (.iload_n 2, 1) := by decide +kernel
theorem dX0_size_68 : decode cX0_size 68 = .ok (.ireturn, 1) := by decide +kernel
theorem dX0_matters_0 : decode cX0_matters 0 = .ok (.iload_n 1, 1) := by decide +kernel
theorem dX0_matters_1 : decode cX0_matters 1 = .ok (.invokestatic 50, 3) := by decide +kernel
theorem dX0_matters_4 : decode cX0_matters 4 = .ok (.ifCond .ne 5, 3) := by decide +kernel
theorem dX0_matters_7 : decode cX0_matters 7 = .ok (.iconst (-1), 1) := by decide +kernel
theorem dX0_matters_8 : decode cX0_matters 8 = .ok (.ireturn, 1) := by decide +kernel
theorem dX0_matters_9 : decode cX0_matters 9 = .ok (.iconst 0, 1) := by decide +kernel
theorem dX0_matters_10 : decode cX0_matters 10 = .ok (.istore_n 2, 1) := by decide +kernel
theorem dX0_matters_11 : decode cX0_matters 11 = .ok (.iconst 0, 1) := by decide +kernel
theorem dX0_matters_12 : decode cX0_matters 12 = .ok (.istore_n 3, 1) := by decide +kernel
theorem dX0_matters_13 : decode cX0_matters 13 = .ok (.iload_n 3, 1) := by decide +kernel
theorem dX0_matters_14 : decode cX0_matters 14 = .ok (.aload_n 0, 1) := by decide +kernel
theorem dX0_matters_15 : decode cX0_matters 15 = .ok (.getfield 18, 3) := by decide +kernel
theorem dX0_matters_18 : decode cX0_matters 18 = .ok (.if_icmp .ge 29, 3) := by decide +kernel
theorem dX0_matters_21 : decode cX0_matters 21 = .ok (.aload_n 0, 1) := by decide +kernel
theorem dX0_matters_22 : decode cX0_matters 22 = .ok (.aload_n 0, 1) := by decide +kernel
theorem dX0_matters_23 : decode cX0_matters 23 = .ok (.getfield 36, 3) := by decide +kernel
theorem dX0_matters_26 : decode cX0_matters 26 = .ok (.iload_n 1, 1) := by decide +kernel
theorem dX0_matters_27 : decode cX0_matters 27 = .ok (.aaload, 1) := by decide +kernel
theorem dX0_matters_28 : decode cX0_matters 28 = .ok (.iload_n 3, 1) := by decide +kernel
theorem dX0_matters_29 : decode cX0_matters 29 = .ok (.invokevirtual 88, 3) := by decide +kernel
theorem dX0_matters_32 : decode cX0_matters 32 = .ok (.ifCond .eq 9, 3) := by decide +kernel
theorem dX0_matters_35 : decode cX0_matters 35 = .ok (.iload_n 2, 1) := by decide +kernel
theorem dX0_matters_36 : decode cX0_matters 36 = .ok (.iconst 1, 1) := by decide +kernel
theorem dX0_matters_37 : decode cX0_matters 37 = .ok (.iload_n 3, 1) := by decide +kernel
theorem dX0_matters_38 : decode cX0_matters 38 = .ok (.ishl, 1) := by decide +kernel
theorem dX0_matters_39 : decode cX0_matters 39 = .ok (.ior, 1) := by decide +kernel
theorem dX0_matters_40 : decode cX0_matters 40 = .ok (.istore_n 2, 1) := by decide +kernel
theorem dX0_matters_41 : decode cX0_matters 41 = .ok (.iinc 3 1, 3) := by decide +kernel
theorem dX0_matters_44 : decode cX0_matters 44 = .ok (.goto (-31), 3) := by decide +kernel
theorem dX0_matters_47 : decode cX0_matters 47 = .ok (.iload_n 2, 1) := by decide +kernel
theorem dX0_matters_48 : decode cX0_matters 48 = .ok (.ireturn, 1) := by decide +kernel
theorem dX0_isRegister_0 : decode cX0_isRegister 0 = .ok (.iload_n 0, 1) := by decide +kernel
theorem dX0_isRegister_1 : decode cX0_isRegister 1 = .ok (.ifCond .lt 13, 3) := by decide +kernel
theorem dX0_isRegister_4 : decode cX0_isRegister 4 = .ok (.iload_n 0, 1) := by decide +kernel
theorem dX0_isRegister_5 : decode cX0_isRegister 5 = .ok (.bipush 32, 2) := by decide +kernel
theorem dX0_isRegister_7 : decode cX0_isRegister 7 = .ok (.if_icmp .ge 7, 3) := by decide +kernel
theorem dX0_isRegister_10 : decode cX0_isRegister 10 = .ok (.iconst 1, 1) := by decide +kernel
theorem dX0_isRegister_11 : decode cX0_isRegister 11 = .ok (.goto 4, 3) := by decide +kernel
theorem dX0_isRegister_14 : decode cX0_isRegister 14 = .ok (.iconst 0, 1) := by decide +kernel
theorem dX0_isRegister_15 : decode cX0_isRegister 15 = .ok (.ireturn, 1) := by decide +kernel
theorem dX0_isVariable_0 : decode cX0_isVariable 0 = .ok (.iload_n 1, 1) := by decide +kernel
theorem dX0_isVariable_1 : decode cX0_isVariable 1 = .ok (.ifCond .lt 15, 3) := by decide +kernel
theorem dX0_isVariable_4 : decode cX0_isVariable 4 = .ok (.iload_n 1, 1) := by decide +kernel
theorem dX0_isVariable_5 : decode cX0_isVariable 5 = .ok (.aload_n 0, 1) := by decide +kernel
theorem dX0_isVariable_6 : decode cX0_isVariable 6 = .ok (.getfield 18, 3) := by decide +kernel
theorem dX0_isVariable_9 : decode cX0_isVariable 9 = .ok (.if_icmp .ge 7, 3) := by decide +kernel
theorem dX0_isVariable_12 : decode cX0_isVariable 12 = .ok (.iconst 1, 1) := by decide +kernel
theorem dX0_isVariable_13 : decode cX0_isVariable 13 = .ok (.goto 4, 3) := by decide +kernel
theorem dX0_isVariable_16 : decode cX0_isVariable 16 = .ok (.iconst 0, 1) := by decide +kernel
theorem dX0_isVariable_17 : decode cX0_isVariable 17 = .ok (.ireturn, 1) := by decide +kernel
theorem dX0_keep_0 : decode cX0_keep 0 = .ok (.aload_n 0, 1) := by decide +kernel
theorem dX0_keep_1 : decode cX0_keep 1 = .ok (.getfield 39, 3) := by decide +kernel
theorem dX0_keep_4 : decode cX0_keep 4 = .ok (.iconst 0, 1) := by decide +kernel
theorem dX0_keep_5 : decode cX0_keep 5 = .ok (.aload_n 0, 1) := by decide +kernel
theorem dX0_keep_6 : decode cX0_keep 6 = .ok (.getfield 36, 3) := by decide +kernel
theorem dX0_keep_9 : decode cX0_keep 9 = .ok (.iload_n 1, 1) := by decide +kernel
theorem dX0_keep_10 : decode cX0_keep 10 = .ok (.aaload, 1) := by decide +kernel
theorem dX0_keep_11 : decode cX0_keep 11 = .ok (.iconst 0, 1) := by decide +kernel
theorem dX0_keep_12 : decode cX0_keep 12 = .ok (.aload_n 0, 1) := by decide +kernel
theorem dX0_keep_13 : decode cX0_keep 13 = .ok (.getfield 25, 3) := by decide +kernel
theorem dX0_keep_16 : decode cX0_keep 16 = .ok (.invokestatic 92, 3) := by decide +kernel
theorem dX0_keep_19 : decode cX0_keep 19 = .ok (.aload_n 0, 1) := by decide +kernel
theorem dX0_keep_20 : decode cX0_keep 20 = .ok (.aload_n 0, 1) := by decide +kernel
theorem dX0_keep_21 : decode cX0_keep 21 = .ok (.getfield 39, 3) := by decide +kernel
theorem dX0_keep_24 : decode cX0_keep 24 = .ok (.invokevirtual 77, 3) := by decide +kernel
theorem dX0_keep_27 : decode cX0_keep 27 = .ok (.ireturn, 1) := by decide +kernel
theorem dX0_count_0 : decode cX0_count 0 = .ok (.iconst 0, 1) := by decide +kernel
theorem dX0_count_1 : decode cX0_count 1 = .ok (.istore_n 2, 1) := by decide +kernel
theorem dX0_count_2 : decode cX0_count 2 = .ok (.iconst 0, 1) := by decide +kernel
theorem dX0_count_3 : decode cX0_count 3 = .ok (.istore_n 3, 1) := by decide +kernel
theorem dX0_count_4 : decode cX0_count 4 = .ok (.iload_n 3, 1) := by decide +kernel
theorem dX0_count_5 : decode cX0_count 5 = .ok (.aload_n 0, 1) := by decide +kernel
theorem dX0_count_6 : decode cX0_count 6 = .ok (.getfield 25, 3) := by decide +kernel
theorem dX0_count_9 : decode cX0_count 9 = .ok (.if_icmp .ge 18, 3) := by decide +kernel
theorem dX0_count_12 : decode cX0_count 12 = .ok (.iload_n 2, 1) := by decide +kernel
theorem dX0_count_13 : decode cX0_count 13 = .ok (.aload_n 1, 1) := by decide +kernel
theorem dX0_count_14 : decode cX0_count 14 = .ok (.iload_n 3, 1) := by decide +kernel
theorem dX0_count_15 : decode cX0_count 15 = .ok (.laload, 1) := by decide +kernel
theorem dX0_count_16 : decode cX0_count 16 = .ok (.invokestatic 98, 3) := by decide +kernel
theorem dX0_count_19 : decode cX0_count 19 = .ok (.iadd, 1) := by decide +kernel
theorem dX0_count_20 : decode cX0_count 20 = .ok (.istore_n 2, 1) := by decide +kernel
theorem dX0_count_21 : decode cX0_count 21 = .ok (.iinc 3 1, 3) := by decide +kernel
theorem dX0_count_24 : decode cX0_count 24 = .ok (.goto (-20), 3) := by decide +kernel
theorem dX0_count_27 : decode cX0_count 27 = .ok (.iload_n 2, 1) := by decide +kernel
theorem dX0_count_28 : decode cX0_count 28 = .ok (.ireturn, 1) := by decide +kernel
theorem dX0_valueAt_0 : decode cX0_valueAt 0 = .ok (.aload_n 0, 1) := by decide +kernel
theorem dX0_valueAt_1 : decode cX0_valueAt 1 = .ok (.iload_n 1, 1) := by decide +kernel
theorem dX0_valueAt_2 : decode cX0_valueAt 2 = .ok (.bipush 6, 2) := by decide +kernel
theorem dX0_valueAt_4 : decode cX0_valueAt 4 = .ok (.ishr, 1) := by decide +kernel
theorem dX0_valueAt_5 : decode cX0_valueAt 5 = .ok (.laload, 1) := by decide +kernel
theorem dX0_valueAt_6 : decode cX0_valueAt 6 = .ok (.iload_n 1, 1) := by decide +kernel
theorem dX0_valueAt_7 : decode cX0_valueAt 7 = .ok (.lushr, 1) := by decide +kernel
theorem dX0_valueAt_8 : decode cX0_valueAt 8 = .ok (.l2i, 1) := by decide +kernel
theorem dX0_valueAt_9 : decode cX0_valueAt 9 = .ok (.iconst 1, 1) := by decide +kernel
theorem dX0_valueAt_10 : decode cX0_valueAt 10 = .ok (.iand, 1) := by decide +kernel
theorem dX0_valueAt_11 : decode cX0_valueAt 11 = .ok (.ireturn, 1) := by decide +kernel
theorem dX0_combined_0 : decode cX0_combined 0 = .ok (.iload_n 0, 1) := by decide +kernel
theorem dX0_combined_1 : decode cX0_combined 1 = .ok (.tableswitch 51 0 3 #[31, 35, 39, 43], 31) := by decide +kernel
theorem dX0_combined_32 : decode cX0_combined 32 = .ok (.lload_n 1, 1) := by decide +kernel
theorem dX0_combined_33 : decode cX0_combined 33 = .ok (.lload_n 3, 1) := by decide +kernel
theorem dX0_combined_34 : decode cX0_combined 34 = .ok (.land, 1) := by decide +kernel
theorem dX0_combined_35 : decode cX0_combined 35 = .ok (.lreturn, 1) := by decide +kernel
theorem dX0_combined_36 : decode cX0_combined 36 = .ok (.lload_n 1, 1) := by decide +kernel
theorem dX0_combined_37 : decode cX0_combined 37 = .ok (.lload_n 3, 1) := by decide +kernel
theorem dX0_combined_38 : decode cX0_combined 38 = .ok (.lor, 1) := by decide +kernel
theorem dX0_combined_39 : decode cX0_combined 39 = .ok (.lreturn, 1) := by decide +kernel
theorem dX0_combined_40 : decode cX0_combined 40 = .ok (.lload_n 1, 1) := by decide +kernel
theorem dX0_combined_41 : decode cX0_combined 41 = .ok (.lload_n 3, 1) := by decide +kernel
theorem dX0_combined_42 : decode cX0_combined 42 = .ok (.lxor, 1) := by decide +kernel
theorem dX0_combined_43 : decode cX0_combined 43 = .ok (.lreturn, 1) := by decide +kernel
theorem dX0_combined_44 : decode cX0_combined 44 = .ok (.lload_n 1, 1) := by decide +kernel
theorem dX0_combined_45 : decode cX0_combined 45 = .ok (.lload_n 3, 1) := by decide +kernel
theorem dX0_combined_46 : decode cX0_combined 46 = .ok (.ldc2_w 28, 3) := by decide +kernel
theorem dX0_combined_49 : decode cX0_combined 49 = .ok (.lxor, 1) := by decide +kernel
theorem dX0_combined_50 : decode cX0_combined 50 = .ok (.land, 1) := by decide +kernel
theorem dX0_combined_51 : decode cX0_combined 51 = .ok (.lreturn, 1) := by decide +kernel
theorem dX0_combined_52 : decode cX0_combined 52 = .ok (.lload_n 1, 1) := by decide +kernel
theorem dX0_combined_53 : decode cX0_combined 53 = .ok (.ldc2_w 28, 3) := by decide +kernel
theorem dX0_combined_56 : decode cX0_combined 56 = .ok (.lxor, 1) := by decide +kernel
theorem dX0_combined_57 : decode cX0_combined 57 = .ok (.lload_n 3, 1) := by decide +kernel
theorem dX0_combined_58 : decode cX0_combined 58 = .ok (.lor, 1) := by decide +kernel
theorem dX0_combined_59 : decode cX0_combined 59 = .ok (.lreturn, 1) := by decide +kernel
theorem dX0_bitOf_0 : decode cX0_bitOf 0 = .ok (.aload_n 0, 1) := by decide +kernel
theorem dX0_bitOf_1 : decode cX0_bitOf 1 = .ok (.getfield 18, 3) := by decide +kernel
theorem dX0_bitOf_4 : decode cX0_bitOf 4 = .ok (.iconst 1, 1) := by decide +kernel
theorem dX0_bitOf_5 : decode cX0_bitOf 5 = .ok (.isub, 1) := by decide +kernel
theorem dX0_bitOf_6 : decode cX0_bitOf 6 = .ok (.iload_n 1, 1) := by decide +kernel
theorem dX0_bitOf_7 : decode cX0_bitOf 7 = .ok (.isub, 1) := by decide +kernel
theorem dX0_bitOf_8 : decode cX0_bitOf 8 = .ok (.ireturn, 1) := by decide +kernel
theorem dX0_placesWhereOne_0 : decode cX0_placesWhereOne 0 = .ok (.aload_n 0, 1) := by decide +kernel
theorem dX0_placesWhereOne_1 : decode cX0_placesWhereOne 1 = .ok (.iload_n 1, 1) := by decide +kernel
theorem dX0_placesWhereOne_2 : decode cX0_placesWhereOne 2 = .ok (.invokevirtual 104, 3) := by decide +kernel
theorem dX0_placesWhereOne_5 : decode cX0_placesWhereOne 5 = .ok (.istore_n 3, 1) := by decide +kernel
theorem dX0_placesWhereOne_6 : decode cX0_placesWhereOne 6 = .ok (.iload_n 3, 1) := by decide +kernel
theorem dX0_placesWhereOne_7 : decode cX0_placesWhereOne 7 = .ok (.bipush 6, 2) := by decide +kernel
theorem dX0_placesWhereOne_9 : decode cX0_placesWhereOne 9 = .ok (.if_icmp .ge 14, 3) := by decide +kernel
theorem dX0_placesWhereOne_12 : decode cX0_placesWhereOne 12 = .ok (.getstatic 107, 3) := by decide +kernel
theorem dX0_placesWhereOne_15 : decode cX0_placesWhereOne 15 = .ok (.iload_n 3, 1) := by decide +kernel
theorem dX0_placesWhereOne_16 : decode cX0_placesWhereOne 16 = .ok (.laload, 1) := by decide +kernel
theorem dX0_placesWhereOne_17 : decode cX0_placesWhereOne 17 = .ok (.aload_n 0, 1) := by decide +kernel
theorem dX0_placesWhereOne_18 : decode cX0_placesWhereOne 18 = .ok (.getfield 30, 3) := by decide +kernel
theorem dX0_placesWhereOne_21 : decode cX0_placesWhereOne 21 = .ok (.land, 1) := by decide +kernel
theorem dX0_placesWhereOne_22 : decode cX0_placesWhereOne 22 = .ok (.lreturn, 1) := by decide +kernel
theorem dX0_placesWhereOne_23 : decode cX0_placesWhereOne 23 = .ok (.iload_n 2, 1) := by decide +kernel
theorem dX0_placesWhereOne_24 : decode cX0_placesWhereOne 24 = .ok (.iload_n 3, 1) := by decide +kernel
theorem dX0_placesWhereOne_25 : decode cX0_placesWhereOne 25 = .ok (.bipush 6, 2) := by decide +kernel
theorem dX0_placesWhereOne_27 : decode cX0_placesWhereOne 27 = .ok (.isub, 1) := by decide +kernel
theorem dX0_placesWhereOne_28 : decode cX0_placesWhereOne 28 = .ok (.ishr, 1) := by decide +kernel
theorem dX0_placesWhereOne_29 : decode cX0_placesWhereOne 29 = .ok (.iconst 1, 1) := by decide +kernel
theorem dX0_placesWhereOne_30 : decode cX0_placesWhereOne 30 = .ok (.iand, 1) := by decide +kernel
theorem dX0_placesWhereOne_31 : decode cX0_placesWhereOne 31 = .ok (.iconst 1, 1) := by decide +kernel
theorem dX0_placesWhereOne_32 : decode cX0_placesWhereOne 32 = .ok (.if_icmp .ne 10, 3) := by decide +kernel
theorem dX0_placesWhereOne_35 : decode cX0_placesWhereOne 35 = .ok (.aload_n 0, 1) := by decide +kernel
theorem dX0_placesWhereOne_36 : decode cX0_placesWhereOne 36 = .ok (.getfield 30, 3) := by decide +kernel
theorem dX0_placesWhereOne_39 : decode cX0_placesWhereOne 39 = .ok (.goto 4, 3) := by decide +kernel
theorem dX0_placesWhereOne_42 : decode cX0_placesWhereOne 42 = .ok (.lconst 0, 1) := by decide +kernel
theorem dX0_placesWhereOne_43 : decode cX0_placesWhereOne 43 = .ok (.lreturn, 1) := by decide +kernel
theorem dX0_turned_0 : decode cX0_turned 0 = .ok (.aload_n 0, 1) := by decide +kernel
theorem dX0_turned_1 : decode cX0_turned 1 = .ok (.iload_n 2, 1) := by decide +kernel
theorem dX0_turned_2 : decode cX0_turned 2 = .ok (.invokevirtual 104, 3) := by decide +kernel
theorem dX0_turned_5 : decode cX0_turned 5 = .ok (.istore 4, 2) := by decide +kernel
theorem dX0_turned_7 : decode cX0_turned 7 = .ok (.iload 4, 2) := by decide +kernel
theorem dX0_turned_9 : decode cX0_turned 9 = .ok (.bipush 6, 2) := by decide +kernel
theorem dX0_turned_11 : decode cX0_turned 11 = .ok (.if_icmp .lt 15, 3) := by decide +kernel
theorem dX0_turned_14 : decode cX0_turned 14 = .ok (.aload_n 1, 1) := by decide +kernel
theorem dX0_turned_15 : decode cX0_turned 15 = .ok (.iload_n 3, 1) := by decide +kernel
theorem dX0_turned_16 : decode cX0_turned 16 = .ok (.iconst 1, 1) := by decide +kernel
theorem dX0_turned_17 : decode cX0_turned 17 = .ok (.iload 4, 2) := by decide +kernel
theorem dX0_turned_19 : decode cX0_turned 19 = .ok (.bipush 6, 2) := by decide +kernel
theorem dX0_turned_21 : decode cX0_turned 21 = .ok (.isub, 1) := by decide +kernel
theorem dX0_turned_22 : decode cX0_turned 22 = .ok (.ishl, 1) := by decide +kernel
theorem dX0_turned_23 : decode cX0_turned 23 = .ok (.ixor, 1) := by decide +kernel
theorem dX0_turned_24 : decode cX0_turned 24 = .ok (.laload, 1) := by decide +kernel
theorem dX0_turned_25 : decode cX0_turned 25 = .ok (.lreturn, 1) := by decide +kernel
theorem dX0_turned_26 : decode cX0_turned 26 = .ok (.iconst 1, 1) := by decide +kernel
theorem dX0_turned_27 : decode cX0_turned 27 = .ok (.iload 4, 2) := by decide +kernel
theorem dX0_turned_29 : decode cX0_turned 29 = .ok (.ishl, 1) := by decide +kernel
theorem dX0_turned_30 : decode cX0_turned 30 = .ok (.istore 5, 2) := by decide +kernel
theorem dX0_turned_32 : decode cX0_turned 32 = .ok (.getstatic 107, 3) := by decide +kernel
theorem dX0_turned_35 : decode cX0_turned 35 = .ok (.iload 4, 2) := by decide +kernel
theorem dX0_turned_37 : decode cX0_turned 37 = .ok (.laload, 1) := by decide +kernel
theorem dX0_turned_38 : decode cX0_turned 38 = .ok (.lstore 6, 2) := by decide +kernel
theorem dX0_turned_40 : decode cX0_turned 40 = .ok (.aload_n 1, 1) := by decide +kernel
theorem dX0_turned_41 : decode cX0_turned 41 = .ok (.iload_n 3, 1) := by decide +kernel
theorem dX0_turned_42 : decode cX0_turned 42 = .ok (.laload, 1) := by decide +kernel
theorem dX0_turned_43 : decode cX0_turned 43 = .ok (.lload 6, 2) := by decide +kernel
theorem dX0_turned_45 : decode cX0_turned 45 = .ok (.land, 1) := by decide +kernel
theorem dX0_turned_46 : decode cX0_turned 46 = .ok (.iload 5, 2) := by decide +kernel
theorem dX0_turned_48 : decode cX0_turned 48 = .ok (.lushr, 1) := by decide +kernel
theorem dX0_turned_49 : decode cX0_turned 49 = .ok (.aload_n 1, 1) := by decide +kernel
theorem dX0_turned_50 : decode cX0_turned 50 = .ok (.iload_n 3, 1) := by decide +kernel
theorem dX0_turned_51 : decode cX0_turned 51 = .ok (.laload, 1) := by decide +kernel
theorem dX0_turned_52 : decode cX0_turned 52 = .ok (.lload 6, 2) := by decide +kernel
theorem dX0_turned_54 : decode cX0_turned 54 = .ok (.ldc2_w 28, 3) := by decide +kernel
theorem dX0_turned_57 : decode cX0_turned 57 = .ok (.lxor, 1) := by decide +kernel
theorem dX0_turned_58 : decode cX0_turned 58 = .ok (.land, 1) := by decide +kernel
theorem dX0_turned_59 : decode cX0_turned 59 = .ok (.iload 5, 2) := by decide +kernel
theorem dX0_turned_61 : decode cX0_turned 61 = .ok (.lshl, 1) := by decide +kernel
theorem dX0_turned_62 : decode cX0_turned 62 = .ok (.lor, 1) := by decide +kernel
theorem dX0_turned_63 : decode cX0_turned 63 = .ok (.lreturn, 1) := by decide +kernel
theorem dX0_narrowed_0 : decode cX0_narrowed 0 = .ok (.aload_n 0, 1) := by decide +kernel
theorem dX0_narrowed_1 : decode cX0_narrowed 1 = .ok (.iload_n 2, 1) := by decide +kernel
theorem dX0_narrowed_2 : decode cX0_narrowed 2 = .ok (.iload 4, 2) := by decide +kernel
theorem dX0_narrowed_4 : decode cX0_narrowed 4 = .ok (.invokevirtual 57, 3) := by decide +kernel
theorem dX0_narrowed_7 : decode cX0_narrowed 7 = .ok (.lstore 5, 2) := by decide +kernel
theorem dX0_narrowed_9 : decode cX0_narrowed 9 = .ok (.iload_n 3, 1) := by decide +kernel
theorem dX0_narrowed_10 : decode cX0_narrowed 10 = .ok (.ifCond .eq 8, 3) := by decide +kernel
theorem dX0_narrowed_13 : decode cX0_narrowed 13 = .ok (.lload 5, 2) := by decide +kernel
theorem dX0_narrowed_15 : decode cX0_narrowed 15 = .ok (.goto 9, 3) := by decide +kernel
theorem dX0_narrowed_18 : decode cX0_narrowed 18 = .ok (.lload 5, 2) := by decide +kernel
theorem dX0_narrowed_20 : decode cX0_narrowed 20 = .ok (.ldc2_w 28, 3) := by decide +kernel
theorem dX0_narrowed_23 : decode cX0_narrowed 23 = .ok (.lxor, 1) := by decide +kernel
theorem dX0_narrowed_24 : decode cX0_narrowed 24 = .ok (.lstore 7, 2) := by decide +kernel
theorem dX0_narrowed_26 : decode cX0_narrowed 26 = .ok (.aload_n 1, 1) := by decide +kernel
theorem dX0_narrowed_27 : decode cX0_narrowed 27 = .ok (.iload 4, 2) := by decide +kernel
theorem dX0_narrowed_29 : decode cX0_narrowed 29 = .ok (.laload, 1) := by decide +kernel
theorem dX0_narrowed_30 : decode cX0_narrowed 30 = .ok (.lload 7, 2) := by decide +kernel
theorem dX0_narrowed_32 : decode cX0_narrowed 32 = .ok (.land, 1) := by decide +kernel
theorem dX0_narrowed_33 : decode cX0_narrowed 33 = .ok (.aload_n 0, 1) := by decide +kernel
theorem dX0_narrowed_34 : decode cX0_narrowed 34 = .ok (.aload_n 1, 1) := by decide +kernel
theorem dX0_narrowed_35 : decode cX0_narrowed 35 = .ok (.iload_n 2, 1) := by decide +kernel
theorem dX0_narrowed_36 : decode cX0_narrowed 36 = .ok (.iload 4, 2) := by decide +kernel
theorem dX0_narrowed_38 : decode cX0_narrowed 38 = .ok (.invokevirtual 73, 3) := by decide +kernel
theorem dX0_narrowed_41 : decode cX0_narrowed 41 = .ok (.lload 7, 2) := by decide +kernel
theorem dX0_narrowed_43 : decode cX0_narrowed 43 = .ok (.ldc2_w 28, 3) := by decide +kernel
theorem dX0_narrowed_46 : decode cX0_narrowed 46 = .ok (.lxor, 1) := by decide +kernel
theorem dX0_narrowed_47 : decode cX0_narrowed 47 = .ok (.land, 1) := by decide +kernel
theorem dX0_narrowed_48 : decode cX0_narrowed 48 = .ok (.lor, 1) := by decide +kernel
theorem dX0_narrowed_49 : decode cX0_narrowed 49 = .ok (.lreturn, 1) := by decide +kernel
theorem dX0_dependsOn_0 : decode cX0_dependsOn 0 = .ok (.iconst 0, 1) := by decide +kernel
theorem dX0_dependsOn_1 : decode cX0_dependsOn 1 = .ok (.istore_n 3, 1) := by decide +kernel
theorem dX0_dependsOn_2 : decode cX0_dependsOn 2 = .ok (.iload_n 3, 1) := by decide +kernel
theorem dX0_dependsOn_3 : decode cX0_dependsOn 3 = .ok (.aload_n 0, 1) := by decide +kernel
theorem dX0_dependsOn_4 : decode cX0_dependsOn 4 = .ok (.getfield 25, 3) := by decide +kernel
theorem dX0_dependsOn_7 : decode cX0_dependsOn 7 = .ok (.if_icmp .ge 25, 3) := by decide +kernel
theorem dX0_dependsOn_10 : decode cX0_dependsOn 10 = .ok (.aload_n 1, 1) := by decide +kernel
theorem dX0_dependsOn_11 : decode cX0_dependsOn 11 = .ok (.iload_n 3, 1) := by decide +kernel
theorem dX0_dependsOn_12 : decode cX0_dependsOn 12 = .ok (.laload, 1) := by decide +kernel
theorem dX0_dependsOn_13 : decode cX0_dependsOn 13 = .ok (.aload_n 0, 1) := by decide +kernel
theorem dX0_dependsOn_14 : decode cX0_dependsOn 14 = .ok (.aload_n 1, 1) := by decide +kernel
theorem dX0_dependsOn_15 : decode cX0_dependsOn 15 = .ok (.iload_n 2, 1) := by decide +kernel
theorem dX0_dependsOn_16 : decode cX0_dependsOn 16 = .ok (.iload_n 3, 1) := by decide +kernel
theorem dX0_dependsOn_17 : decode cX0_dependsOn 17 = .ok (.invokevirtual 73, 3) := by decide +kernel
theorem dX0_dependsOn_20 : decode cX0_dependsOn 20 = .ok (.lcmp, 1) := by decide +kernel
theorem dX0_dependsOn_21 : decode cX0_dependsOn 21 = .ok (.ifCond .eq 5, 3) := by decide +kernel
theorem dX0_dependsOn_24 : decode cX0_dependsOn 24 = .ok (.iconst 1, 1) := by decide +kernel
theorem dX0_dependsOn_25 : decode cX0_dependsOn 25 = .ok (.ireturn, 1) := by decide +kernel
theorem dX0_dependsOn_26 : decode cX0_dependsOn 26 = .ok (.iinc 3 1, 3) := by decide +kernel
theorem dX0_dependsOn_29 : decode cX0_dependsOn 29 = .ok (.goto (-27), 3) := by decide +kernel
theorem dX0_dependsOn_32 : decode cX0_dependsOn 32 = .ok (.iconst 0, 1) := by decide +kernel
theorem dX0_dependsOn_33 : decode cX0_dependsOn 33 = .ok (.ireturn, 1) := by decide +kernel
theorem dX0_joinHalves_0 : decode cX0_joinHalves 0 = .ok (.iload_n 2, 1) := by decide +kernel
theorem dX0_joinHalves_1 : decode cX0_joinHalves 1 = .ok (.istore_n 3, 1) := by decide +kernel
theorem dX0_joinHalves_2 : decode cX0_joinHalves 2 = .ok (.iconst 0, 1) := by decide +kernel
theorem dX0_joinHalves_3 : decode cX0_joinHalves 3 = .ok (.istore 4, 2) := by decide +kernel
theorem dX0_joinHalves_5 : decode cX0_joinHalves 5 = .ok (.iload 4, 2) := by decide +kernel
theorem dX0_joinHalves_7 : decode cX0_joinHalves 7 = .ok (.iconst 1, 1) := by decide +kernel
theorem dX0_joinHalves_8 : decode cX0_joinHalves 8 = .ok (.iload_n 1, 1) := by decide +kernel
theorem dX0_joinHalves_9 : decode cX0_joinHalves 9 = .ok (.ishl, 1) := by decide +kernel
theorem dX0_joinHalves_10 : decode cX0_joinHalves 10 = .ok (.if_icmp .ge 101, 3) := by decide +kernel
theorem dX0_joinHalves_13 : decode cX0_joinHalves 13 = .ok (.aload_n 0, 1) := by decide +kernel
theorem dX0_joinHalves_14 : decode cX0_joinHalves 14 = .ok (.getfield 43, 3) := by decide +kernel
theorem dX0_joinHalves_17 : decode cX0_joinHalves 17 = .ok (.iconst 2, 1) := by decide +kernel
theorem dX0_joinHalves_18 : decode cX0_joinHalves 18 = .ok (.iload 4, 2) := by decide +kernel
theorem dX0_joinHalves_20 : decode cX0_joinHalves 20 = .ok (.imul, 1) := by decide +kernel
theorem dX0_joinHalves_21 : decode cX0_joinHalves 21 = .ok (.iaload, 1) := by decide +kernel
theorem dX0_joinHalves_22 : decode cX0_joinHalves 22 = .ok (.istore 5, 2) := by decide +kernel
theorem dX0_joinHalves_24 : decode cX0_joinHalves 24 = .ok (.aload_n 0, 1) := by decide +kernel
theorem dX0_joinHalves_25 : decode cX0_joinHalves 25 = .ok (.getfield 43, 3) := by decide +kernel
theorem dX0_joinHalves_28 : decode cX0_joinHalves 28 = .ok (.iconst 2, 1) := by decide +kernel
theorem dX0_joinHalves_29 : decode cX0_joinHalves 29 = .ok (.iload 4, 2) := by decide +kernel
theorem dX0_joinHalves_31 : decode cX0_joinHalves 31 = .ok (.imul, 1) := by decide +kernel
theorem dX0_joinHalves_32 : decode cX0_joinHalves 32 = .ok (.iconst 1, 1) := by decide +kernel
theorem dX0_joinHalves_33 : decode cX0_joinHalves 33 = .ok (.iadd, 1) := by decide +kernel
theorem dX0_joinHalves_34 : decode cX0_joinHalves 34 = .ok (.iaload, 1) := by decide +kernel
theorem dX0_joinHalves_35 : decode cX0_joinHalves 35 = .ok (.istore 6, 2) := by decide +kernel
theorem dX0_joinHalves_37 : decode cX0_joinHalves 37 = .ok (.iload 5, 2) := by decide +kernel
theorem dX0_joinHalves_39 : decode cX0_joinHalves 39 = .ok (.iload 6, 2) := by decide +kernel
theorem dX0_joinHalves_41 : decode cX0_joinHalves 41 = .ok (.if_icmp .ne 15, 3) := by decide +kernel
theorem dX0_joinHalves_44 : decode cX0_joinHalves 44 = .ok (.aload_n 0, 1) := by decide +kernel
theorem dX0_joinHalves_45 : decode cX0_joinHalves 45 = .ok (.getfield 43, 3) := by decide +kernel
theorem dX0_joinHalves_48 : decode cX0_joinHalves 48 = .ok (.iload 4, 2) := by decide +kernel
theorem dX0_joinHalves_50 : decode cX0_joinHalves 50 = .ok (.iload 5, 2) := by decide +kernel
theorem dX0_joinHalves_52 : decode cX0_joinHalves 52 = .ok (.iastore, 1) := by decide +kernel
theorem dX0_joinHalves_53 : decode cX0_joinHalves 53 = .ok (.goto 52, 3) := by decide +kernel
theorem dX0_joinHalves_56 : decode cX0_joinHalves 56 = .ok (.iload 5, 2) := by decide +kernel
theorem dX0_joinHalves_58 : decode cX0_joinHalves 58 = .ok (.bipush 10, 2) := by decide +kernel
theorem dX0_joinHalves_60 : decode cX0_joinHalves 60 = .ok (.ishl, 1) := by decide +kernel
theorem dX0_joinHalves_61 : decode cX0_joinHalves 61 = .ok (.iload 6, 2) := by decide +kernel
theorem dX0_joinHalves_63 : decode cX0_joinHalves 63 = .ok (.ior, 1) := by decide +kernel
theorem dX0_joinHalves_64 : decode cX0_joinHalves 64 = .ok (.istore 7, 2) := by decide +kernel
theorem dX0_joinHalves_66 : decode cX0_joinHalves 66 = .ok (.aload_n 0, 1) := by decide +kernel
theorem dX0_joinHalves_67 : decode cX0_joinHalves 67 = .ok (.iload 7, 2) := by decide +kernel
theorem dX0_joinHalves_69 : decode cX0_joinHalves 69 = .ok (.iload_n 2, 1) := by decide +kernel
theorem dX0_joinHalves_70 : decode cX0_joinHalves 70 = .ok (.iload_n 3, 1) := by decide +kernel
theorem dX0_joinHalves_71 : decode cX0_joinHalves 71 = .ok (.invokevirtual 110, 3) := by decide +kernel
theorem dX0_joinHalves_74 : decode cX0_joinHalves 74 = .ok (.istore 8, 2) := by decide +kernel
theorem dX0_joinHalves_76 : decode cX0_joinHalves 76 = .ok (.aload_n 0, 1) := by decide +kernel
theorem dX0_joinHalves_77 : decode cX0_joinHalves 77 = .ok (.getfield 47, 3) := by decide +kernel
theorem dX0_joinHalves_80 : decode cX0_joinHalves 80 = .ok (.iload 8, 2) := by decide +kernel
theorem dX0_joinHalves_82 : decode cX0_joinHalves 82 = .ok (.iload 7, 2) := by decide +kernel
theorem dX0_joinHalves_84 : decode cX0_joinHalves 84 = .ok (.iastore, 1) := by decide +kernel
theorem dX0_joinHalves_85 : decode cX0_joinHalves 85 = .ok (.iload_n 3, 1) := by decide +kernel
theorem dX0_joinHalves_86 : decode cX0_joinHalves 86 = .ok (.iload 8, 2) := by decide +kernel
theorem dX0_joinHalves_88 : decode cX0_joinHalves 88 = .ok (.iconst 1, 1) := by decide +kernel
theorem dX0_joinHalves_89 : decode cX0_joinHalves 89 = .ok (.iadd, 1) := by decide +kernel
theorem dX0_joinHalves_90 : decode cX0_joinHalves 90 = .ok (.invokestatic 15, 3) := by decide +kernel
theorem dX0_joinHalves_93 : decode cX0_joinHalves 93 = .ok (.istore_n 3, 1) := by decide +kernel
theorem dX0_joinHalves_94 : decode cX0_joinHalves 94 = .ok (.aload_n 0, 1) := by decide +kernel
theorem dX0_joinHalves_95 : decode cX0_joinHalves 95 = .ok (.getfield 43, 3) := by decide +kernel
theorem dX0_joinHalves_98 : decode cX0_joinHalves 98 = .ok (.iload 4, 2) := by decide +kernel
theorem dX0_joinHalves_100 : decode cX0_joinHalves 100 = .ok (.iconst 2, 1) := by decide +kernel
theorem dX0_joinHalves_101 : decode cX0_joinHalves 101 = .ok (.iload 8, 2) := by decide +kernel
theorem dX0_joinHalves_103 : decode cX0_joinHalves 103 = .ok (.iadd, 1) := by decide +kernel
theorem dX0_joinHalves_104 : decode cX0_joinHalves 104 = .ok (.iastore, 1) := by decide +kernel
theorem dX0_joinHalves_105 : decode cX0_joinHalves 105 = .ok (.iinc 4 1, 3) := by decide +kernel
theorem dX0_joinHalves_108 : decode cX0_joinHalves 108 = .ok (.goto (-103), 3) := by decide +kernel
theorem dX0_joinHalves_111 : decode cX0_joinHalves 111 = .ok (.iload_n 3, 1) := by decide +kernel
theorem dX0_joinHalves_112 : decode cX0_joinHalves 112 = .ok (.ireturn, 1) := by decide +kernel
theorem dX0_placeOfPart_0 : decode cX0_placeOfPart 0 = .ok (.iload_n 2, 1) := by decide +kernel
theorem dX0_placeOfPart_1 : decode cX0_placeOfPart 1 = .ok (.istore 4, 2) := by decide +kernel
theorem dX0_placeOfPart_3 : decode cX0_placeOfPart 3 = .ok (.iload 4, 2) := by decide +kernel
theorem dX0_placeOfPart_5 : decode cX0_placeOfPart 5 = .ok (.iload_n 3, 1) := by decide +kernel
theorem dX0_placeOfPart_6 : decode cX0_placeOfPart 6 = .ok (.if_icmp .ge 23, 3) := by decide +kernel
theorem dX0_placeOfPart_9 : decode cX0_placeOfPart 9 = .ok (.aload_n 0, 1) := by decide +kernel
theorem dX0_placeOfPart_10 : decode cX0_placeOfPart 10 = .ok (.getfield 47, 3) := by decide +kernel
theorem dX0_placeOfPart_13 : decode cX0_placeOfPart 13 = .ok (.iload 4, 2) := by decide +kernel
theorem dX0_placeOfPart_15 : decode cX0_placeOfPart 15 = .ok (.iaload, 1) := by decide +kernel
theorem dX0_placeOfPart_16 : decode cX0_placeOfPart 16 = .ok (.iload_n 1, 1) := by decide +kernel
theorem dX0_placeOfPart_17 : decode cX0_placeOfPart 17 = .ok (.if_icmp .ne 6, 3) := by decide +kernel
theorem dX0_placeOfPart_20 : decode cX0_placeOfPart 20 = .ok (.iload 4, 2) := by decide +kernel
theorem dX0_placeOfPart_22 : decode cX0_placeOfPart 22 = .ok (.ireturn, 1) := by decide +kernel
theorem dX0_placeOfPart_23 : decode cX0_placeOfPart 23 = .ok (.iinc 4 1, 3) := by decide +kernel
theorem dX0_placeOfPart_26 : decode cX0_placeOfPart 26 = .ok (.goto (-23), 3) := by decide +kernel
theorem dX0_placeOfPart_29 : decode cX0_placeOfPart 29 = .ok (.iload_n 3, 1) := by decide +kernel
theorem dX0_placeOfPart_30 : decode cX0_placeOfPart 30 = .ok (.ireturn, 1) := by decide +kernel
theorem dJ13_bitCount_95d88_0 : decode cJ13_bitCount_95d88 0 = .ok (.lload_n 0, 1) := by decide +kernel
theorem dJ13_bitCount_95d88_1 : decode cJ13_bitCount_95d88 1 = .ok (.lload_n 0, 1) := by decide +kernel
theorem dJ13_bitCount_95d88_2 : decode cJ13_bitCount_95d88 2 = .ok (.iconst 1, 1) := by decide +kernel
theorem dJ13_bitCount_95d88_3 : decode cJ13_bitCount_95d88 3 = .ok (.lushr, 1) := by decide +kernel
theorem dJ13_bitCount_95d88_4 : decode cJ13_bitCount_95d88 4 = .ok (.ldc2_w 314, 3) := by decide +kernel
theorem dJ13_bitCount_95d88_7 : decode cJ13_bitCount_95d88 7 = .ok (.land, 1) := by decide +kernel
theorem dJ13_bitCount_95d88_8 : decode cJ13_bitCount_95d88 8 = .ok (.lsub, 1) := by decide +kernel
theorem dJ13_bitCount_95d88_9 : decode cJ13_bitCount_95d88 9 = .ok (.lstore_n 0, 1) := by decide +kernel
theorem dJ13_bitCount_95d88_10 : decode cJ13_bitCount_95d88 10 = .ok (.lload_n 0, 1) := by decide +kernel
theorem dJ13_bitCount_95d88_11 : decode cJ13_bitCount_95d88 11 = .ok (.ldc2_w 316, 3) := by decide +kernel
theorem dJ13_bitCount_95d88_14 : decode cJ13_bitCount_95d88 14 = .ok (.land, 1) := by decide +kernel
theorem dJ13_bitCount_95d88_15 : decode cJ13_bitCount_95d88 15 = .ok (.lload_n 0, 1) := by decide +kernel
theorem dJ13_bitCount_95d88_16 : decode cJ13_bitCount_95d88 16 = .ok (.iconst 2, 1) := by decide +kernel
theorem dJ13_bitCount_95d88_17 : decode cJ13_bitCount_95d88 17 = .ok (.lushr, 1) := by decide +kernel
theorem dJ13_bitCount_95d88_18 : decode cJ13_bitCount_95d88 18 = .ok (.ldc2_w 316, 3) := by decide +kernel
theorem dJ13_bitCount_95d88_21 : decode cJ13_bitCount_95d88 21 = .ok (.land, 1) := by decide +kernel
theorem dJ13_bitCount_95d88_22 : decode cJ13_bitCount_95d88 22 = .ok (.ladd, 1) := by decide +kernel
theorem dJ13_bitCount_95d88_23 : decode cJ13_bitCount_95d88 23 = .ok (.lstore_n 0, 1) := by decide +kernel
theorem dJ13_bitCount_95d88_24 : decode cJ13_bitCount_95d88 24 = .ok (.lload_n 0, 1) := by decide +kernel
theorem dJ13_bitCount_95d88_25 : decode cJ13_bitCount_95d88 25 = .ok (.lload_n 0, 1) := by decide +kernel
theorem dJ13_bitCount_95d88_26 : decode cJ13_bitCount_95d88 26 = .ok (.iconst 4, 1) := by decide +kernel
theorem dJ13_bitCount_95d88_27 : decode cJ13_bitCount_95d88 27 = .ok (.lushr, 1) := by decide +kernel
theorem dJ13_bitCount_95d88_28 : decode cJ13_bitCount_95d88 28 = .ok (.ladd, 1) := by decide +kernel
theorem dJ13_bitCount_95d88_29 : decode cJ13_bitCount_95d88 29 = .ok (.ldc2_w 318, 3) := by decide +kernel
theorem dJ13_bitCount_95d88_32 : decode cJ13_bitCount_95d88 32 = .ok (.land, 1) := by decide +kernel
theorem dJ13_bitCount_95d88_33 : decode cJ13_bitCount_95d88 33 = .ok (.lstore_n 0, 1) := by decide +kernel
theorem dJ13_bitCount_95d88_34 : decode cJ13_bitCount_95d88 34 = .ok (.lload_n 0, 1) := by decide +kernel
theorem dJ13_bitCount_95d88_35 : decode cJ13_bitCount_95d88 35 = .ok (.lload_n 0, 1) := by decide +kernel
theorem dJ13_bitCount_95d88_36 : decode cJ13_bitCount_95d88 36 = .ok (.bipush 8, 2) := by decide +kernel
theorem dJ13_bitCount_95d88_38 : decode cJ13_bitCount_95d88 38 = .ok (.lushr, 1) := by decide +kernel
theorem dJ13_bitCount_95d88_39 : decode cJ13_bitCount_95d88 39 = .ok (.ladd, 1) := by decide +kernel
theorem dJ13_bitCount_95d88_40 : decode cJ13_bitCount_95d88 40 = .ok (.lstore_n 0, 1) := by decide +kernel
theorem dJ13_bitCount_95d88_41 : decode cJ13_bitCount_95d88 41 = .ok (.lload_n 0, 1) := by decide +kernel
theorem dJ13_bitCount_95d88_42 : decode cJ13_bitCount_95d88 42 = .ok (.lload_n 0, 1) := by decide +kernel
theorem dJ13_bitCount_95d88_43 : decode cJ13_bitCount_95d88 43 = .ok (.bipush 16, 2) := by decide +kernel
theorem dJ13_bitCount_95d88_45 : decode cJ13_bitCount_95d88 45 = .ok (.lushr, 1) := by decide +kernel
theorem dJ13_bitCount_95d88_46 : decode cJ13_bitCount_95d88 46 = .ok (.ladd, 1) := by decide +kernel
theorem dJ13_bitCount_95d88_47 : decode cJ13_bitCount_95d88 47 = .ok (.lstore_n 0, 1) := by decide +kernel
theorem dJ13_bitCount_95d88_48 : decode cJ13_bitCount_95d88 48 = .ok (.lload_n 0, 1) := by decide +kernel
theorem dJ13_bitCount_95d88_49 : decode cJ13_bitCount_95d88 49 = .ok (.lload_n 0, 1) := by decide +kernel
theorem dJ13_bitCount_95d88_50 : decode cJ13_bitCount_95d88 50 = .ok (.bipush 32, 2) := by decide +kernel
theorem dJ13_bitCount_95d88_52 : decode cJ13_bitCount_95d88 52 = .ok (.lushr, 1) := by decide +kernel
theorem dJ13_bitCount_95d88_53 : decode cJ13_bitCount_95d88 53 = .ok (.ladd, 1) := by decide +kernel
theorem dJ13_bitCount_95d88_54 : decode cJ13_bitCount_95d88 54 = .ok (.lstore_n 0, 1) := by decide +kernel
theorem dJ13_bitCount_95d88_55 : decode cJ13_bitCount_95d88 55 = .ok (.lload_n 0, 1) := by decide +kernel
theorem dJ13_bitCount_95d88_56 : decode cJ13_bitCount_95d88 56 = .ok (.l2i, 1) := by decide +kernel
theorem dJ13_bitCount_95d88_57 : decode cJ13_bitCount_95d88 57 = .ok (.bipush 127, 2) := by decide +kernel
theorem dJ13_bitCount_95d88_59 : decode cJ13_bitCount_95d88 59 = .ok (.iand, 1) := by decide +kernel
theorem dJ13_bitCount_95d88_60 : decode cJ13_bitCount_95d88 60 = .ok (.ireturn, 1) := by decide +kernel
