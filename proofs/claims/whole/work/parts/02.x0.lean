theorem dX0_init_0 : decode cX0_init 0 = .ok (.aload_n 0, 1) := by decide +kernel
theorem dX0_init_1 : decode cX0_init 1 = .ok (.invokespecial 3, 3) := by decide +kernel
theorem dX0_init_4 : decode cX0_init 4 = .ok (.aload_n 0, 1) := by decide +kernel
theorem dX0_init_5 : decode cX0_init 5 = .ok (.bipush 6, 2) := by decide +kernel
theorem dX0_init_7 : decode cX0_init 7 = .ok (.newarray .int, 2) := by decide +kernel
theorem dX0_init_9 : decode cX0_init 9 = .ok (.putfield 9, 3) := by decide +kernel
theorem dX0_init_12 : decode cX0_init 12 = .ok (.aload_n 0, 1) := by decide +kernel
theorem dX0_init_13 : decode cX0_init 13 = .ok (.bipush 6, 2) := by decide +kernel
theorem dX0_init_15 : decode cX0_init 15 = .ok (.newarray .int, 2) := by decide +kernel
theorem dX0_init_17 : decode cX0_init 17 = .ok (.putfield 15, 3) := by decide +kernel
theorem dX0_init_20 : decode cX0_init 20 = .ok (.aload_n 0, 1) := by decide +kernel
theorem dX0_init_21 : decode cX0_init 21 = .ok (.bipush 6, 2) := by decide +kernel
theorem dX0_init_23 : decode cX0_init 23 = .ok (.newarray .int, 2) := by decide +kernel
theorem dX0_init_25 : decode cX0_init 25 = .ok (.putfield 18, 3) := by decide +kernel
theorem dX0_init_28 : decode cX0_init 28 = .ok (.aload_n 0, 1) := by decide +kernel
theorem dX0_init_29 : decode cX0_init 29 = .ok (.bipush 6, 2) := by decide +kernel
theorem dX0_init_31 : decode cX0_init 31 = .ok (.newarray .int, 2) := by decide +kernel
theorem dX0_init_33 : decode cX0_init 33 = .ok (.putfield 21, 3) := by decide +kernel
theorem dX0_init_36 : decode cX0_init 36 = .ok (.return_, 1) := by decide +kernel
theorem dX0_copyFrom_0 : decode cX0_copyFrom 0 = .ok (.aload_n 1, 1) := by decide +kernel
theorem dX0_copyFrom_1 : decode cX0_copyFrom 1 = .ok (.getfield 9, 3) := by decide +kernel
theorem dX0_copyFrom_4 : decode cX0_copyFrom 4 = .ok (.iconst 0, 1) := by decide +kernel
theorem dX0_copyFrom_5 : decode cX0_copyFrom 5 = .ok (.aload_n 0, 1) := by decide +kernel
theorem dX0_copyFrom_6 : decode cX0_copyFrom 6 = .ok (.getfield 9, 3) := by decide +kernel
theorem dX0_copyFrom_9 : decode cX0_copyFrom 9 = .ok (.iconst 0, 1) := by decide +kernel
theorem dX0_copyFrom_10 : decode cX0_copyFrom 10 = .ok (.bipush 6, 2) := by decide +kernel
theorem dX0_copyFrom_12 : decode cX0_copyFrom 12 = .ok (.invokestatic 24, 3) := by decide +kernel
theorem dX0_copyFrom_15 : decode cX0_copyFrom 15 = .ok (.aload_n 1, 1) := by decide +kernel
theorem dX0_copyFrom_16 : decode cX0_copyFrom 16 = .ok (.getfield 15, 3) := by decide +kernel
theorem dX0_copyFrom_19 : decode cX0_copyFrom 19 = .ok (.iconst 0, 1) := by decide +kernel
theorem dX0_copyFrom_20 : decode cX0_copyFrom 20 = .ok (.aload_n 0, 1) := by decide +kernel
theorem dX0_copyFrom_21 : decode cX0_copyFrom 21 = .ok (.getfield 15, 3) := by decide +kernel
theorem dX0_copyFrom_24 : decode cX0_copyFrom 24 = .ok (.iconst 0, 1) := by decide +kernel
theorem dX0_copyFrom_25 : decode cX0_copyFrom 25 = .ok (.bipush 6, 2) := by decide +kernel
theorem dX0_copyFrom_27 : decode cX0_copyFrom 27 = .ok (.invokestatic 24, 3) := by decide +kernel
theorem dX0_copyFrom_30 : decode cX0_copyFrom 30 = .ok (.aload_n 1, 1) := by decide +kernel
theorem dX0_copyFrom_31 : decode cX0_copyFrom 31 = .ok (.getfield 18, 3) := by decide +kernel
theorem dX0_copyFrom_34 : decode cX0_copyFrom 34 = .ok (.iconst 0, 1) := by decide +kernel
theorem dX0_copyFrom_35 : decode cX0_copyFrom 35 = .ok (.aload_n 0, 1) := by decide +kernel
theorem dX0_copyFrom_36 : decode cX0_copyFrom 36 = .ok (.getfield 18, 3) := by decide +kernel
theorem dX0_copyFrom_39 : decode cX0_copyFrom 39 = .ok (.iconst 0, 1) := by decide +kernel
theorem dX0_copyFrom_40 : decode cX0_copyFrom 40 = .ok (.bipush 6, 2) := by decide +kernel
theorem dX0_copyFrom_42 : decode cX0_copyFrom 42 = .ok (.invokestatic 24, 3) := by decide +kernel
theorem dX0_copyFrom_45 : decode cX0_copyFrom 45 = .ok (.aload_n 1, 1) := by decide +kernel
theorem dX0_copyFrom_46 : decode cX0_copyFrom 46 = .ok (.getfield 21, 3) := by decide +kernel
theorem dX0_copyFrom_49 : decode cX0_copyFrom 49 = .ok (.iconst 0, 1) := by decide +kernel
theorem dX0_copyFrom_50 : decode cX0_copyFrom 50 = .ok (.aload_n 0, 1) := by decide +kernel
theorem dX0_copyFrom_51 : decode cX0_copyFrom 51 = .ok (.getfield 21, 3) := by decide +kernel
theorem dX0_copyFrom_54 : decode cX0_copyFrom 54 = .ok (.iconst 0, 1) := by decide +kernel
theorem dX0_copyFrom_55 : decode cX0_copyFrom 55 = .ok (.bipush 6, 2) := by decide +kernel
theorem dX0_copyFrom_57 : decode cX0_copyFrom 57 = .ok (.invokestatic 24, 3) := by decide +kernel
theorem dX0_copyFrom_60 : decode cX0_copyFrom 60 = .ok (.aload_n 0, 1) := by decide +kernel
theorem dX0_copyFrom_61 : decode cX0_copyFrom 61 = .ok (.aload_n 1, 1) := by decide +kernel
theorem dX0_copyFrom_62 : decode cX0_copyFrom 62 = .ok (.getfield 30, 3) := by decide +kernel
theorem dX0_copyFrom_65 : decode cX0_copyFrom 65 = .ok (.putfield 30, 3) := by decide +kernel
theorem dX0_copyFrom_68 : decode cX0_copyFrom 68 = .ok (.return_, 1) := by decide +kernel
theorem dX0_holds_0 : decode cX0_holds 0 = .ok (.iload_n 1, 1) := by decide +kernel
theorem dX0_holds_1 : decode cX0_holds 1 = .ok (.ifCond .lt 21, 3) := by decide +kernel
theorem dX0_holds_4 : decode cX0_holds 4 = .ok (.iload_n 1, 1) := by decide +kernel
theorem dX0_holds_5 : decode cX0_holds 5 = .ok (.aload_n 0, 1) := by decide +kernel
theorem dX0_holds_6 : decode cX0_holds 6 = .ok (.getfield 30, 3) := by decide +kernel
theorem dX0_holds_9 : decode cX0_holds 9 = .ok (.if_icmp .ge 13, 3) := by decide +kernel
theorem dX0_holds_12 : decode cX0_holds 12 = .ok (.iload_n 1, 1) := by decide +kernel
theorem dX0_holds_13 : decode cX0_holds 13 = .ok (.bipush 6, 2) := by decide +kernel
theorem dX0_holds_15 : decode cX0_holds 15 = .ok (.if_icmp .ge 7, 3) := by decide +kernel
theorem dX0_holds_18 : decode cX0_holds 18 = .ok (.iconst 1, 1) := by decide +kernel
theorem dX0_holds_19 : decode cX0_holds 19 = .ok (.goto 4, 3) := by decide +kernel
theorem dX0_holds_22 : decode cX0_holds 22 = .ok (.iconst 0, 1) := by decide +kernel
theorem dX0_holds_23 : decode cX0_holds 23 = .ok (.ireturn, 1) := by decide +kernel
theorem dX0_insert_0 : decode cX0_insert 0 = .ok (.iload_n 1, 1) := by decide +kernel
theorem dX0_insert_1 : decode cX0_insert 1 = .ok (.iload_n 2, 1) := by decide +kernel
theorem dX0_insert_2 : decode cX0_insert 2 = .ok (.invokestatic 34, 3) := by decide +kernel
theorem dX0_insert_5 : decode cX0_insert 5 = .ok (.ifCond .eq 21, 3) := by decide +kernel
theorem dX0_insert_8 : decode cX0_insert 8 = .ok (.iload_n 3, 1) := by decide +kernel
theorem dX0_insert_9 : decode cX0_insert 9 = .ok (.ifCond .lt 17, 3) := by decide +kernel
theorem dX0_insert_12 : decode cX0_insert 12 = .ok (.iload_n 3, 1) := by decide +kernel
theorem dX0_insert_13 : decode cX0_insert 13 = .ok (.iconst 3, 1) := by decide +kernel
theorem dX0_insert_14 : decode cX0_insert 14 = .ok (.if_icmp .gt 12, 3) := by decide +kernel
theorem dX0_insert_17 : decode cX0_insert 17 = .ok (.iload_n 1, 1) := by decide +kernel
theorem dX0_insert_18 : decode cX0_insert 18 = .ok (.iload 4, 2) := by decide +kernel
theorem dX0_insert_20 : decode cX0_insert 20 = .ok (.invokestatic 38, 3) := by decide +kernel
theorem dX0_insert_23 : decode cX0_insert 23 = .ok (.ifCond .ne 7, 3) := by decide +kernel
theorem dX0_insert_26 : decode cX0_insert 26 = .ok (.sipush (-10002), 3) := by decide +kernel
theorem dX0_insert_29 : decode cX0_insert 29 = .ok (.ireturn, 1) := by decide +kernel
theorem dX0_insert_30 : decode cX0_insert 30 = .ok (.aload_n 0, 1) := by decide +kernel
theorem dX0_insert_31 : decode cX0_insert 31 = .ok (.getfield 30, 3) := by decide +kernel
theorem dX0_insert_34 : decode cX0_insert 34 = .ok (.bipush 6, 2) := by decide +kernel
theorem dX0_insert_36 : decode cX0_insert 36 = .ok (.if_icmp .lt 7, 3) := by decide +kernel
theorem dX0_insert_39 : decode cX0_insert 39 = .ok (.sipush (-10004), 3) := by decide +kernel
theorem dX0_insert_42 : decode cX0_insert 42 = .ok (.ireturn, 1) := by decide +kernel
theorem dX0_insert_43 : decode cX0_insert 43 = .ok (.aload_n 0, 1) := by decide +kernel
theorem dX0_insert_44 : decode cX0_insert 44 = .ok (.getfield 9, 3) := by decide +kernel
theorem dX0_insert_47 : decode cX0_insert 47 = .ok (.aload_n 0, 1) := by decide +kernel
theorem dX0_insert_48 : decode cX0_insert 48 = .ok (.getfield 30, 3) := by decide +kernel
theorem dX0_insert_51 : decode cX0_insert 51 = .ok (.iload_n 1, 1) := by decide +kernel
theorem dX0_insert_52 : decode cX0_insert 52 = .ok (.iastore, 1) := by decide +kernel
theorem dX0_insert_53 : decode cX0_insert 53 = .ok (.aload_n 0, 1) := by decide +kernel
theorem dX0_insert_54 : decode cX0_insert 54 = .ok (.getfield 15, 3) := by decide +kernel
theorem dX0_insert_57 : decode cX0_insert 57 = .ok (.aload_n 0, 1) := by decide +kernel
theorem dX0_insert_58 : decode cX0_insert 58 = .ok (.getfield 30, 3) := by decide +kernel
theorem dX0_insert_61 : decode cX0_insert 61 = .ok (.iload_n 2, 1) := by decide +kernel
theorem dX0_insert_62 : decode cX0_insert 62 = .ok (.iastore, 1) := by decide +kernel
theorem dX0_insert_63 : decode cX0_insert 63 = .ok (.aload_n 0, 1) := by decide +kernel
theorem dX0_insert_64 : decode cX0_insert 64 = .ok (.getfield 18, 3) := by decide +kernel
theorem dX0_insert_67 : decode cX0_insert 67 = .ok (.aload_n 0, 1) := by decide +kernel
theorem dX0_insert_68 : decode cX0_insert 68 = .ok (.getfield 30, 3) := by decide +kernel
theorem dX0_insert_71 : decode cX0_insert 71 = .ok (.iload_n 3, 1) := by decide +kernel
theorem dX0_insert_72 : decode cX0_insert 72 = .ok (.iastore, 1) := by decide +kernel
theorem dX0_insert_73 : decode cX0_insert 73 = .ok (.aload_n 0, 1) := by decide +kernel
theorem dX0_insert_74 : decode cX0_insert 74 = .ok (.getfield 21, 3) := by decide +kernel
theorem dX0_insert_77 : decode cX0_insert 77 = .ok (.aload_n 0, 1) := by decide +kernel
theorem dX0_insert_78 : decode cX0_insert 78 = .ok (.getfield 30, 3) := by decide +kernel
theorem dX0_insert_81 : decode cX0_insert 81 = .ok (.iload 4, 2) := by decide +kernel
theorem dX0_insert_83 : decode cX0_insert 83 = .ok (.iastore, 1) := by decide +kernel
theorem dX0_insert_84 : decode cX0_insert 84 = .ok (.aload_n 0, 1) := by decide +kernel
theorem dX0_insert_85 : decode cX0_insert 85 = .ok (.dup, 1) := by decide +kernel
theorem dX0_insert_86 : decode cX0_insert 86 = .ok (.getfield 30, 3) := by decide +kernel
theorem dX0_insert_89 : decode cX0_insert 89 = .ok (.iconst 1, 1) := by decide +kernel
theorem dX0_insert_90 : decode cX0_insert 90 = .ok (.iadd, 1) := by decide +kernel
theorem dX0_insert_91 : decode cX0_insert 91 = .ok (.putfield 30, 3) := by decide +kernel
theorem dX0_insert_94 : decode cX0_insert 94 = .ok (.aload_n 0, 1) := by decide +kernel
theorem dX0_insert_95 : decode cX0_insert 95 = .ok (.getfield 30, 3) := by decide +kernel
theorem dX0_insert_98 : decode cX0_insert 98 = .ok (.iconst 1, 1) := by decide +kernel
theorem dX0_insert_99 : decode cX0_insert 99 = .ok (.isub, 1) := by decide +kernel
theorem dX0_insert_100 : decode cX0_insert 100 = .ok (.ireturn, 1) := by decide +kernel
theorem dX0_drop_0 : decode cX0_drop 0 = .ok (.aload_n 0, 1) := by decide +kernel
theorem dX0_drop_1 : decode cX0_drop 1 = .ok (.iload_n 1, 1) := by decide +kernel
theorem dX0_drop_2 : decode cX0_drop 2 = .ok (.invokevirtual 41, 3) := by decide +kernel
theorem dX0_drop_5 : decode cX0_drop 5 = .ok (.ifCond .ne 7, 3) := by decide +kernel
theorem dX0_drop_8 : decode cX0_drop 8 = .ok (.sipush (-10002), 3) := by decide +kernel
theorem dX0_drop_11 : decode cX0_drop 11 = .ok (.ireturn, 1) := by decide +kernel
theorem dX0_drop_12 : decode cX0_drop 12 = .ok (.aload_n 0, 1) := by decide +kernel
theorem dX0_drop_13 : decode cX0_drop 13 = .ok (.dup, 1) := by decide +kernel
theorem dX0_drop_14 : decode cX0_drop 14 = .ok (.getfield 30, 3) := by decide +kernel
theorem dX0_drop_17 : decode cX0_drop 17 = .ok (.iconst 1, 1) := by decide +kernel
theorem dX0_drop_18 : decode cX0_drop 18 = .ok (.isub, 1) := by decide +kernel
theorem dX0_drop_19 : decode cX0_drop 19 = .ok (.putfield 30, 3) := by decide +kernel
theorem dX0_drop_22 : decode cX0_drop 22 = .ok (.iload_n 1, 1) := by decide +kernel
theorem dX0_drop_23 : decode cX0_drop 23 = .ok (.istore_n 2, 1) := by decide +kernel
theorem dX0_drop_24 : decode cX0_drop 24 = .ok (.iload_n 2, 1) := by decide +kernel
theorem dX0_drop_25 : decode cX0_drop 25 = .ok (.aload_n 0, 1) := by decide +kernel
theorem dX0_drop_26 : decode cX0_drop 26 = .ok (.getfield 30, 3) := by decide +kernel
theorem dX0_drop_29 : decode cX0_drop 29 = .ok (.if_icmp .ge 65, 3) := by decide +kernel
theorem dX0_drop_32 : decode cX0_drop 32 = .ok (.aload_n 0, 1) := by decide +kernel
theorem dX0_drop_33 : decode cX0_drop 33 = .ok (.getfield 9, 3) := by decide +kernel
theorem dX0_drop_36 : decode cX0_drop 36 = .ok (.iload_n 2, 1) := by decide +kernel
theorem dX0_drop_37 : decode cX0_drop 37 = .ok (.aload_n 0, 1) := by decide +kernel
theorem dX0_drop_38 : decode cX0_drop 38 = .ok (.getfield 9, 3) := by decide +kernel
theorem dX0_drop_41 : decode cX0_drop 41 = .ok (.iload_n 2, 1) := by decide +kernel
theorem dX0_drop_42 : decode cX0_drop 42 = .ok (.iconst 1, 1) := by decide +kernel
theorem dX0_drop_43 : decode cX0_drop 43 = .ok (.iadd, 1) := by decide +kernel
theorem dX0_drop_44 : decode cX0_drop 44 = .ok (.iaload, 1) := by decide +kernel
theorem dX0_drop_45 : decode cX0_drop 45 = .ok (.iastore, 1) := by decide +kernel
theorem dX0_drop_46 : decode cX0_drop 46 = .ok (.aload_n 0, 1) := by decide +kernel
theorem dX0_drop_47 : decode cX0_drop 47 = .ok (.getfield 15, 3) := by decide +kernel
theorem dX0_drop_50 : decode cX0_drop 50 = .ok (.iload_n 2, 1) := by decide +kernel
theorem dX0_drop_51 : decode cX0_drop 51 = .ok (.aload_n 0, 1) := by decide +kernel
theorem dX0_drop_52 : decode cX0_drop 52 = .ok (.getfield 15, 3) := by decide +kernel
theorem dX0_drop_55 : decode cX0_drop 55 = .ok (.iload_n 2, 1) := by decide +kernel
theorem dX0_drop_56 : decode cX0_drop 56 = .ok (.iconst 1, 1) := by decide +kernel
theorem dX0_drop_57 : decode cX0_drop 57 = .ok (.iadd, 1) := by decide +kernel
theorem dX0_drop_58 : decode cX0_drop 58 = .ok (.iaload, 1) := by decide +kernel
theorem dX0_drop_59 : decode cX0_drop 59 = .ok (.iastore, 1) := by decide +kernel
theorem dX0_drop_60 : decode cX0_drop 60 = .ok (.aload_n 0, 1) := by decide +kernel
theorem dX0_drop_61 : decode cX0_drop 61 = .ok (.getfield 18, 3) := by decide +kernel
theorem dX0_drop_64 : decode cX0_drop 64 = .ok (.iload_n 2, 1) := by decide +kernel
theorem dX0_drop_65 : decode cX0_drop 65 = .ok (.aload_n 0, 1) := by decide +kernel
theorem dX0_drop_66 : decode cX0_drop 66 = .ok (.getfield 18, 3) := by decide +kernel
theorem dX0_drop_69 : decode cX0_drop 69 = .ok (.iload_n 2, 1) := by decide +kernel
theorem dX0_drop_70 : decode cX0_drop 70 = .ok (.iconst 1, 1) := by decide +kernel
theorem dX0_drop_71 : decode cX0_drop 71 = .ok (.iadd, 1) := by decide +kernel
theorem dX0_drop_72 : decode cX0_drop 72 = .ok (.iaload, 1) := by decide +kernel
theorem dX0_drop_73 : decode cX0_drop 73 = .ok (.iastore, 1) := by decide +kernel
theorem dX0_drop_74 : decode cX0_drop 74 = .ok (.aload_n 0, 1) := by decide +kernel
theorem dX0_drop_75 : decode cX0_drop 75 = .ok (.getfield 21, 3) := by decide +kernel
theorem dX0_drop_78 : decode cX0_drop 78 = .ok (.iload_n 2, 1) := by decide +kernel
theorem dX0_drop_79 : decode cX0_drop 79 = .ok (.aload_n 0, 1) := by decide +kernel
theorem dX0_drop_80 : decode cX0_drop 80 = .ok (.getfield 21, 3) := by decide +kernel
theorem dX0_drop_83 : decode cX0_drop 83 = .ok (.iload_n 2, 1) := by decide +kernel
theorem dX0_drop_84 : decode cX0_drop 84 = .ok (.iconst 1, 1) := by decide +kernel
theorem dX0_drop_85 : decode cX0_drop 85 = .ok (.iadd, 1) := by decide +kernel
theorem dX0_drop_86 : decode cX0_drop 86 = .ok (.iaload, 1) := by decide +kernel
theorem dX0_drop_87 : decode cX0_drop 87 = .ok (.iastore, 1) := by decide +kernel
theorem dX0_drop_88 : decode cX0_drop 88 = .ok (.iinc 2 1, 3) := by decide +kernel
theorem dX0_drop_91 : decode cX0_drop 91 = .ok (.goto (-67), 3) := by decide +kernel
theorem dX0_drop_94 : decode cX0_drop 94 = .ok (.aload_n 0, 1) := by decide +kernel
theorem dX0_drop_95 : decode cX0_drop 95 = .ok (.getfield 30, 3) := by decide +kernel
theorem dX0_drop_98 : decode cX0_drop 98 = .ok (.ireturn, 1) := by decide +kernel
theorem dX0_constantAt_0 : decode cX0_constantAt 0 = .ok (.aload_n 0, 1) := by decide +kernel
theorem dX0_constantAt_1 : decode cX0_constantAt 1 = .ok (.iload_n 1, 1) := by decide +kernel
theorem dX0_constantAt_2 : decode cX0_constantAt 2 = .ok (.invokevirtual 41, 3) := by decide +kernel
theorem dX0_constantAt_5 : decode cX0_constantAt 5 = .ok (.ifCond .eq 12, 3) := by decide +kernel
theorem dX0_constantAt_8 : decode cX0_constantAt 8 = .ok (.aload_n 0, 1) := by decide +kernel
theorem dX0_constantAt_9 : decode cX0_constantAt 9 = .ok (.getfield 21, 3) := by decide +kernel
theorem dX0_constantAt_12 : decode cX0_constantAt 12 = .ok (.iload_n 1, 1) := by decide +kernel
theorem dX0_constantAt_13 : decode cX0_constantAt 13 = .ok (.iaload, 1) := by decide +kernel
theorem dX0_constantAt_14 : decode cX0_constantAt 14 = .ok (.goto 6, 3) := by decide +kernel
theorem dX0_constantAt_17 : decode cX0_constantAt 17 = .ok (.sipush (-10002), 3) := by decide +kernel
theorem dX0_constantAt_20 : decode cX0_constantAt 20 = .ok (.ireturn, 1) := by decide +kernel
theorem dX0_replaceConstant_0 : decode cX0_replaceConstant 0 = .ok (.aload_n 0, 1) := by decide +kernel
theorem dX0_replaceConstant_1 : decode cX0_replaceConstant 1 = .ok (.iload_n 1, 1) := by decide +kernel
theorem dX0_replaceConstant_2 : decode cX0_replaceConstant 2 = .ok (.invokevirtual 41, 3) := by decide +kernel
theorem dX0_replaceConstant_5 : decode cX0_replaceConstant 5 = .ok (.ifCond .eq 16, 3) := by decide +kernel
theorem dX0_replaceConstant_8 : decode cX0_replaceConstant 8 = .ok (.aload_n 0, 1) := by decide +kernel
theorem dX0_replaceConstant_9 : decode cX0_replaceConstant 9 = .ok (.getfield 9, 3) := by decide +kernel
theorem dX0_replaceConstant_12 : decode cX0_replaceConstant 12 = .ok (.iload_n 1, 1) := by decide +kernel
theorem dX0_replaceConstant_13 : decode cX0_replaceConstant 13 = .ok (.iaload, 1) := by decide +kernel
theorem dX0_replaceConstant_14 : decode cX0_replaceConstant 14 = .ok (.iload_n 2, 1) := by decide +kernel
theorem dX0_replaceConstant_15 : decode cX0_replaceConstant 15 = .ok (.invokestatic 38, 3) := by decide +kernel
theorem dX0_replaceConstant_18 : decode cX0_replaceConstant 18 = .ok (.ifCond .ne 7, 3) := by decide +kernel
theorem dX0_replaceConstant_21 : decode cX0_replaceConstant 21 = .ok (.sipush (-10002), 3) := by decide +kernel
theorem dX0_replaceConstant_24 : decode cX0_replaceConstant 24 = .ok (.ireturn, 1) := by decide +kernel
theorem dX0_replaceConstant_25 : decode cX0_replaceConstant 25 = .ok (.aload_n 0, 1) := by decide +kernel
theorem dX0_replaceConstant_26 : decode cX0_replaceConstant 26 = .ok (.getfield 21, 3) := by decide +kernel
theorem dX0_replaceConstant_29 : decode cX0_replaceConstant 29 = .ok (.iload_n 1, 1) := by decide +kernel
theorem dX0_replaceConstant_30 : decode cX0_replaceConstant 30 = .ok (.iaload, 1) := by decide +kernel
theorem dX0_replaceConstant_31 : decode cX0_replaceConstant 31 = .ok (.istore_n 3, 1) := by decide +kernel
theorem dX0_replaceConstant_32 : decode cX0_replaceConstant 32 = .ok (.aload_n 0, 1) := by decide +kernel
theorem dX0_replaceConstant_33 : decode cX0_replaceConstant 33 = .ok (.getfield 21, 3) := by decide +kernel
theorem dX0_replaceConstant_36 : decode cX0_replaceConstant 36 = .ok (.iload_n 1, 1) := by decide +kernel
theorem dX0_replaceConstant_37 : decode cX0_replaceConstant 37 = .ok (.iload_n 2, 1) := by decide +kernel
theorem dX0_replaceConstant_38 : decode cX0_replaceConstant 38 = .ok (.iastore, 1) := by decide +kernel
theorem dX0_replaceConstant_39 : decode cX0_replaceConstant 39 = .ok (.iload_n 3, 1) := by decide +kernel
theorem dX0_replaceConstant_40 : decode cX0_replaceConstant 40 = .ok (.ireturn, 1) := by decide +kernel
theorem dX0_isAtStage_0 : decode cX0_isAtStage 0 = .ok (.aload_n 0, 1) := by decide +kernel
theorem dX0_isAtStage_1 : decode cX0_isAtStage 1 = .ok (.iload_n 1, 1) := by decide +kernel
theorem dX0_isAtStage_2 : decode cX0_isAtStage 2 = .ok (.invokevirtual 41, 3) := by decide +kernel
theorem dX0_isAtStage_5 : decode cX0_isAtStage 5 = .ok (.ifCond .eq 17, 3) := by decide +kernel
theorem dX0_isAtStage_8 : decode cX0_isAtStage 8 = .ok (.aload_n 0, 1) := by decide +kernel
theorem dX0_isAtStage_9 : decode cX0_isAtStage 9 = .ok (.getfield 9, 3) := by decide +kernel
theorem dX0_isAtStage_12 : decode cX0_isAtStage 12 = .ok (.iload_n 1, 1) := by decide +kernel
theorem dX0_isAtStage_13 : decode cX0_isAtStage 13 = .ok (.iaload, 1) := by decide +kernel
theorem dX0_isAtStage_14 : decode cX0_isAtStage 14 = .ok (.iload_n 2, 1) := by decide +kernel
theorem dX0_isAtStage_15 : decode cX0_isAtStage 15 = .ok (.if_icmp .ne 7, 3) := by decide +kernel
theorem dX0_isAtStage_18 : decode cX0_isAtStage 18 = .ok (.iconst 1, 1) := by decide +kernel
theorem dX0_isAtStage_19 : decode cX0_isAtStage 19 = .ok (.goto 4, 3) := by decide +kernel
theorem dX0_isAtStage_22 : decode cX0_isAtStage 22 = .ok (.iconst 0, 1) := by decide +kernel
theorem dX0_isAtStage_23 : decode cX0_isAtStage 23 = .ok (.ireturn, 1) := by decide +kernel
theorem dX0_mayHaveConstant_0 : decode cX0_mayHaveConstant 0 = .ok (.aload_n 0, 1) := by decide +kernel
theorem dX0_mayHaveConstant_1 : decode cX0_mayHaveConstant 1 = .ok (.iload_n 1, 1) := by decide +kernel
theorem dX0_mayHaveConstant_2 : decode cX0_mayHaveConstant 2 = .ok (.invokevirtual 41, 3) := by decide +kernel
theorem dX0_mayHaveConstant_5 : decode cX0_mayHaveConstant 5 = .ok (.ifCond .eq 20, 3) := by decide +kernel
theorem dX0_mayHaveConstant_8 : decode cX0_mayHaveConstant 8 = .ok (.aload_n 0, 1) := by decide +kernel
theorem dX0_mayHaveConstant_9 : decode cX0_mayHaveConstant 9 = .ok (.getfield 9, 3) := by decide +kernel
theorem dX0_mayHaveConstant_12 : decode cX0_mayHaveConstant 12 = .ok (.iload_n 1, 1) := by decide +kernel
theorem dX0_mayHaveConstant_13 : decode cX0_mayHaveConstant 13 = .ok (.iaload, 1) := by decide +kernel
theorem dX0_mayHaveConstant_14 : decode cX0_mayHaveConstant 14 = .ok (.iload_n 2, 1) := by decide +kernel
theorem dX0_mayHaveConstant_15 : decode cX0_mayHaveConstant 15 = .ok (.invokestatic 38, 3) := by decide +kernel
theorem dX0_mayHaveConstant_18 : decode cX0_mayHaveConstant 18 = .ok (.ifCond .eq 7, 3) := by decide +kernel
theorem dX0_mayHaveConstant_21 : decode cX0_mayHaveConstant 21 = .ok (.iconst 1, 1) := by decide +kernel
theorem dX0_mayHaveConstant_22 : decode cX0_mayHaveConstant 22 = .ok (.goto 4, 3) := by decide +kernel
theorem dX0_mayHaveConstant_25 : decode cX0_mayHaveConstant 25 = .ok (.iconst 0, 1) := by decide +kernel
theorem dX0_mayHaveConstant_26 : decode cX0_mayHaveConstant 26 = .ok (.ireturn, 1) := by decide +kernel
theorem dX0_accepts_0 : decode cX0_accepts 0 = .ok (.aload_n 0, 1) := by decide +kernel
theorem dX0_accepts_1 : decode cX0_accepts 1 = .ok (.iload_n 1, 1) := by decide +kernel
theorem dX0_accepts_2 : decode cX0_accepts 2 = .ok (.invokevirtual 41, 3) := by decide +kernel
theorem dX0_accepts_5 : decode cX0_accepts 5 = .ok (.ifCond .eq 44, 3) := by decide +kernel
theorem dX0_accepts_8 : decode cX0_accepts 8 = .ok (.aload_n 0, 1) := by decide +kernel
theorem dX0_accepts_9 : decode cX0_accepts 9 = .ok (.getfield 9, 3) := by decide +kernel
theorem dX0_accepts_12 : decode cX0_accepts 12 = .ok (.iload_n 1, 1) := by decide +kernel
theorem dX0_accepts_13 : decode cX0_accepts 13 = .ok (.iaload, 1) := by decide +kernel
theorem dX0_accepts_14 : decode cX0_accepts 14 = .ok (.aload_n 0, 1) := by decide +kernel
theorem dX0_accepts_15 : decode cX0_accepts 15 = .ok (.getfield 15, 3) := by decide +kernel
theorem dX0_accepts_18 : decode cX0_accepts 18 = .ok (.iload_n 1, 1) := by decide +kernel
theorem dX0_accepts_19 : decode cX0_accepts 19 = .ok (.iaload, 1) := by decide +kernel
theorem dX0_accepts_20 : decode cX0_accepts 20 = .ok (.iload_n 2, 1) := by decide +kernel
theorem dX0_accepts_21 : decode cX0_accepts 21 = .ok (.iload_n 3, 1) := by decide +kernel
theorem dX0_accepts_22 : decode cX0_accepts 22 = .ok (.iload 4, 2) := by decide +kernel
theorem dX0_accepts_24 : decode cX0_accepts 24 = .ok (.invokestatic 45, 3) := by decide +kernel
theorem dX0_accepts_27 : decode cX0_accepts 27 = .ok (.aload_n 0, 1) := by decide +kernel
theorem dX0_accepts_28 : decode cX0_accepts 28 = .ok (.getfield 18, 3) := by decide +kernel
theorem dX0_accepts_31 : decode cX0_accepts 31 = .ok (.iload_n 1, 1) := by decide +kernel
theorem dX0_accepts_32 : decode cX0_accepts 32 = .ok (.iaload, 1) := by decide +kernel
theorem dX0_accepts_33 : decode cX0_accepts 33 = .ok (.aload_n 0, 1) := by decide +kernel
theorem dX0_accepts_34 : decode cX0_accepts 34 = .ok (.getfield 21, 3) := by decide +kernel
theorem dX0_accepts_37 : decode cX0_accepts 37 = .ok (.iload_n 1, 1) := by decide +kernel
theorem dX0_accepts_38 : decode cX0_accepts 38 = .ok (.iaload, 1) := by decide +kernel
theorem dX0_accepts_39 : decode cX0_accepts 39 = .ok (.invokestatic 49, 3) := by decide +kernel
theorem dX0_accepts_42 : decode cX0_accepts 42 = .ok (.ifCond .eq 7, 3) := by decide +kernel
theorem dX0_accepts_45 : decode cX0_accepts 45 = .ok (.iconst 1, 1) := by decide +kernel
theorem dX0_accepts_46 : decode cX0_accepts 46 = .ok (.goto 4, 3) := by decide +kernel
theorem dX0_accepts_49 : decode cX0_accepts 49 = .ok (.iconst 0, 1) := by decide +kernel
theorem dX0_accepts_50 : decode cX0_accepts 50 = .ok (.ireturn, 1) := by decide +kernel
theorem dX0_acceptsWith_0 : decode cX0_acceptsWith 0 = .ok (.aload_n 0, 1) := by decide +kernel
theorem dX0_acceptsWith_1 : decode cX0_acceptsWith 1 = .ok (.iload_n 2, 1) := by decide +kernel
theorem dX0_acceptsWith_2 : decode cX0_acceptsWith 2 = .ok (.invokevirtual 41, 3) := by decide +kernel
theorem dX0_acceptsWith_5 : decode cX0_acceptsWith 5 = .ok (.ifCond .eq 40, 3) := by decide +kernel
theorem dX0_acceptsWith_8 : decode cX0_acceptsWith 8 = .ok (.aload_n 0, 1) := by decide +kernel
theorem dX0_acceptsWith_9 : decode cX0_acceptsWith 9 = .ok (.getfield 9, 3) := by decide +kernel
theorem dX0_acceptsWith_12 : decode cX0_acceptsWith 12 = .ok (.iload_n 2, 1) := by decide +kernel
theorem dX0_acceptsWith_13 : decode cX0_acceptsWith 13 = .ok (.iaload, 1) := by decide +kernel
theorem dX0_acceptsWith_14 : decode cX0_acceptsWith 14 = .ok (.aload_n 0, 1) := by decide +kernel
theorem dX0_acceptsWith_15 : decode cX0_acceptsWith 15 = .ok (.getfield 15, 3) := by decide +kernel
theorem dX0_acceptsWith_18 : decode cX0_acceptsWith 18 = .ok (.iload_n 2, 1) := by decide +kernel
theorem dX0_acceptsWith_19 : decode cX0_acceptsWith 19 = .ok (.iaload, 1) := by decide +kernel
theorem dX0_acceptsWith_20 : decode cX0_acceptsWith 20 = .ok (.iload_n 3, 1) := by decide +kernel
theorem dX0_acceptsWith_21 : decode cX0_acceptsWith 21 = .ok (.iload 4, 2) := by decide +kernel
theorem dX0_acceptsWith_23 : decode cX0_acceptsWith 23 = .ok (.iload 5, 2) := by decide +kernel
theorem dX0_acceptsWith_25 : decode cX0_acceptsWith 25 = .ok (.invokestatic 45, 3) := by decide +kernel
theorem dX0_acceptsWith_28 : decode cX0_acceptsWith 28 = .ok (.aload_n 0, 1) := by decide +kernel
theorem dX0_acceptsWith_29 : decode cX0_acceptsWith 29 = .ok (.getfield 18, 3) := by decide +kernel
theorem dX0_acceptsWith_32 : decode cX0_acceptsWith 32 = .ok (.iload_n 2, 1) := by decide +kernel
theorem dX0_acceptsWith_33 : decode cX0_acceptsWith 33 = .ok (.iaload, 1) := by decide +kernel
theorem dX0_acceptsWith_34 : decode cX0_acceptsWith 34 = .ok (.iload_n 1, 1) := by decide +kernel
theorem dX0_acceptsWith_35 : decode cX0_acceptsWith 35 = .ok (.invokestatic 49, 3) := by decide +kernel
theorem dX0_acceptsWith_38 : decode cX0_acceptsWith 38 = .ok (.ifCond .eq 7, 3) := by decide +kernel
theorem dX0_acceptsWith_41 : decode cX0_acceptsWith 41 = .ok (.iconst 1, 1) := by decide +kernel
theorem dX0_acceptsWith_42 : decode cX0_acceptsWith 42 = .ok (.goto 4, 3) := by decide +kernel
theorem dX0_acceptsWith_45 : decode cX0_acceptsWith 45 = .ok (.iconst 0, 1) := by decide +kernel
theorem dX0_acceptsWith_46 : decode cX0_acceptsWith 46 = .ok (.ireturn, 1) := by decide +kernel
theorem dX0_rejecters_0 : decode cX0_rejecters 0 = .ok (.iconst 0, 1) := by decide +kernel
theorem dX0_rejecters_1 : decode cX0_rejecters 1 = .ok (.istore 4, 2) := by decide +kernel
theorem dX0_rejecters_3 : decode cX0_rejecters 3 = .ok (.iconst 0, 1) := by decide +kernel
theorem dX0_rejecters_4 : decode cX0_rejecters 4 = .ok (.istore 5, 2) := by decide +kernel
theorem dX0_rejecters_6 : decode cX0_rejecters 6 = .ok (.iload 5, 2) := by decide +kernel
theorem dX0_rejecters_8 : decode cX0_rejecters 8 = .ok (.aload_n 0, 1) := by decide +kernel
theorem dX0_rejecters_9 : decode cX0_rejecters 9 = .ok (.getfield 30, 3) := by decide +kernel
theorem dX0_rejecters_12 : decode cX0_rejecters 12 = .ok (.if_icmp .ge 37, 3) := by decide +kernel
theorem dX0_rejecters_15 : decode cX0_rejecters 15 = .ok (.iload 5, 2) := by decide +kernel
theorem dX0_rejecters_17 : decode cX0_rejecters 17 = .ok (.bipush 6, 2) := by decide +kernel
theorem dX0_rejecters_19 : decode cX0_rejecters 19 = .ok (.if_icmp .ge 30, 3) := by decide +kernel
theorem dX0_rejecters_22 : decode cX0_rejecters 22 = .ok (.aload_n 0, 1) := by decide +kernel
theorem dX0_rejecters_23 : decode cX0_rejecters 23 = .ok (.iload 5, 2) := by decide +kernel
theorem dX0_rejecters_25 : decode cX0_rejecters 25 = .ok (.iload_n 1, 1) := by decide +kernel
theorem dX0_rejecters_26 : decode cX0_rejecters 26 = .ok (.iload_n 2, 1) := by decide +kernel
theorem dX0_rejecters_27 : decode cX0_rejecters 27 = .ok (.iload_n 3, 1) := by decide +kernel
theorem dX0_rejecters_28 : decode cX0_rejecters 28 = .ok (.invokevirtual 53, 3) := by decide +kernel
theorem dX0_rejecters_31 : decode cX0_rejecters 31 = .ok (.ifCond .ne 12, 3) := by decide +kernel
theorem dX0_rejecters_34 : decode cX0_rejecters 34 = .ok (.iload 4, 2) := by decide +kernel
theorem dX0_rejecters_36 : decode cX0_rejecters 36 = .ok (.iconst 1, 1) := by decide +kernel
theorem dX0_rejecters_37 : decode cX0_rejecters 37 = .ok (.iload 5, 2) := by decide +kernel
theorem dX0_rejecters_39 : decode cX0_rejecters 39 = .ok (.ishl, 1) := by decide +kernel
theorem dX0_rejecters_40 : decode cX0_rejecters 40 = .ok (.ior, 1) := by decide +kernel
theorem dX0_rejecters_41 : decode cX0_rejecters 41 = .ok (.istore 4, 2) := by decide +kernel
theorem dX0_rejecters_43 : decode cX0_rejecters 43 = .ok (.iinc 5 1, 3) := by decide +kernel
theorem dX0_rejecters_46 : decode cX0_rejecters 46 = .ok (.goto (-40), 3) := by decide +kernel
theorem dX0_rejecters_49 : decode cX0_rejecters 49 = .ok (.iload 4, 2) := by decide +kernel
theorem dX0_rejecters_51 : decode cX0_rejecters 51 = .ok (.ireturn, 1) := by decide +kernel
theorem dX0_isColumn_0 : decode cX0_isColumn 0 = .ok (.iload_n 0, 1) := by decide +kernel
theorem dX0_isColumn_1 : decode cX0_isColumn 1 = .ok (.ifCond .lt 8, 3) := by decide +kernel
theorem dX0_isColumn_4 : decode cX0_isColumn 4 = .ok (.iload_n 0, 1) := by decide +kernel
theorem dX0_isColumn_5 : decode cX0_isColumn 5 = .ok (.iconst 2, 1) := by decide +kernel
theorem dX0_isColumn_6 : decode cX0_isColumn 6 = .ok (.if_icmp .le 5, 3) := by decide +kernel
theorem dX0_isColumn_9 : decode cX0_isColumn 9 = .ok (.iconst 0, 1) := by decide +kernel
theorem dX0_isColumn_10 : decode cX0_isColumn 10 = .ok (.ireturn, 1) := by decide +kernel
theorem dX0_isColumn_11 : decode cX0_isColumn 11 = .ok (.iload_n 1, 1) := by decide +kernel
theorem dX0_isColumn_12 : decode cX0_isColumn 12 = .ok (.ifCond .lt 21, 3) := by decide +kernel
theorem dX0_isColumn_15 : decode cX0_isColumn 15 = .ok (.iload_n 1, 1) := by decide +kernel
theorem dX0_isColumn_16 : decode cX0_isColumn 16 = .ok (.iload_n 0, 1) := by decide +kernel
theorem dX0_isColumn_17 : decode cX0_isColumn 17 = .ok (.iconst 2, 1) := by decide +kernel
theorem dX0_isColumn_18 : decode cX0_isColumn 18 = .ok (.if_icmp .ne 7, 3) := by decide +kernel
theorem dX0_isColumn_21 : decode cX0_isColumn 21 = .ok (.iconst 2, 1) := by decide +kernel
theorem dX0_isColumn_22 : decode cX0_isColumn 22 = .ok (.goto 4, 3) := by decide +kernel
theorem dX0_isColumn_25 : decode cX0_isColumn 25 = .ok (.iconst 1, 1) := by decide +kernel
theorem dX0_isColumn_26 : decode cX0_isColumn 26 = .ok (.if_icmp .gt 7, 3) := by decide +kernel
theorem dX0_isColumn_29 : decode cX0_isColumn 29 = .ok (.iconst 1, 1) := by decide +kernel
theorem dX0_isColumn_30 : decode cX0_isColumn 30 = .ok (.goto 4, 3) := by decide +kernel
theorem dX0_isColumn_33 : decode cX0_isColumn 33 = .ok (.iconst 0, 1) := by decide +kernel
theorem dX0_isColumn_34 : decode cX0_isColumn 34 = .ok (.ireturn, 1) := by decide +kernel
theorem dX0_isConstant_0 : decode cX0_isConstant 0 = .ok (.iload_n 0, 1) := by decide +kernel
theorem dX0_isConstant_1 : decode cX0_isConstant 1 = .ok (.iconst 2, 1) := by decide +kernel
theorem dX0_isConstant_2 : decode cX0_isConstant 2 = .ok (.if_icmp .ne 21, 3) := by decide +kernel
theorem dX0_isConstant_5 : decode cX0_isConstant 5 = .ok (.iload_n 1, 1) := by decide +kernel
theorem dX0_isConstant_6 : decode cX0_isConstant 6 = .ok (.bipush (-9), 2) := by decide +kernel
theorem dX0_isConstant_8 : decode cX0_isConstant 8 = .ok (.if_icmp .lt 13, 3) := by decide +kernel
theorem dX0_isConstant_11 : decode cX0_isConstant 11 = .ok (.iload_n 1, 1) := by decide +kernel
theorem dX0_isConstant_12 : decode cX0_isConstant 12 = .ok (.bipush 18, 2) := by decide +kernel
theorem dX0_isConstant_14 : decode cX0_isConstant 14 = .ok (.if_icmp .gt 7, 3) := by decide +kernel
theorem dX0_isConstant_17 : decode cX0_isConstant 17 = .ok (.iconst 1, 1) := by decide +kernel
theorem dX0_isConstant_18 : decode cX0_isConstant 18 = .ok (.goto 4, 3) := by decide +kernel
theorem dX0_isConstant_21 : decode cX0_isConstant 21 = .ok (.iconst 0, 1) := by decide +kernel
theorem dX0_isConstant_22 : decode cX0_isConstant 22 = .ok (.ireturn, 1) := by decide +kernel
theorem dX0_isConstant_23 : decode cX0_isConstant 23 = .ok (.iload_n 1, 1) := by decide +kernel
theorem dX0_isConstant_24 : decode cX0_isConstant 24 = .ok (.invokestatic 57, 3) := by decide +kernel
theorem dX0_isConstant_27 : decode cX0_isConstant 27 = .ok (.ireturn, 1) := by decide +kernel
theorem dX0_compare_0 : decode cX0_compare 0 = .ok (.iload_n 1, 1) := by decide +kernel
theorem dX0_compare_1 : decode cX0_compare 1 = .ok (.tableswitch 60 0 2 #[27, 38, 49], 27) := by decide +kernel
theorem dX0_compare_28 : decode cX0_compare 28 = .ok (.iload_n 0, 1) := by decide +kernel
theorem dX0_compare_29 : decode cX0_compare 29 = .ok (.iload_n 2, 1) := by decide +kernel
theorem dX0_compare_30 : decode cX0_compare 30 = .ok (.if_icmp .gt 7, 3) := by decide +kernel
theorem dX0_compare_33 : decode cX0_compare 33 = .ok (.iconst 1, 1) := by decide +kernel
theorem dX0_compare_34 : decode cX0_compare 34 = .ok (.goto 4, 3) := by decide +kernel
theorem dX0_compare_37 : decode cX0_compare 37 = .ok (.iconst 0, 1) := by decide +kernel
theorem dX0_compare_38 : decode cX0_compare 38 = .ok (.ireturn, 1) := by decide +kernel
theorem dX0_compare_39 : decode cX0_compare 39 = .ok (.iload_n 0, 1) := by decide +kernel
theorem dX0_compare_40 : decode cX0_compare 40 = .ok (.iload_n 2, 1) := by decide +kernel
theorem dX0_compare_41 : decode cX0_compare 41 = .ok (.if_icmp .lt 7, 3) := by decide +kernel
theorem dX0_compare_44 : decode cX0_compare 44 = .ok (.iconst 1, 1) := by decide +kernel
theorem dX0_compare_45 : decode cX0_compare 45 = .ok (.goto 4, 3) := by decide +kernel
theorem dX0_compare_48 : decode cX0_compare 48 = .ok (.iconst 0, 1) := by decide +kernel
theorem dX0_compare_49 : decode cX0_compare 49 = .ok (.ireturn, 1) := by decide +kernel
theorem dX0_compare_50 : decode cX0_compare 50 = .ok (.iload_n 0, 1) := by decide +kernel
theorem dX0_compare_51 : decode cX0_compare 51 = .ok (.iload_n 2, 1) := by decide +kernel
theorem dX0_compare_52 : decode cX0_compare 52 = .ok (.if_icmp .ne 7, 3) := by decide +kernel
theorem dX0_compare_55 : decode cX0_compare 55 = .ok (.iconst 1, 1) := by decide +kernel
theorem dX0_compare_56 : decode cX0_compare 56 = .ok (.goto 4, 3) := by decide +kernel
theorem dX0_compare_59 : decode cX0_compare 59 = .ok (.iconst 0, 1) := by decide +kernel
theorem dX0_compare_60 : decode cX0_compare 60 = .ok (.ireturn, 1) := by decide +kernel
theorem dX0_compare_61 : decode cX0_compare 61 = .ok (.iload_n 0, 1) := by decide +kernel
theorem dX0_compare_62 : decode cX0_compare 62 = .ok (.iload_n 2, 1) := by decide +kernel
theorem dX0_compare_63 : decode cX0_compare 63 = .ok (.if_icmp .eq 7, 3) := by decide +kernel
theorem dX0_compare_66 : decode cX0_compare 66 = .ok (.iconst 1, 1) := by decide +kernel
theorem dX0_compare_67 : decode cX0_compare 67 = .ok (.goto 4, 3) := by decide +kernel
theorem dX0_compare_70 : decode cX0_compare 70 = .ok (.iconst 0, 1) := by decide +kernel
theorem dX0_compare_71 : decode cX0_compare 71 = .ok (.ireturn, 1) := by decide +kernel
theorem dX0_columnValue_0 : decode cX0_columnValue 0 = .ok (.iload_n 0, 1) := by decide +kernel
theorem dX0_columnValue_1 : decode cX0_columnValue 1 = .ok (.lookupswitch 48 #[(0, 27), (1, 37)], 27) := by decide +kernel
theorem dX0_columnValue_28 : decode cX0_columnValue 28 = .ok (.iload_n 1, 1) := by decide +kernel
theorem dX0_columnValue_29 : decode cX0_columnValue 29 = .ok (.ifCond .ne 7, 3) := by decide +kernel
theorem dX0_columnValue_32 : decode cX0_columnValue 32 = .ok (.iload_n 2, 1) := by decide +kernel
theorem dX0_columnValue_33 : decode cX0_columnValue 33 = .ok (.goto 4, 3) := by decide +kernel
theorem dX0_columnValue_36 : decode cX0_columnValue 36 = .ok (.iload_n 3, 1) := by decide +kernel
theorem dX0_columnValue_37 : decode cX0_columnValue 37 = .ok (.ireturn, 1) := by decide +kernel
theorem dX0_columnValue_38 : decode cX0_columnValue 38 = .ok (.iload_n 1, 1) := by decide +kernel
theorem dX0_columnValue_39 : decode cX0_columnValue 39 = .ok (.ifCond .ne 7, 3) := by decide +kernel
theorem dX0_columnValue_42 : decode cX0_columnValue 42 = .ok (.iload_n 3, 1) := by decide +kernel
theorem dX0_columnValue_43 : decode cX0_columnValue 43 = .ok (.goto 5, 3) := by decide +kernel
theorem dX0_columnValue_46 : decode cX0_columnValue 46 = .ok (.iload 4, 2) := by decide +kernel
theorem dX0_columnValue_48 : decode cX0_columnValue 48 = .ok (.ireturn, 1) := by decide +kernel
theorem dX0_columnValue_49 : decode cX0_columnValue 49 = .ok (.iload_n 1, 1) := by decide +kernel
theorem dX0_columnValue_50 : decode cX0_columnValue 50 = .ok (.iconst 2, 1) := by decide +kernel
theorem dX0_columnValue_51 : decode cX0_columnValue 51 = .ok (.if_icmp .ne 7, 3) := by decide +kernel
theorem dX0_columnValue_54 : decode cX0_columnValue 54 = .ok (.iload_n 3, 1) := by decide +kernel
theorem dX0_columnValue_55 : decode cX0_columnValue 55 = .ok (.goto 18, 3) := by decide +kernel
theorem dX0_columnValue_58 : decode cX0_columnValue 58 = .ok (.iload_n 1, 1) := by decide +kernel
theorem dX0_columnValue_59 : decode cX0_columnValue 59 = .ok (.ifCond .ne 10, 3) := by decide +kernel
theorem dX0_columnValue_62 : decode cX0_columnValue 62 = .ok (.iload_n 2, 1) := by decide +kernel
theorem dX0_columnValue_63 : decode cX0_columnValue 63 = .ok (.iload 4, 2) := by decide +kernel
theorem dX0_columnValue_65 : decode cX0_columnValue 65 = .ok (.isub, 1) := by decide +kernel
theorem dX0_columnValue_66 : decode cX0_columnValue 66 = .ok (.goto 7, 3) := by decide +kernel
theorem dX0_columnValue_69 : decode cX0_columnValue 69 = .ok (.iload_n 2, 1) := by decide +kernel
theorem dX0_columnValue_70 : decode cX0_columnValue 70 = .ok (.iload 4, 2) := by decide +kernel
theorem dX0_columnValue_72 : decode cX0_columnValue 72 = .ok (.iadd, 1) := by decide +kernel
theorem dX0_columnValue_73 : decode cX0_columnValue 73 = .ok (.ireturn, 1) := by decide +kernel
theorem dX1_init_0 : decode cX1_init 0 = .ok (.aload_n 0, 1) := by decide +kernel
theorem dX1_init_1 : decode cX1_init 1 = .ok (.invokespecial 3, 3) := by decide +kernel
theorem dX1_init_4 : decode cX1_init 4 = .ok (.aload_n 0, 1) := by decide +kernel
theorem dX1_init_5 : decode cX1_init 5 = .ok (.bipush 6, 2) := by decide +kernel
theorem dX1_init_7 : decode cX1_init 7 = .ok (.anewarray 11, 3) := by decide +kernel
theorem dX1_init_10 : decode cX1_init 10 = .ok (.putfield 13, 3) := by decide +kernel
theorem dX1_init_13 : decode cX1_init 13 = .ok (.iconst 0, 1) := by decide +kernel
theorem dX1_init_14 : decode cX1_init 14 = .ok (.istore_n 1, 1) := by decide +kernel
theorem dX1_init_15 : decode cX1_init 15 = .ok (.iload_n 1, 1) := by decide +kernel
theorem dX1_init_16 : decode cX1_init 16 = .ok (.bipush 6, 2) := by decide +kernel
theorem dX1_init_18 : decode cX1_init 18 = .ok (.if_icmp .ge 22, 3) := by decide +kernel
theorem dX1_init_21 : decode cX1_init 21 = .ok (.aload_n 0, 1) := by decide +kernel
theorem dX1_init_22 : decode cX1_init 22 = .ok (.getfield 13, 3) := by decide +kernel
theorem dX1_init_25 : decode cX1_init 25 = .ok (.iload_n 1, 1) := by decide +kernel
theorem dX1_init_26 : decode cX1_init 26 = .ok (.new 11, 3) := by decide +kernel
theorem dX1_init_29 : decode cX1_init 29 = .ok (.dup, 1) := by decide +kernel
theorem dX1_init_30 : decode cX1_init 30 = .ok (.invokespecial 17, 3) := by decide +kernel
theorem dX1_init_33 : decode cX1_init 33 = .ok (.aastore, 1) := by decide +kernel
theorem dX1_init_34 : decode cX1_init 34 = .ok (.iinc 1 1, 3) := by decide +kernel
theorem dX1_init_37 : decode cX1_init 37 = .ok (.goto (-22), 3) := by decide +kernel
theorem dX1_init_40 : decode cX1_init 40 = .ok (.return_, 1) := by decide +kernel
theorem dX1_draft_0 : decode cX1_draft 0 = .ok (.aload_n 0, 1) := by decide +kernel
theorem dX1_draft_1 : decode cX1_draft 1 = .ok (.getfield 13, 3) := by decide +kernel
theorem dX1_draft_4 : decode cX1_draft 4 = .ok (.aload_n 0, 1) := by decide +kernel
theorem dX1_draft_5 : decode cX1_draft 5 = .ok (.getfield 18, 3) := by decide +kernel
theorem dX1_draft_8 : decode cX1_draft 8 = .ok (.aaload, 1) := by decide +kernel
theorem dX1_draft_9 : decode cX1_draft 9 = .ok (.aload_n 1, 1) := by decide +kernel
theorem dX1_draft_10 : decode cX1_draft 10 = .ok (.invokevirtual 22, 3) := by decide +kernel
theorem dX1_draft_13 : decode cX1_draft 13 = .ok (.return_, 1) := by decide +kernel
theorem dX1_keepDraft_0 : decode cX1_keepDraft 0 = .ok (.aload_n 0, 1) := by decide +kernel
theorem dX1_keepDraft_1 : decode cX1_keepDraft 1 = .ok (.aload_n 0, 1) := by decide +kernel
theorem dX1_keepDraft_2 : decode cX1_keepDraft 2 = .ok (.getfield 18, 3) := by decide +kernel
theorem dX1_keepDraft_5 : decode cX1_keepDraft 5 = .ok (.iconst 1, 1) := by decide +kernel
theorem dX1_keepDraft_6 : decode cX1_keepDraft 6 = .ok (.iadd, 1) := by decide +kernel
theorem dX1_keepDraft_7 : decode cX1_keepDraft 7 = .ok (.bipush 6, 2) := by decide +kernel
theorem dX1_keepDraft_9 : decode cX1_keepDraft 9 = .ok (.irem, 1) := by decide +kernel
theorem dX1_keepDraft_10 : decode cX1_keepDraft 10 = .ok (.putfield 18, 3) := by decide +kernel
theorem dX1_keepDraft_13 : decode cX1_keepDraft 13 = .ok (.aload_n 0, 1) := by decide +kernel
theorem dX1_keepDraft_14 : decode cX1_keepDraft 14 = .ok (.aload_n 0, 1) := by decide +kernel
theorem dX1_keepDraft_15 : decode cX1_keepDraft 15 = .ok (.getfield 26, 3) := by decide +kernel
theorem dX1_keepDraft_18 : decode cX1_keepDraft 18 = .ok (.iconst 1, 1) := by decide +kernel
theorem dX1_keepDraft_19 : decode cX1_keepDraft 19 = .ok (.iadd, 1) := by decide +kernel
theorem dX1_keepDraft_20 : decode cX1_keepDraft 20 = .ok (.iconst 5, 1) := by decide +kernel
theorem dX1_keepDraft_21 : decode cX1_keepDraft 21 = .ok (.invokestatic 29, 3) := by decide +kernel
theorem dX1_keepDraft_24 : decode cX1_keepDraft 24 = .ok (.putfield 26, 3) := by decide +kernel
theorem dX1_keepDraft_27 : decode cX1_keepDraft 27 = .ok (.return_, 1) := by decide +kernel
theorem dX1_returnToDraft_0 : decode cX1_returnToDraft 0 = .ok (.aload_n 1, 1) := by decide +kernel
theorem dX1_returnToDraft_1 : decode cX1_returnToDraft 1 = .ok (.aload_n 0, 1) := by decide +kernel
theorem dX1_returnToDraft_2 : decode cX1_returnToDraft 2 = .ok (.getfield 13, 3) := by decide +kernel
theorem dX1_returnToDraft_5 : decode cX1_returnToDraft 5 = .ok (.aload_n 0, 1) := by decide +kernel
theorem dX1_returnToDraft_6 : decode cX1_returnToDraft 6 = .ok (.getfield 18, 3) := by decide +kernel
theorem dX1_returnToDraft_9 : decode cX1_returnToDraft 9 = .ok (.aaload, 1) := by decide +kernel
theorem dX1_returnToDraft_10 : decode cX1_returnToDraft 10 = .ok (.invokevirtual 22, 3) := by decide +kernel
theorem dX1_returnToDraft_13 : decode cX1_returnToDraft 13 = .ok (.return_, 1) := by decide +kernel
theorem dX1_stepBack_0 : decode cX1_stepBack 0 = .ok (.aload_n 0, 1) := by decide +kernel
theorem dX1_stepBack_1 : decode cX1_stepBack 1 = .ok (.getfield 26, 3) := by decide +kernel
theorem dX1_stepBack_4 : decode cX1_stepBack 4 = .ok (.ifCond .ne 7, 3) := by decide +kernel
theorem dX1_stepBack_7 : decode cX1_stepBack 7 = .ok (.sipush (-10003), 3) := by decide +kernel
theorem dX1_stepBack_10 : decode cX1_stepBack 10 = .ok (.ireturn, 1) := by decide +kernel
theorem dX1_stepBack_11 : decode cX1_stepBack 11 = .ok (.aload_n 0, 1) := by decide +kernel
theorem dX1_stepBack_12 : decode cX1_stepBack 12 = .ok (.aload_n 0, 1) := by decide +kernel
theorem dX1_stepBack_13 : decode cX1_stepBack 13 = .ok (.getfield 18, 3) := by decide +kernel
theorem dX1_stepBack_16 : decode cX1_stepBack 16 = .ok (.bipush 6, 2) := by decide +kernel
theorem dX1_stepBack_18 : decode cX1_stepBack 18 = .ok (.iadd, 1) := by decide +kernel
theorem dX1_stepBack_19 : decode cX1_stepBack 19 = .ok (.iconst 1, 1) := by decide +kernel
theorem dX1_stepBack_20 : decode cX1_stepBack 20 = .ok (.isub, 1) := by decide +kernel
theorem dX1_stepBack_21 : decode cX1_stepBack 21 = .ok (.bipush 6, 2) := by decide +kernel
theorem dX1_stepBack_23 : decode cX1_stepBack 23 = .ok (.irem, 1) := by decide +kernel
theorem dX1_stepBack_24 : decode cX1_stepBack 24 = .ok (.putfield 18, 3) := by decide +kernel
theorem dX1_stepBack_27 : decode cX1_stepBack 27 = .ok (.aload_n 0, 1) := by decide +kernel
theorem dX1_stepBack_28 : decode cX1_stepBack 28 = .ok (.dup, 1) := by decide +kernel
theorem dX1_stepBack_29 : decode cX1_stepBack 29 = .ok (.getfield 26, 3) := by decide +kernel
theorem dX1_stepBack_32 : decode cX1_stepBack 32 = .ok (.iconst 1, 1) := by decide +kernel
theorem dX1_stepBack_33 : decode cX1_stepBack 33 = .ok (.isub, 1) := by decide +kernel
theorem dX1_stepBack_34 : decode cX1_stepBack 34 = .ok (.putfield 26, 3) := by decide +kernel
theorem dX1_stepBack_37 : decode cX1_stepBack 37 = .ok (.aload_n 0, 1) := by decide +kernel
theorem dX1_stepBack_38 : decode cX1_stepBack 38 = .ok (.aload_n 1, 1) := by decide +kernel
theorem dX1_stepBack_39 : decode cX1_stepBack 39 = .ok (.invokevirtual 35, 3) := by decide +kernel
theorem dX1_stepBack_42 : decode cX1_stepBack 42 = .ok (.aload_n 0, 1) := by decide +kernel
theorem dX1_stepBack_43 : decode cX1_stepBack 43 = .ok (.getfield 26, 3) := by decide +kernel
theorem dX1_stepBack_46 : decode cX1_stepBack 46 = .ok (.ireturn, 1) := by decide +kernel
theorem dX2_init_0 : decode cX2_init 0 = .ok (.aload_n 0, 1) := by decide +kernel
theorem dX2_init_1 : decode cX2_init 1 = .ok (.invokespecial 3, 3) := by decide +kernel
theorem dX2_init_4 : decode cX2_init 4 = .ok (.aload_n 0, 1) := by decide +kernel
theorem dX2_init_5 : decode cX2_init 5 = .ok (.bipush 10, 2) := by decide +kernel
theorem dX2_init_7 : decode cX2_init 7 = .ok (.newarray .int, 2) := by decide +kernel
theorem dX2_init_9 : decode cX2_init 9 = .ok (.putfield 9, 3) := by decide +kernel
theorem dX2_init_12 : decode cX2_init 12 = .ok (.aload_n 0, 1) := by decide +kernel
theorem dX2_init_13 : decode cX2_init 13 = .ok (.iload_n 1, 1) := by decide +kernel
theorem dX2_init_14 : decode cX2_init 14 = .ok (.bipush 10, 2) := by decide +kernel
theorem dX2_init_16 : decode cX2_init 16 = .ok (.invokestatic 15, 3) := by decide +kernel
theorem dX2_init_19 : decode cX2_init 19 = .ok (.putfield 21, 3) := by decide +kernel
theorem dX2_init_22 : decode cX2_init 22 = .ok (.return_, 1) := by decide +kernel
theorem dX2_copyFrom_0 : decode cX2_copyFrom 0 = .ok (.aload_n 1, 1) := by decide +kernel
theorem dX2_copyFrom_1 : decode cX2_copyFrom 1 = .ok (.getfield 9, 3) := by decide +kernel
theorem dX2_copyFrom_4 : decode cX2_copyFrom 4 = .ok (.iconst 0, 1) := by decide +kernel
theorem dX2_copyFrom_5 : decode cX2_copyFrom 5 = .ok (.aload_n 0, 1) := by decide +kernel
theorem dX2_copyFrom_6 : decode cX2_copyFrom 6 = .ok (.getfield 9, 3) := by decide +kernel
theorem dX2_copyFrom_9 : decode cX2_copyFrom 9 = .ok (.iconst 0, 1) := by decide +kernel
theorem dX2_copyFrom_10 : decode cX2_copyFrom 10 = .ok (.bipush 10, 2) := by decide +kernel
theorem dX2_copyFrom_12 : decode cX2_copyFrom 12 = .ok (.invokestatic 25, 3) := by decide +kernel
theorem dX2_copyFrom_15 : decode cX2_copyFrom 15 = .ok (.aload_n 0, 1) := by decide +kernel
theorem dX2_copyFrom_16 : decode cX2_copyFrom 16 = .ok (.aload_n 1, 1) := by decide +kernel
theorem dX2_copyFrom_17 : decode cX2_copyFrom 17 = .ok (.getfield 31, 3) := by decide +kernel
theorem dX2_copyFrom_20 : decode cX2_copyFrom 20 = .ok (.putfield 31, 3) := by decide +kernel
theorem dX2_copyFrom_23 : decode cX2_copyFrom 23 = .ok (.return_, 1) := by decide +kernel
theorem dX2_isFull_0 : decode cX2_isFull 0 = .ok (.aload_n 0, 1) := by decide +kernel
theorem dX2_isFull_1 : decode cX2_isFull 1 = .ok (.getfield 31, 3) := by decide +kernel
theorem dX2_isFull_4 : decode cX2_isFull 4 = .ok (.aload_n 0, 1) := by decide +kernel
theorem dX2_isFull_5 : decode cX2_isFull 5 = .ok (.getfield 21, 3) := by decide +kernel
theorem dX2_isFull_8 : decode cX2_isFull 8 = .ok (.if_icmp .lt 7, 3) := by decide +kernel
theorem dX2_isFull_11 : decode cX2_isFull 11 = .ok (.iconst 1, 1) := by decide +kernel
theorem dX2_isFull_12 : decode cX2_isFull 12 = .ok (.goto 4, 3) := by decide +kernel
theorem dX2_isFull_15 : decode cX2_isFull 15 = .ok (.iconst 0, 1) := by decide +kernel
theorem dX2_isFull_16 : decode cX2_isFull 16 = .ok (.ireturn, 1) := by decide +kernel
theorem dX2_holds_0 : decode cX2_holds 0 = .ok (.bipush 10, 2) := by decide +kernel
theorem dX2_holds_2 : decode cX2_holds 2 = .ok (.iload_n 1, 1) := by decide +kernel
theorem dX2_holds_3 : decode cX2_holds 3 = .ok (.imul, 1) := by decide +kernel
theorem dX2_holds_4 : decode cX2_holds 4 = .ok (.iload_n 2, 1) := by decide +kernel
theorem dX2_holds_5 : decode cX2_holds 5 = .ok (.iadd, 1) := by decide +kernel
theorem dX2_holds_6 : decode cX2_holds 6 = .ok (.istore_n 3, 1) := by decide +kernel
theorem dX2_holds_7 : decode cX2_holds 7 = .ok (.iconst 0, 1) := by decide +kernel
theorem dX2_holds_8 : decode cX2_holds 8 = .ok (.istore 4, 2) := by decide +kernel
theorem dX2_holds_10 : decode cX2_holds 10 = .ok (.iload 4, 2) := by decide +kernel
theorem dX2_holds_12 : decode cX2_holds 12 = .ok (.aload_n 0, 1) := by decide +kernel
theorem dX2_holds_13 : decode cX2_holds 13 = .ok (.getfield 31, 3) := by decide +kernel
theorem dX2_holds_16 : decode cX2_holds 16 = .ok (.if_icmp .ge 29, 3) := by decide +kernel
theorem dX2_holds_19 : decode cX2_holds 19 = .ok (.iload 4, 2) := by decide +kernel
theorem dX2_holds_21 : decode cX2_holds 21 = .ok (.bipush 10, 2) := by decide +kernel
theorem dX2_holds_23 : decode cX2_holds 23 = .ok (.if_icmp .ge 22, 3) := by decide +kernel
theorem dX2_holds_26 : decode cX2_holds 26 = .ok (.aload_n 0, 1) := by decide +kernel
theorem dX2_holds_27 : decode cX2_holds 27 = .ok (.getfield 9, 3) := by decide +kernel
theorem dX2_holds_30 : decode cX2_holds 30 = .ok (.iload 4, 2) := by decide +kernel
theorem dX2_holds_32 : decode cX2_holds 32 = .ok (.iaload, 1) := by decide +kernel
theorem dX2_holds_33 : decode cX2_holds 33 = .ok (.iload_n 3, 1) := by decide +kernel
theorem dX2_holds_34 : decode cX2_holds 34 = .ok (.if_icmp .ne 5, 3) := by decide +kernel
theorem dX2_holds_37 : decode cX2_holds 37 = .ok (.iconst 1, 1) := by decide +kernel
theorem dX2_holds_38 : decode cX2_holds 38 = .ok (.ireturn, 1) := by decide +kernel
theorem dX2_holds_39 : decode cX2_holds 39 = .ok (.iinc 4 1, 3) := by decide +kernel
theorem dX2_holds_42 : decode cX2_holds 42 = .ok (.goto (-32), 3) := by decide +kernel
theorem dX2_holds_45 : decode cX2_holds 45 = .ok (.iconst 0, 1) := by decide +kernel
theorem dX2_holds_46 : decode cX2_holds 46 = .ok (.ireturn, 1) := by decide +kernel
theorem dX2_insert_0 : decode cX2_insert 0 = .ok (.iload_n 1, 1) := by decide +kernel
theorem dX2_insert_1 : decode cX2_insert 1 = .ok (.iload_n 2, 1) := by decide +kernel
theorem dX2_insert_2 : decode cX2_insert 2 = .ok (.invokestatic 34, 3) := by decide +kernel
theorem dX2_insert_5 : decode cX2_insert 5 = .ok (.ifCond .ne 7, 3) := by decide +kernel
theorem dX2_insert_8 : decode cX2_insert 8 = .ok (.sipush (-10002), 3) := by decide +kernel
theorem dX2_insert_11 : decode cX2_insert 11 = .ok (.ireturn, 1) := by decide +kernel
theorem dX2_insert_12 : decode cX2_insert 12 = .ok (.aload_n 0, 1) := by decide +kernel
theorem dX2_insert_13 : decode cX2_insert 13 = .ok (.iload_n 1, 1) := by decide +kernel
theorem dX2_insert_14 : decode cX2_insert 14 = .ok (.iload_n 2, 1) := by decide +kernel
theorem dX2_insert_15 : decode cX2_insert 15 = .ok (.invokevirtual 38, 3) := by decide +kernel
theorem dX2_insert_18 : decode cX2_insert 18 = .ok (.ifCond .eq 7, 3) := by decide +kernel
theorem dX2_insert_21 : decode cX2_insert 21 = .ok (.sipush (-10003), 3) := by decide +kernel
theorem dX2_insert_24 : decode cX2_insert 24 = .ok (.ireturn, 1) := by decide +kernel
theorem dX2_insert_25 : decode cX2_insert 25 = .ok (.aload_n 0, 1) := by decide +kernel
theorem dX2_insert_26 : decode cX2_insert 26 = .ok (.invokevirtual 41, 3) := by decide +kernel
theorem dX2_insert_29 : decode cX2_insert 29 = .ok (.ifCond .eq 7, 3) := by decide +kernel
theorem dX2_insert_32 : decode cX2_insert 32 = .ok (.sipush (-10004), 3) := by decide +kernel
theorem dX2_insert_35 : decode cX2_insert 35 = .ok (.ireturn, 1) := by decide +kernel
theorem dX2_insert_36 : decode cX2_insert 36 = .ok (.aload_n 0, 1) := by decide +kernel
theorem dX2_insert_37 : decode cX2_insert 37 = .ok (.getfield 9, 3) := by decide +kernel
theorem dX2_insert_40 : decode cX2_insert 40 = .ok (.aload_n 0, 1) := by decide +kernel
theorem dX2_insert_41 : decode cX2_insert 41 = .ok (.getfield 31, 3) := by decide +kernel
theorem dX2_insert_44 : decode cX2_insert 44 = .ok (.bipush 10, 2) := by decide +kernel
theorem dX2_insert_46 : decode cX2_insert 46 = .ok (.iload_n 1, 1) := by decide +kernel
theorem dX2_insert_47 : decode cX2_insert 47 = .ok (.imul, 1) := by decide +kernel
theorem dX2_insert_48 : decode cX2_insert 48 = .ok (.iload_n 2, 1) := by decide +kernel
theorem dX2_insert_49 : decode cX2_insert 49 = .ok (.iadd, 1) := by decide +kernel
theorem dX2_insert_50 : decode cX2_insert 50 = .ok (.iastore, 1) := by decide +kernel
theorem dX2_insert_51 : decode cX2_insert 51 = .ok (.aload_n 0, 1) := by decide +kernel
theorem dX2_insert_52 : decode cX2_insert 52 = .ok (.dup, 1) := by decide +kernel
theorem dX2_insert_53 : decode cX2_insert 53 = .ok (.getfield 31, 3) := by decide +kernel
theorem dX2_insert_56 : decode cX2_insert 56 = .ok (.iconst 1, 1) := by decide +kernel
theorem dX2_insert_57 : decode cX2_insert 57 = .ok (.iadd, 1) := by decide +kernel
theorem dX2_insert_58 : decode cX2_insert 58 = .ok (.putfield 31, 3) := by decide +kernel
theorem dX2_insert_61 : decode cX2_insert 61 = .ok (.aload_n 0, 1) := by decide +kernel
theorem dX2_insert_62 : decode cX2_insert 62 = .ok (.getfield 31, 3) := by decide +kernel
theorem dX2_insert_65 : decode cX2_insert 65 = .ok (.ireturn, 1) := by decide +kernel
theorem dX2_drop_0 : decode cX2_drop 0 = .ok (.iload_n 1, 1) := by decide +kernel
theorem dX2_drop_1 : decode cX2_drop 1 = .ok (.ifCond .lt 11, 3) := by decide +kernel
theorem dX2_drop_4 : decode cX2_drop 4 = .ok (.iload_n 1, 1) := by decide +kernel
theorem dX2_drop_5 : decode cX2_drop 5 = .ok (.aload_n 0, 1) := by decide +kernel
theorem dX2_drop_6 : decode cX2_drop 6 = .ok (.getfield 31, 3) := by decide +kernel
theorem dX2_drop_9 : decode cX2_drop 9 = .ok (.if_icmp .lt 7, 3) := by decide +kernel
theorem dX2_drop_12 : decode cX2_drop 12 = .ok (.sipush (-10002), 3) := by decide +kernel
theorem dX2_drop_15 : decode cX2_drop 15 = .ok (.ireturn, 1) := by decide +kernel
theorem dX2_drop_16 : decode cX2_drop 16 = .ok (.aload_n 0, 1) := by decide +kernel
theorem dX2_drop_17 : decode cX2_drop 17 = .ok (.dup, 1) := by decide +kernel
theorem dX2_drop_18 : decode cX2_drop 18 = .ok (.getfield 31, 3) := by decide +kernel
theorem dX2_drop_21 : decode cX2_drop 21 = .ok (.iconst 1, 1) := by decide +kernel
theorem dX2_drop_22 : decode cX2_drop 22 = .ok (.isub, 1) := by decide +kernel
theorem dX2_drop_23 : decode cX2_drop 23 = .ok (.putfield 31, 3) := by decide +kernel
theorem dX2_drop_26 : decode cX2_drop 26 = .ok (.iload_n 1, 1) := by decide +kernel
theorem dX2_drop_27 : decode cX2_drop 27 = .ok (.istore_n 2, 1) := by decide +kernel
theorem dX2_drop_28 : decode cX2_drop 28 = .ok (.iload_n 2, 1) := by decide +kernel
theorem dX2_drop_29 : decode cX2_drop 29 = .ok (.aload_n 0, 1) := by decide +kernel
theorem dX2_drop_30 : decode cX2_drop 30 = .ok (.getfield 31, 3) := by decide +kernel
theorem dX2_drop_33 : decode cX2_drop 33 = .ok (.if_icmp .ge 23, 3) := by decide +kernel
theorem dX2_drop_36 : decode cX2_drop 36 = .ok (.aload_n 0, 1) := by decide +kernel
theorem dX2_drop_37 : decode cX2_drop 37 = .ok (.getfield 9, 3) := by decide +kernel
theorem dX2_drop_40 : decode cX2_drop 40 = .ok (.iload_n 2, 1) := by decide +kernel
theorem dX2_drop_41 : decode cX2_drop 41 = .ok (.aload_n 0, 1) := by decide +kernel
theorem dX2_drop_42 : decode cX2_drop 42 = .ok (.getfield 9, 3) := by decide +kernel
theorem dX2_drop_45 : decode cX2_drop 45 = .ok (.iload_n 2, 1) := by decide +kernel
theorem dX2_drop_46 : decode cX2_drop 46 = .ok (.iconst 1, 1) := by decide +kernel
theorem dX2_drop_47 : decode cX2_drop 47 = .ok (.iadd, 1) := by decide +kernel
theorem dX2_drop_48 : decode cX2_drop 48 = .ok (.iaload, 1) := by decide +kernel
theorem dX2_drop_49 : decode cX2_drop 49 = .ok (.iastore, 1) := by decide +kernel
theorem dX2_drop_50 : decode cX2_drop 50 = .ok (.iinc 2 1, 3) := by decide +kernel
theorem dX2_drop_53 : decode cX2_drop 53 = .ok (.goto (-25), 3) := by decide +kernel
theorem dX2_drop_56 : decode cX2_drop 56 = .ok (.aload_n 0, 1) := by decide +kernel
theorem dX2_drop_57 : decode cX2_drop 57 = .ok (.getfield 31, 3) := by decide +kernel
theorem dX2_drop_60 : decode cX2_drop 60 = .ok (.ireturn, 1) := by decide +kernel
theorem dX2_dropAll_0 : decode cX2_dropAll 0 = .ok (.aload_n 0, 1) := by decide +kernel
theorem dX2_dropAll_1 : decode cX2_dropAll 1 = .ok (.getfield 31, 3) := by decide +kernel
theorem dX2_dropAll_4 : decode cX2_dropAll 4 = .ok (.istore_n 1, 1) := by decide +kernel
theorem dX2_dropAll_5 : decode cX2_dropAll 5 = .ok (.aload_n 0, 1) := by decide +kernel
theorem dX2_dropAll_6 : decode cX2_dropAll 6 = .ok (.iconst 0, 1) := by decide +kernel
theorem dX2_dropAll_7 : decode cX2_dropAll 7 = .ok (.putfield 31, 3) := by decide +kernel
theorem dX2_dropAll_10 : decode cX2_dropAll 10 = .ok (.iload_n 1, 1) := by decide +kernel
theorem dX2_dropAll_11 : decode cX2_dropAll 11 = .ok (.ireturn, 1) := by decide +kernel
theorem dX2_pairAt_0 : decode cX2_pairAt 0 = .ok (.iload_n 1, 1) := by decide +kernel
theorem dX2_pairAt_1 : decode cX2_pairAt 1 = .ok (.ifCond .ge 7, 3) := by decide +kernel
theorem dX2_pairAt_4 : decode cX2_pairAt 4 = .ok (.sipush (-10002), 3) := by decide +kernel
theorem dX2_pairAt_7 : decode cX2_pairAt 7 = .ok (.ireturn, 1) := by decide +kernel
theorem dX2_pairAt_8 : decode cX2_pairAt 8 = .ok (.iload_n 1, 1) := by decide +kernel
theorem dX2_pairAt_9 : decode cX2_pairAt 9 = .ok (.aload_n 0, 1) := by decide +kernel
theorem dX2_pairAt_10 : decode cX2_pairAt 10 = .ok (.getfield 31, 3) := by decide +kernel
theorem dX2_pairAt_13 : decode cX2_pairAt 13 = .ok (.if_icmp .ge 12, 3) := by decide +kernel
theorem dX2_pairAt_16 : decode cX2_pairAt 16 = .ok (.aload_n 0, 1) := by decide +kernel
theorem dX2_pairAt_17 : decode cX2_pairAt 17 = .ok (.getfield 9, 3) := by decide +kernel
theorem dX2_pairAt_20 : decode cX2_pairAt 20 = .ok (.iload_n 1, 1) := by decide +kernel
theorem dX2_pairAt_21 : decode cX2_pairAt 21 = .ok (.iaload, 1) := by decide +kernel
theorem dX2_pairAt_22 : decode cX2_pairAt 22 = .ok (.goto 6, 3) := by decide +kernel
theorem dX2_pairAt_25 : decode cX2_pairAt 25 = .ok (.sipush (-10001), 3) := by decide +kernel
theorem dX2_pairAt_28 : decode cX2_pairAt 28 = .ok (.ireturn, 1) := by decide +kernel
theorem dX2_firstAt_0 : decode cX2_firstAt 0 = .ok (.aload_n 0, 1) := by decide +kernel
theorem dX2_firstAt_1 : decode cX2_firstAt 1 = .ok (.iload_n 1, 1) := by decide +kernel
theorem dX2_firstAt_2 : decode cX2_firstAt 2 = .ok (.invokevirtual 45, 3) := by decide +kernel
theorem dX2_firstAt_5 : decode cX2_firstAt 5 = .ok (.bipush 10, 2) := by decide +kernel
theorem dX2_firstAt_7 : decode cX2_firstAt 7 = .ok (.idiv, 1) := by decide +kernel
theorem dX2_firstAt_8 : decode cX2_firstAt 8 = .ok (.ireturn, 1) := by decide +kernel
theorem dX2_secondAt_0 : decode cX2_secondAt 0 = .ok (.aload_n 0, 1) := by decide +kernel
theorem dX2_secondAt_1 : decode cX2_secondAt 1 = .ok (.iload_n 1, 1) := by decide +kernel
theorem dX2_secondAt_2 : decode cX2_secondAt 2 = .ok (.invokevirtual 45, 3) := by decide +kernel
theorem dX2_secondAt_5 : decode cX2_secondAt 5 = .ok (.bipush 10, 2) := by decide +kernel
theorem dX2_secondAt_7 : decode cX2_secondAt 7 = .ok (.irem, 1) := by decide +kernel
theorem dX2_secondAt_8 : decode cX2_secondAt 8 = .ok (.ireturn, 1) := by decide +kernel
theorem dX2_secondsOf_0 : decode cX2_secondsOf 0 = .ok (.iconst 0, 1) := by decide +kernel
theorem dX2_secondsOf_1 : decode cX2_secondsOf 1 = .ok (.istore_n 2, 1) := by decide +kernel
theorem dX2_secondsOf_2 : decode cX2_secondsOf 2 = .ok (.iconst 0, 1) := by decide +kernel
theorem dX2_secondsOf_3 : decode cX2_secondsOf 3 = .ok (.istore_n 3, 1) := by decide +kernel
theorem dX2_secondsOf_4 : decode cX2_secondsOf 4 = .ok (.iload_n 3, 1) := by decide +kernel
theorem dX2_secondsOf_5 : decode cX2_secondsOf 5 = .ok (.aload_n 0, 1) := by decide +kernel
theorem dX2_secondsOf_6 : decode cX2_secondsOf 6 = .ok (.getfield 31, 3) := by decide +kernel
theorem dX2_secondsOf_9 : decode cX2_secondsOf 9 = .ok (.if_icmp .ge 28, 3) := by decide +kernel
theorem dX2_secondsOf_12 : decode cX2_secondsOf 12 = .ok (.aload_n 0, 1) := by decide +kernel
theorem dX2_secondsOf_13 : decode cX2_secondsOf 13 = .ok (.iload_n 3, 1) := by decide +kernel
theorem dX2_secondsOf_14 : decode cX2_secondsOf 14 = .ok (.invokevirtual 49, 3) := by decide +kernel
theorem dX2_secondsOf_17 : decode cX2_secondsOf 17 = .ok (.iload_n 1, 1) := by decide +kernel
theorem dX2_secondsOf_18 : decode cX2_secondsOf 18 = .ok (.if_icmp .ne 13, 3) := by decide +kernel
theorem dX2_secondsOf_21 : decode cX2_secondsOf 21 = .ok (.iload_n 2, 1) := by decide +kernel
theorem dX2_secondsOf_22 : decode cX2_secondsOf 22 = .ok (.iconst 1, 1) := by decide +kernel
theorem dX2_secondsOf_23 : decode cX2_secondsOf 23 = .ok (.aload_n 0, 1) := by decide +kernel
theorem dX2_secondsOf_24 : decode cX2_secondsOf 24 = .ok (.iload_n 3, 1) := by decide +kernel
theorem dX2_secondsOf_25 : decode cX2_secondsOf 25 = .ok (.invokevirtual 52, 3) := by decide +kernel
theorem dX2_secondsOf_28 : decode cX2_secondsOf 28 = .ok (.ishl, 1) := by decide +kernel
theorem dX2_secondsOf_29 : decode cX2_secondsOf 29 = .ok (.ior, 1) := by decide +kernel
theorem dX2_secondsOf_30 : decode cX2_secondsOf 30 = .ok (.istore_n 2, 1) := by decide +kernel
theorem dX2_secondsOf_31 : decode cX2_secondsOf 31 = .ok (.iinc 3 1, 3) := by decide +kernel
theorem dX2_secondsOf_34 : decode cX2_secondsOf 34 = .ok (.goto (-30), 3) := by decide +kernel
theorem dX2_secondsOf_37 : decode cX2_secondsOf 37 = .ok (.iload_n 2, 1) := by decide +kernel
theorem dX2_secondsOf_38 : decode cX2_secondsOf 38 = .ok (.ireturn, 1) := by decide +kernel
theorem dX2_firstsOf_0 : decode cX2_firstsOf 0 = .ok (.iconst 0, 1) := by decide +kernel
theorem dX2_firstsOf_1 : decode cX2_firstsOf 1 = .ok (.istore_n 2, 1) := by decide +kernel
theorem dX2_firstsOf_2 : decode cX2_firstsOf 2 = .ok (.iconst 0, 1) := by decide +kernel
theorem dX2_firstsOf_3 : decode cX2_firstsOf 3 = .ok (.istore_n 3, 1) := by decide +kernel
theorem dX2_firstsOf_4 : decode cX2_firstsOf 4 = .ok (.iload_n 3, 1) := by decide +kernel
theorem dX2_firstsOf_5 : decode cX2_firstsOf 5 = .ok (.aload_n 0, 1) := by decide +kernel
theorem dX2_firstsOf_6 : decode cX2_firstsOf 6 = .ok (.getfield 31, 3) := by decide +kernel
theorem dX2_firstsOf_9 : decode cX2_firstsOf 9 = .ok (.if_icmp .ge 28, 3) := by decide +kernel
theorem dX2_firstsOf_12 : decode cX2_firstsOf 12 = .ok (.aload_n 0, 1) := by decide +kernel
theorem dX2_firstsOf_13 : decode cX2_firstsOf 13 = .ok (.iload_n 3, 1) := by decide +kernel
theorem dX2_firstsOf_14 : decode cX2_firstsOf 14 = .ok (.invokevirtual 52, 3) := by decide +kernel
theorem dX2_firstsOf_17 : decode cX2_firstsOf 17 = .ok (.iload_n 1, 1) := by decide +kernel
theorem dX2_firstsOf_18 : decode cX2_firstsOf 18 = .ok (.if_icmp .ne 13, 3) := by decide +kernel
theorem dX2_firstsOf_21 : decode cX2_firstsOf 21 = .ok (.iload_n 2, 1) := by decide +kernel
theorem dX2_firstsOf_22 : decode cX2_firstsOf 22 = .ok (.iconst 1, 1) := by decide +kernel
theorem dX2_firstsOf_23 : decode cX2_firstsOf 23 = .ok (.aload_n 0, 1) := by decide +kernel
theorem dX2_firstsOf_24 : decode cX2_firstsOf 24 = .ok (.iload_n 3, 1) := by decide +kernel
theorem dX2_firstsOf_25 : decode cX2_firstsOf 25 = .ok (.invokevirtual 49, 3) := by decide +kernel
theorem dX2_firstsOf_28 : decode cX2_firstsOf 28 = .ok (.ishl, 1) := by decide +kernel
theorem dX2_firstsOf_29 : decode cX2_firstsOf 29 = .ok (.ior, 1) := by decide +kernel
theorem dX2_firstsOf_30 : decode cX2_firstsOf 30 = .ok (.istore_n 2, 1) := by decide +kernel
theorem dX2_firstsOf_31 : decode cX2_firstsOf 31 = .ok (.iinc 3 1, 3) := by decide +kernel
theorem dX2_firstsOf_34 : decode cX2_firstsOf 34 = .ok (.goto (-30), 3) := by decide +kernel
theorem dX2_firstsOf_37 : decode cX2_firstsOf 37 = .ok (.iload_n 2, 1) := by decide +kernel
theorem dX2_firstsOf_38 : decode cX2_firstsOf 38 = .ok (.ireturn, 1) := by decide +kernel
theorem dX3_init_0 : decode cX3_init 0 = .ok (.aload_n 0, 1) := by decide +kernel
theorem dX3_init_1 : decode cX3_init 1 = .ok (.invokespecial 3, 3) := by decide +kernel
theorem dX3_init_4 : decode cX3_init 4 = .ok (.aload_n 0, 1) := by decide +kernel
theorem dX3_init_5 : decode cX3_init 5 = .ok (.new 9, 3) := by decide +kernel
theorem dX3_init_8 : decode cX3_init 8 = .ok (.dup, 1) := by decide +kernel
theorem dX3_init_9 : decode cX3_init 9 = .ok (.invokespecial 11, 3) := by decide +kernel
theorem dX3_init_12 : decode cX3_init 12 = .ok (.putfield 12, 3) := by decide +kernel
theorem dX3_init_15 : decode cX3_init 15 = .ok (.aload_n 0, 1) := by decide +kernel
theorem dX3_init_16 : decode cX3_init 16 = .ok (.bipush 100, 2) := by decide +kernel
theorem dX3_init_18 : decode cX3_init 18 = .ok (.newarray .int, 2) := by decide +kernel
theorem dX3_init_20 : decode cX3_init 20 = .ok (.putfield 18, 3) := by decide +kernel
theorem dX3_init_23 : decode cX3_init 23 = .ok (.aload_n 0, 1) := by decide +kernel
theorem dX3_init_24 : decode cX3_init 24 = .ok (.bipush 40, 2) := by decide +kernel
theorem dX3_init_26 : decode cX3_init 26 = .ok (.newarray .int, 2) := by decide +kernel
theorem dX3_init_28 : decode cX3_init 28 = .ok (.putfield 22, 3) := by decide +kernel
theorem dX3_init_31 : decode cX3_init 31 = .ok (.return_, 1) := by decide +kernel
theorem dX3_countAccepted_0 : decode cX3_countAccepted 0 = .ok (.aload_n 0, 1) := by decide +kernel
theorem dX3_countAccepted_1 : decode cX3_countAccepted 1 = .ok (.getfield 12, 3) := by decide +kernel
theorem dX3_countAccepted_4 : decode cX3_countAccepted 4 = .ok (.getfield 25, 3) := by decide +kernel
theorem dX3_countAccepted_7 : decode cX3_countAccepted 7 = .ok (.iload_n 1, 1) := by decide +kernel
theorem dX3_countAccepted_8 : decode cX3_countAccepted 8 = .ok (.iconst 0, 1) := by decide +kernel
theorem dX3_countAccepted_9 : decode cX3_countAccepted 9 = .ok (.invokevirtual 29, 3) := by decide +kernel
theorem dX3_countAccepted_12 : decode cX3_countAccepted 12 = .ok (.ifCond .eq 9, 3) := by decide +kernel
theorem dX3_countAccepted_15 : decode cX3_countAccepted 15 = .ok (.aload_n 0, 1) := by decide +kernel
theorem dX3_countAccepted_16 : decode cX3_countAccepted 16 = .ok (.iload_n 1, 1) := by decide +kernel
theorem dX3_countAccepted_17 : decode cX3_countAccepted 17 = .ok (.invokevirtual 35, 3) := by decide +kernel
theorem dX3_countAccepted_20 : decode cX3_countAccepted 20 = .ok (.ireturn, 1) := by decide +kernel
theorem dX3_countAccepted_21 : decode cX3_countAccepted 21 = .ok (.aload_n 0, 1) := by decide +kernel
theorem dX3_countAccepted_22 : decode cX3_countAccepted 22 = .ok (.getfield 12, 3) := by decide +kernel
theorem dX3_countAccepted_25 : decode cX3_countAccepted 25 = .ok (.getfield 25, 3) := by decide +kernel
theorem dX3_countAccepted_28 : decode cX3_countAccepted 28 = .ok (.iload_n 1, 1) := by decide +kernel
theorem dX3_countAccepted_29 : decode cX3_countAccepted 29 = .ok (.iconst 1, 1) := by decide +kernel
theorem dX3_countAccepted_30 : decode cX3_countAccepted 30 = .ok (.invokevirtual 29, 3) := by decide +kernel
theorem dX3_countAccepted_33 : decode cX3_countAccepted 33 = .ok (.ifCond .eq 9, 3) := by decide +kernel
theorem dX3_countAccepted_36 : decode cX3_countAccepted 36 = .ok (.aload_n 0, 1) := by decide +kernel
theorem dX3_countAccepted_37 : decode cX3_countAccepted 37 = .ok (.iload_n 1, 1) := by decide +kernel
theorem dX3_countAccepted_38 : decode cX3_countAccepted 38 = .ok (.invokevirtual 39, 3) := by decide +kernel
theorem dX3_countAccepted_41 : decode cX3_countAccepted 41 = .ok (.ireturn, 1) := by decide +kernel
theorem dX3_countAccepted_42 : decode cX3_countAccepted 42 = .ok (.aload_n 0, 1) := by decide +kernel
theorem dX3_countAccepted_43 : decode cX3_countAccepted 43 = .ok (.iload_n 1, 1) := by decide +kernel
theorem dX3_countAccepted_44 : decode cX3_countAccepted 44 = .ok (.invokevirtual 42, 3) := by decide +kernel
theorem dX3_countAccepted_47 : decode cX3_countAccepted 47 = .ok (.ireturn, 1) := by decide +kernel
theorem dX3_countAcceptedLeft_0 : decode cX3_countAcceptedLeft 0 = .ok (.iconst 0, 1) := by decide +kernel
theorem dX3_countAcceptedLeft_1 : decode cX3_countAcceptedLeft 1 = .ok (.istore_n 2, 1) := by decide +kernel
theorem dX3_countAcceptedLeft_2 : decode cX3_countAcceptedLeft 2 = .ok (.iconst 0, 1) := by decide +kernel
theorem dX3_countAcceptedLeft_3 : decode cX3_countAcceptedLeft 3 = .ok (.istore_n 3, 1) := by decide +kernel
theorem dX3_countAcceptedLeft_4 : decode cX3_countAcceptedLeft 4 = .ok (.iload_n 3, 1) := by decide +kernel
theorem dX3_countAcceptedLeft_5 : decode cX3_countAcceptedLeft 5 = .ok (.aload_n 0, 1) := by decide +kernel
theorem dX3_countAcceptedLeft_6 : decode cX3_countAcceptedLeft 6 = .ok (.getfield 12, 3) := by decide +kernel
theorem dX3_countAcceptedLeft_9 : decode cX3_countAcceptedLeft 9 = .ok (.getfield 45, 3) := by decide +kernel
theorem dX3_countAcceptedLeft_12 : decode cX3_countAcceptedLeft 12 = .ok (.getfield 49, 3) := by decide +kernel
theorem dX3_countAcceptedLeft_15 : decode cX3_countAcceptedLeft 15 = .ok (.if_icmp .ge 49, 3) := by decide +kernel
theorem dX3_countAcceptedLeft_18 : decode cX3_countAcceptedLeft 18 = .ok (.aload_n 0, 1) := by decide +kernel
theorem dX3_countAcceptedLeft_19 : decode cX3_countAcceptedLeft 19 = .ok (.getfield 12, 3) := by decide +kernel
theorem dX3_countAcceptedLeft_22 : decode cX3_countAcceptedLeft 22 = .ok (.getfield 25, 3) := by decide +kernel
theorem dX3_countAcceptedLeft_25 : decode cX3_countAcceptedLeft 25 = .ok (.iload_n 1, 1) := by decide +kernel
theorem dX3_countAcceptedLeft_26 : decode cX3_countAcceptedLeft 26 = .ok (.aload_n 0, 1) := by decide +kernel
theorem dX3_countAcceptedLeft_27 : decode cX3_countAcceptedLeft 27 = .ok (.getfield 12, 3) := by decide +kernel
theorem dX3_countAcceptedLeft_30 : decode cX3_countAcceptedLeft 30 = .ok (.getfield 45, 3) := by decide +kernel
theorem dX3_countAcceptedLeft_33 : decode cX3_countAcceptedLeft 33 = .ok (.iload_n 3, 1) := by decide +kernel
theorem dX3_countAcceptedLeft_34 : decode cX3_countAcceptedLeft 34 = .ok (.invokevirtual 55, 3) := by decide +kernel
theorem dX3_countAcceptedLeft_37 : decode cX3_countAcceptedLeft 37 = .ok (.aload_n 0, 1) := by decide +kernel
theorem dX3_countAcceptedLeft_38 : decode cX3_countAcceptedLeft 38 = .ok (.getfield 12, 3) := by decide +kernel
theorem dX3_countAcceptedLeft_41 : decode cX3_countAcceptedLeft 41 = .ok (.getfield 45, 3) := by decide +kernel
theorem dX3_countAcceptedLeft_44 : decode cX3_countAcceptedLeft 44 = .ok (.iload_n 3, 1) := by decide +kernel
theorem dX3_countAcceptedLeft_45 : decode cX3_countAcceptedLeft 45 = .ok (.invokevirtual 58, 3) := by decide +kernel
theorem dX3_countAcceptedLeft_48 : decode cX3_countAcceptedLeft 48 = .ok (.iconst 0, 1) := by decide +kernel
theorem dX3_countAcceptedLeft_49 : decode cX3_countAcceptedLeft 49 = .ok (.invokevirtual 61, 3) := by decide +kernel
theorem dX3_countAcceptedLeft_52 : decode cX3_countAcceptedLeft 52 = .ok (.ifCond .eq 6, 3) := by decide +kernel
theorem dX3_countAcceptedLeft_55 : decode cX3_countAcceptedLeft 55 = .ok (.iinc 2 1, 3) := by decide +kernel
theorem dX3_countAcceptedLeft_58 : decode cX3_countAcceptedLeft 58 = .ok (.iinc 3 1, 3) := by decide +kernel
theorem dX3_countAcceptedLeft_61 : decode cX3_countAcceptedLeft 61 = .ok (.goto (-57), 3) := by decide +kernel
theorem dX3_countAcceptedLeft_64 : decode cX3_countAcceptedLeft 64 = .ok (.iload_n 2, 1) := by decide +kernel
theorem dX3_countAcceptedLeft_65 : decode cX3_countAcceptedLeft 65 = .ok (.ireturn, 1) := by decide +kernel
theorem dX3_countAcceptedRight_0 : decode cX3_countAcceptedRight 0 = .ok (.iconst 0, 1) := by decide +kernel
theorem dX3_countAcceptedRight_1 : decode cX3_countAcceptedRight 1 = .ok (.istore_n 2, 1) := by decide +kernel
theorem dX3_countAcceptedRight_2 : decode cX3_countAcceptedRight 2 = .ok (.iconst 0, 1) := by decide +kernel
theorem dX3_countAcceptedRight_3 : decode cX3_countAcceptedRight 3 = .ok (.istore_n 3, 1) := by decide +kernel
theorem dX3_countAcceptedRight_4 : decode cX3_countAcceptedRight 4 = .ok (.iload_n 3, 1) := by decide +kernel
theorem dX3_countAcceptedRight_5 : decode cX3_countAcceptedRight 5 = .ok (.aload_n 0, 1) := by decide +kernel
theorem dX3_countAcceptedRight_6 : decode cX3_countAcceptedRight 6 = .ok (.getfield 12, 3) := by decide +kernel
theorem dX3_countAcceptedRight_9 : decode cX3_countAcceptedRight 9 = .ok (.getfield 65, 3) := by decide +kernel
theorem dX3_countAcceptedRight_12 : decode cX3_countAcceptedRight 12 = .ok (.getfield 49, 3) := by decide +kernel
theorem dX3_countAcceptedRight_15 : decode cX3_countAcceptedRight 15 = .ok (.if_icmp .ge 49, 3) := by decide +kernel
theorem dX3_countAcceptedRight_18 : decode cX3_countAcceptedRight 18 = .ok (.aload_n 0, 1) := by decide +kernel
theorem dX3_countAcceptedRight_19 : decode cX3_countAcceptedRight 19 = .ok (.getfield 12, 3) := by decide +kernel
theorem dX3_countAcceptedRight_22 : decode cX3_countAcceptedRight 22 = .ok (.getfield 25, 3) := by decide +kernel
theorem dX3_countAcceptedRight_25 : decode cX3_countAcceptedRight 25 = .ok (.iload_n 1, 1) := by decide +kernel
theorem dX3_countAcceptedRight_26 : decode cX3_countAcceptedRight 26 = .ok (.iconst 0, 1) := by decide +kernel
theorem dX3_countAcceptedRight_27 : decode cX3_countAcceptedRight 27 = .ok (.aload_n 0, 1) := by decide +kernel
theorem dX3_countAcceptedRight_28 : decode cX3_countAcceptedRight 28 = .ok (.getfield 12, 3) := by decide +kernel
theorem dX3_countAcceptedRight_31 : decode cX3_countAcceptedRight 31 = .ok (.getfield 65, 3) := by decide +kernel
theorem dX3_countAcceptedRight_34 : decode cX3_countAcceptedRight 34 = .ok (.iload_n 3, 1) := by decide +kernel
theorem dX3_countAcceptedRight_35 : decode cX3_countAcceptedRight 35 = .ok (.invokevirtual 55, 3) := by decide +kernel
theorem dX3_countAcceptedRight_38 : decode cX3_countAcceptedRight 38 = .ok (.aload_n 0, 1) := by decide +kernel
theorem dX3_countAcceptedRight_39 : decode cX3_countAcceptedRight 39 = .ok (.getfield 12, 3) := by decide +kernel
theorem dX3_countAcceptedRight_42 : decode cX3_countAcceptedRight 42 = .ok (.getfield 65, 3) := by decide +kernel
theorem dX3_countAcceptedRight_45 : decode cX3_countAcceptedRight 45 = .ok (.iload_n 3, 1) := by decide +kernel
theorem dX3_countAcceptedRight_46 : decode cX3_countAcceptedRight 46 = .ok (.invokevirtual 58, 3) := by decide +kernel
theorem dX3_countAcceptedRight_49 : decode cX3_countAcceptedRight 49 = .ok (.invokevirtual 61, 3) := by decide +kernel
theorem dX3_countAcceptedRight_52 : decode cX3_countAcceptedRight 52 = .ok (.ifCond .eq 6, 3) := by decide +kernel
theorem dX3_countAcceptedRight_55 : decode cX3_countAcceptedRight 55 = .ok (.iinc 2 1, 3) := by decide +kernel
theorem dX3_countAcceptedRight_58 : decode cX3_countAcceptedRight 58 = .ok (.iinc 3 1, 3) := by decide +kernel
theorem dX3_countAcceptedRight_61 : decode cX3_countAcceptedRight 61 = .ok (.goto (-57), 3) := by decide +kernel
theorem dX3_countAcceptedRight_64 : decode cX3_countAcceptedRight 64 = .ok (.iload_n 2, 1) := by decide +kernel
theorem dX3_countAcceptedRight_65 : decode cX3_countAcceptedRight 65 = .ok (.ireturn, 1) := by decide +kernel
theorem dX3_countAcceptedJoined_0 : decode cX3_countAcceptedJoined 0 = .ok (.iconst 0, 1) := by decide +kernel
theorem dX3_countAcceptedJoined_1 : decode cX3_countAcceptedJoined 1 = .ok (.istore_n 2, 1) := by decide +kernel
theorem dX3_countAcceptedJoined_2 : decode cX3_countAcceptedJoined 2 = .ok (.iconst 0, 1) := by decide +kernel
theorem dX3_countAcceptedJoined_3 : decode cX3_countAcceptedJoined 3 = .ok (.istore_n 3, 1) := by decide +kernel
theorem dX3_countAcceptedJoined_4 : decode cX3_countAcceptedJoined 4 = .ok (.iload_n 3, 1) := by decide +kernel
theorem dX3_countAcceptedJoined_5 : decode cX3_countAcceptedJoined 5 = .ok (.aload_n 0, 1) := by decide +kernel
theorem dX3_countAcceptedJoined_6 : decode cX3_countAcceptedJoined 6 = .ok (.getfield 12, 3) := by decide +kernel
theorem dX3_countAcceptedJoined_9 : decode cX3_countAcceptedJoined 9 = .ok (.getfield 45, 3) := by decide +kernel
theorem dX3_countAcceptedJoined_12 : decode cX3_countAcceptedJoined 12 = .ok (.getfield 49, 3) := by decide +kernel
theorem dX3_countAcceptedJoined_15 : decode cX3_countAcceptedJoined 15 = .ok (.if_icmp .ge 109, 3) := by decide +kernel
theorem dX3_countAcceptedJoined_18 : decode cX3_countAcceptedJoined 18 = .ok (.aload_n 0, 1) := by decide +kernel
theorem dX3_countAcceptedJoined_19 : decode cX3_countAcceptedJoined 19 = .ok (.getfield 12, 3) := by decide +kernel
theorem dX3_countAcceptedJoined_22 : decode cX3_countAcceptedJoined 22 = .ok (.getfield 45, 3) := by decide +kernel
theorem dX3_countAcceptedJoined_25 : decode cX3_countAcceptedJoined 25 = .ok (.iload_n 3, 1) := by decide +kernel
theorem dX3_countAcceptedJoined_26 : decode cX3_countAcceptedJoined 26 = .ok (.invokevirtual 55, 3) := by decide +kernel
theorem dX3_countAcceptedJoined_29 : decode cX3_countAcceptedJoined 29 = .ok (.istore 4, 2) := by decide +kernel
theorem dX3_countAcceptedJoined_31 : decode cX3_countAcceptedJoined 31 = .ok (.aload_n 0, 1) := by decide +kernel
theorem dX3_countAcceptedJoined_32 : decode cX3_countAcceptedJoined 32 = .ok (.getfield 12, 3) := by decide +kernel
theorem dX3_countAcceptedJoined_35 : decode cX3_countAcceptedJoined 35 = .ok (.getfield 45, 3) := by decide +kernel
theorem dX3_countAcceptedJoined_38 : decode cX3_countAcceptedJoined 38 = .ok (.iload_n 3, 1) := by decide +kernel
theorem dX3_countAcceptedJoined_39 : decode cX3_countAcceptedJoined 39 = .ok (.invokevirtual 58, 3) := by decide +kernel
theorem dX3_countAcceptedJoined_42 : decode cX3_countAcceptedJoined 42 = .ok (.istore 5, 2) := by decide +kernel
theorem dX3_countAcceptedJoined_44 : decode cX3_countAcceptedJoined 44 = .ok (.iconst 0, 1) := by decide +kernel
theorem dX3_countAcceptedJoined_45 : decode cX3_countAcceptedJoined 45 = .ok (.istore 6, 2) := by decide +kernel
theorem dX3_countAcceptedJoined_47 : decode cX3_countAcceptedJoined 47 = .ok (.iload 6, 2) := by decide +kernel
theorem dX3_countAcceptedJoined_49 : decode cX3_countAcceptedJoined 49 = .ok (.aload_n 0, 1) := by decide +kernel
theorem dX3_countAcceptedJoined_50 : decode cX3_countAcceptedJoined 50 = .ok (.getfield 12, 3) := by decide +kernel
theorem dX3_countAcceptedJoined_53 : decode cX3_countAcceptedJoined 53 = .ok (.getfield 65, 3) := by decide +kernel
theorem dX3_countAcceptedJoined_56 : decode cX3_countAcceptedJoined 56 = .ok (.getfield 49, 3) := by decide +kernel
theorem dX3_countAcceptedJoined_59 : decode cX3_countAcceptedJoined 59 = .ok (.if_icmp .ge 59, 3) := by decide +kernel
theorem dX3_countAcceptedJoined_62 : decode cX3_countAcceptedJoined 62 = .ok (.aload_n 0, 1) := by decide +kernel
theorem dX3_countAcceptedJoined_63 : decode cX3_countAcceptedJoined 63 = .ok (.getfield 12, 3) := by decide +kernel
theorem dX3_countAcceptedJoined_66 : decode cX3_countAcceptedJoined 66 = .ok (.getfield 65, 3) := by decide +kernel
theorem dX3_countAcceptedJoined_69 : decode cX3_countAcceptedJoined 69 = .ok (.iload 6, 2) := by decide +kernel
theorem dX3_countAcceptedJoined_71 : decode cX3_countAcceptedJoined 71 = .ok (.invokevirtual 55, 3) := by decide +kernel
theorem dX3_countAcceptedJoined_74 : decode cX3_countAcceptedJoined 74 = .ok (.iload 5, 2) := by decide +kernel
theorem dX3_countAcceptedJoined_76 : decode cX3_countAcceptedJoined 76 = .ok (.if_icmp .ne 36, 3) := by decide +kernel
theorem dX3_countAcceptedJoined_79 : decode cX3_countAcceptedJoined 79 = .ok (.aload_n 0, 1) := by decide +kernel
theorem dX3_countAcceptedJoined_80 : decode cX3_countAcceptedJoined 80 = .ok (.getfield 12, 3) := by decide +kernel
theorem dX3_countAcceptedJoined_83 : decode cX3_countAcceptedJoined 83 = .ok (.getfield 25, 3) := by decide +kernel
theorem dX3_countAcceptedJoined_86 : decode cX3_countAcceptedJoined 86 = .ok (.iload_n 1, 1) := by decide +kernel
theorem dX3_countAcceptedJoined_87 : decode cX3_countAcceptedJoined 87 = .ok (.iload 4, 2) := by decide +kernel
theorem dX3_countAcceptedJoined_89 : decode cX3_countAcceptedJoined 89 = .ok (.iload 5, 2) := by decide +kernel
theorem dX3_countAcceptedJoined_91 : decode cX3_countAcceptedJoined 91 = .ok (.aload_n 0, 1) := by decide +kernel
theorem dX3_countAcceptedJoined_92 : decode cX3_countAcceptedJoined 92 = .ok (.getfield 12, 3) := by decide +kernel
theorem dX3_countAcceptedJoined_95 : decode cX3_countAcceptedJoined 95 = .ok (.getfield 65, 3) := by decide +kernel
theorem dX3_countAcceptedJoined_98 : decode cX3_countAcceptedJoined 98 = .ok (.iload 6, 2) := by decide +kernel
theorem dX3_countAcceptedJoined_100 : decode cX3_countAcceptedJoined 100 = .ok (.invokevirtual 58, 3) := by decide +kernel
theorem dX3_countAcceptedJoined_103 : decode cX3_countAcceptedJoined 103 = .ok (.invokevirtual 61, 3) := by decide +kernel
theorem dX3_countAcceptedJoined_106 : decode cX3_countAcceptedJoined 106 = .ok (.ifCond .eq 6, 3) := by decide +kernel
theorem dX3_countAcceptedJoined_109 : decode cX3_countAcceptedJoined 109 = .ok (.iinc 2 1, 3) := by decide +kernel
theorem dX3_countAcceptedJoined_112 : decode cX3_countAcceptedJoined 112 = .ok (.iinc 6 1, 3) := by decide +kernel
theorem dX3_countAcceptedJoined_115 : decode cX3_countAcceptedJoined 115 = .ok (.goto (-68), 3) := by decide +kernel
theorem dX3_countAcceptedJoined_118 : decode cX3_countAcceptedJoined 118 = .ok (.iinc 3 1, 3) := by decide +kernel
theorem dX3_countAcceptedJoined_121 : decode cX3_countAcceptedJoined 121 = .ok (.goto (-117), 3) := by decide +kernel
theorem dX3_countAcceptedJoined_124 : decode cX3_countAcceptedJoined 124 = .ok (.iload_n 2, 1) := by decide +kernel
theorem dX3_countAcceptedJoined_125 : decode cX3_countAcceptedJoined 125 = .ok (.ireturn, 1) := by decide +kernel
theorem dX3_tallyMatches_0 : decode cX3_tallyMatches 0 = .ok (.aload_n 0, 1) := by decide +kernel
theorem dX3_tallyMatches_1 : decode cX3_tallyMatches 1 = .ok (.getfield 18, 3) := by decide +kernel
theorem dX3_tallyMatches_4 : decode cX3_tallyMatches 4 = .ok (.iconst 0, 1) := by decide +kernel
theorem dX3_tallyMatches_5 : decode cX3_tallyMatches 5 = .ok (.invokestatic 68, 3) := by decide +kernel
theorem dX3_tallyMatches_8 : decode cX3_tallyMatches 8 = .ok (.iconst 0, 1) := by decide +kernel
theorem dX3_tallyMatches_9 : decode cX3_tallyMatches 9 = .ok (.istore_n 1, 1) := by decide +kernel
theorem dX3_tallyMatches_10 : decode cX3_tallyMatches 10 = .ok (.iload_n 1, 1) := by decide +kernel
theorem dX3_tallyMatches_11 : decode cX3_tallyMatches 11 = .ok (.aload_n 0, 1) := by decide +kernel
theorem dX3_tallyMatches_12 : decode cX3_tallyMatches 12 = .ok (.getfield 12, 3) := by decide +kernel
theorem dX3_tallyMatches_15 : decode cX3_tallyMatches 15 = .ok (.getfield 45, 3) := by decide +kernel
theorem dX3_tallyMatches_18 : decode cX3_tallyMatches 18 = .ok (.getfield 49, 3) := by decide +kernel
theorem dX3_tallyMatches_21 : decode cX3_tallyMatches 21 = .ok (.if_icmp .ge 129, 3) := by decide +kernel
theorem dX3_tallyMatches_24 : decode cX3_tallyMatches 24 = .ok (.aload_n 0, 1) := by decide +kernel
theorem dX3_tallyMatches_25 : decode cX3_tallyMatches 25 = .ok (.getfield 12, 3) := by decide +kernel
theorem dX3_tallyMatches_28 : decode cX3_tallyMatches 28 = .ok (.getfield 45, 3) := by decide +kernel
theorem dX3_tallyMatches_31 : decode cX3_tallyMatches 31 = .ok (.iload_n 1, 1) := by decide +kernel
theorem dX3_tallyMatches_32 : decode cX3_tallyMatches 32 = .ok (.invokevirtual 55, 3) := by decide +kernel
theorem dX3_tallyMatches_35 : decode cX3_tallyMatches 35 = .ok (.istore_n 2, 1) := by decide +kernel
theorem dX3_tallyMatches_36 : decode cX3_tallyMatches 36 = .ok (.aload_n 0, 1) := by decide +kernel
theorem dX3_tallyMatches_37 : decode cX3_tallyMatches 37 = .ok (.getfield 12, 3) := by decide +kernel
theorem dX3_tallyMatches_40 : decode cX3_tallyMatches 40 = .ok (.getfield 45, 3) := by decide +kernel
theorem dX3_tallyMatches_43 : decode cX3_tallyMatches 43 = .ok (.iload_n 1, 1) := by decide +kernel
theorem dX3_tallyMatches_44 : decode cX3_tallyMatches 44 = .ok (.invokevirtual 58, 3) := by decide +kernel
theorem dX3_tallyMatches_47 : decode cX3_tallyMatches 47 = .ok (.istore_n 3, 1) := by decide +kernel
theorem dX3_tallyMatches_48 : decode cX3_tallyMatches 48 = .ok (.iconst 0, 1) := by decide +kernel
theorem dX3_tallyMatches_49 : decode cX3_tallyMatches 49 = .ok (.istore 4, 2) := by decide +kernel
theorem dX3_tallyMatches_51 : decode cX3_tallyMatches 51 = .ok (.iload 4, 2) := by decide +kernel
theorem dX3_tallyMatches_53 : decode cX3_tallyMatches 53 = .ok (.aload_n 0, 1) := by decide +kernel
theorem dX3_tallyMatches_54 : decode cX3_tallyMatches 54 = .ok (.getfield 12, 3) := by decide +kernel
theorem dX3_tallyMatches_57 : decode cX3_tallyMatches 57 = .ok (.getfield 65, 3) := by decide +kernel
theorem dX3_tallyMatches_60 : decode cX3_tallyMatches 60 = .ok (.getfield 49, 3) := by decide +kernel
theorem dX3_tallyMatches_63 : decode cX3_tallyMatches 63 = .ok (.if_icmp .ge 81, 3) := by decide +kernel
theorem dX3_tallyMatches_66 : decode cX3_tallyMatches 66 = .ok (.aload_n 0, 1) := by decide +kernel
theorem dX3_tallyMatches_67 : decode cX3_tallyMatches 67 = .ok (.getfield 12, 3) := by decide +kernel
theorem dX3_tallyMatches_70 : decode cX3_tallyMatches 70 = .ok (.getfield 65, 3) := by decide +kernel
theorem dX3_tallyMatches_73 : decode cX3_tallyMatches 73 = .ok (.iload 4, 2) := by decide +kernel
theorem dX3_tallyMatches_75 : decode cX3_tallyMatches 75 = .ok (.invokevirtual 58, 3) := by decide +kernel
theorem dX3_tallyMatches_78 : decode cX3_tallyMatches 78 = .ok (.istore 5, 2) := by decide +kernel
theorem dX3_tallyMatches_80 : decode cX3_tallyMatches 80 = .ok (.aload_n 0, 1) := by decide +kernel
theorem dX3_tallyMatches_81 : decode cX3_tallyMatches 81 = .ok (.getfield 12, 3) := by decide +kernel
theorem dX3_tallyMatches_84 : decode cX3_tallyMatches 84 = .ok (.getfield 65, 3) := by decide +kernel
theorem dX3_tallyMatches_87 : decode cX3_tallyMatches 87 = .ok (.iload 4, 2) := by decide +kernel
theorem dX3_tallyMatches_89 : decode cX3_tallyMatches 89 = .ok (.invokevirtual 55, 3) := by decide +kernel
theorem dX3_tallyMatches_92 : decode cX3_tallyMatches 92 = .ok (.iload_n 3, 1) := by decide +kernel
theorem dX3_tallyMatches_93 : decode cX3_tallyMatches 93 = .ok (.if_icmp .ne 45, 3) := by decide +kernel
theorem dX3_tallyMatches_96 : decode cX3_tallyMatches 96 = .ok (.iload_n 2, 1) := by decide +kernel
theorem dX3_tallyMatches_97 : decode cX3_tallyMatches 97 = .ok (.iload 5, 2) := by decide +kernel
theorem dX3_tallyMatches_99 : decode cX3_tallyMatches 99 = .ok (.invokestatic 74, 3) := by decide +kernel
theorem dX3_tallyMatches_102 : decode cX3_tallyMatches 102 = .ok (.ifCond .eq 36, 3) := by decide +kernel
theorem dX3_tallyMatches_105 : decode cX3_tallyMatches 105 = .ok (.aload_n 0, 1) := by decide +kernel
theorem dX3_tallyMatches_106 : decode cX3_tallyMatches 106 = .ok (.getfield 12, 3) := by decide +kernel
theorem dX3_tallyMatches_109 : decode cX3_tallyMatches 109 = .ok (.getfield 25, 3) := by decide +kernel
theorem dX3_tallyMatches_112 : decode cX3_tallyMatches 112 = .ok (.iload_n 2, 1) := by decide +kernel
theorem dX3_tallyMatches_113 : decode cX3_tallyMatches 113 = .ok (.iload_n 3, 1) := by decide +kernel
theorem dX3_tallyMatches_114 : decode cX3_tallyMatches 114 = .ok (.iload 5, 2) := by decide +kernel
theorem dX3_tallyMatches_116 : decode cX3_tallyMatches 116 = .ok (.invokevirtual 77, 3) := by decide +kernel
theorem dX3_tallyMatches_119 : decode cX3_tallyMatches 119 = .ok (.ifCond .ne 19, 3) := by decide +kernel
theorem dX3_tallyMatches_122 : decode cX3_tallyMatches 122 = .ok (.aload_n 0, 1) := by decide +kernel
theorem dX3_tallyMatches_123 : decode cX3_tallyMatches 123 = .ok (.getfield 18, 3) := by decide +kernel
theorem dX3_tallyMatches_126 : decode cX3_tallyMatches 126 = .ok (.bipush 10, 2) := by decide +kernel
theorem dX3_tallyMatches_128 : decode cX3_tallyMatches 128 = .ok (.iload_n 2, 1) := by decide +kernel
theorem dX3_tallyMatches_129 : decode cX3_tallyMatches 129 = .ok (.imul, 1) := by decide +kernel
theorem dX3_tallyMatches_130 : decode cX3_tallyMatches 130 = .ok (.iload 5, 2) := by decide +kernel
theorem dX3_tallyMatches_132 : decode cX3_tallyMatches 132 = .ok (.iadd, 1) := by decide +kernel
theorem dX3_tallyMatches_133 : decode cX3_tallyMatches 133 = .ok (.dup2, 1) := by decide +kernel
theorem dX3_tallyMatches_134 : decode cX3_tallyMatches 134 = .ok (.iaload, 1) := by decide +kernel
theorem dX3_tallyMatches_135 : decode cX3_tallyMatches 135 = .ok (.iconst 1, 1) := by decide +kernel
theorem dX3_tallyMatches_136 : decode cX3_tallyMatches 136 = .ok (.iadd, 1) := by decide +kernel
theorem dX3_tallyMatches_137 : decode cX3_tallyMatches 137 = .ok (.iastore, 1) := by decide +kernel
theorem dX3_tallyMatches_138 : decode cX3_tallyMatches 138 = .ok (.iinc 4 1, 3) := by decide +kernel
theorem dX3_tallyMatches_141 : decode cX3_tallyMatches 141 = .ok (.goto (-90), 3) := by decide +kernel
theorem dX3_tallyMatches_144 : decode cX3_tallyMatches 144 = .ok (.iinc 1 1, 3) := by decide +kernel
theorem dX3_tallyMatches_147 : decode cX3_tallyMatches 147 = .ok (.goto (-137), 3) := by decide +kernel
theorem dX3_tallyMatches_150 : decode cX3_tallyMatches 150 = .ok (.return_, 1) := by decide +kernel
theorem dX3_countAnswers_0 : decode cX3_countAnswers 0 = .ok (.aload_n 0, 1) := by decide +kernel
theorem dX3_countAnswers_1 : decode cX3_countAnswers 1 = .ok (.invokevirtual 81, 3) := by decide +kernel
theorem dX3_countAnswers_4 : decode cX3_countAnswers 4 = .ok (.iconst 0, 1) := by decide +kernel
theorem dX3_countAnswers_5 : decode cX3_countAnswers 5 = .ok (.istore_n 1, 1) := by decide +kernel
theorem dX3_countAnswers_6 : decode cX3_countAnswers 6 = .ok (.iconst 0, 1) := by decide +kernel
theorem dX3_countAnswers_7 : decode cX3_countAnswers 7 = .ok (.istore_n 2, 1) := by decide +kernel
theorem dX3_countAnswers_8 : decode cX3_countAnswers 8 = .ok (.iload_n 2, 1) := by decide +kernel
theorem dX3_countAnswers_9 : decode cX3_countAnswers 9 = .ok (.bipush 100, 2) := by decide +kernel
theorem dX3_countAnswers_11 : decode cX3_countAnswers 11 = .ok (.if_icmp .ge 21, 3) := by decide +kernel
theorem dX3_countAnswers_14 : decode cX3_countAnswers 14 = .ok (.aload_n 0, 1) := by decide +kernel
theorem dX3_countAnswers_15 : decode cX3_countAnswers 15 = .ok (.getfield 18, 3) := by decide +kernel
theorem dX3_countAnswers_18 : decode cX3_countAnswers 18 = .ok (.iload_n 2, 1) := by decide +kernel
theorem dX3_countAnswers_19 : decode cX3_countAnswers 19 = .ok (.iaload, 1) := by decide +kernel
theorem dX3_countAnswers_20 : decode cX3_countAnswers 20 = .ok (.ifCond .le 6, 3) := by decide +kernel
theorem dX3_countAnswers_23 : decode cX3_countAnswers 23 = .ok (.iinc 1 1, 3) := by decide +kernel
theorem dX3_countAnswers_26 : decode cX3_countAnswers 26 = .ok (.iinc 2 1, 3) := by decide +kernel
theorem dX3_countAnswers_29 : decode cX3_countAnswers 29 = .ok (.goto (-21), 3) := by decide +kernel
theorem dX3_countAnswers_32 : decode cX3_countAnswers 32 = .ok (.iload_n 1, 1) := by decide +kernel
theorem dX3_countAnswers_33 : decode cX3_countAnswers 33 = .ok (.ireturn, 1) := by decide +kernel
theorem dX3_answerAt_0 : decode cX3_answerAt 0 = .ok (.aload_n 0, 1) := by decide +kernel
theorem dX3_answerAt_1 : decode cX3_answerAt 1 = .ok (.invokevirtual 81, 3) := by decide +kernel
theorem dX3_answerAt_4 : decode cX3_answerAt 4 = .ok (.iconst 0, 1) := by decide +kernel
theorem dX3_answerAt_5 : decode cX3_answerAt 5 = .ok (.istore_n 2, 1) := by decide +kernel
theorem dX3_answerAt_6 : decode cX3_answerAt 6 = .ok (.iconst 0, 1) := by decide +kernel
theorem dX3_answerAt_7 : decode cX3_answerAt 7 = .ok (.istore_n 3, 1) := by decide +kernel
theorem dX3_answerAt_8 : decode cX3_answerAt 8 = .ok (.iload_n 3, 1) := by decide +kernel
theorem dX3_answerAt_9 : decode cX3_answerAt 9 = .ok (.bipush 100, 2) := by decide +kernel
theorem dX3_answerAt_11 : decode cX3_answerAt 11 = .ok (.if_icmp .ge 28, 3) := by decide +kernel
theorem dX3_answerAt_14 : decode cX3_answerAt 14 = .ok (.aload_n 0, 1) := by decide +kernel
theorem dX3_answerAt_15 : decode cX3_answerAt 15 = .ok (.getfield 18, 3) := by decide +kernel
theorem dX3_answerAt_18 : decode cX3_answerAt 18 = .ok (.iload_n 3, 1) := by decide +kernel
theorem dX3_answerAt_19 : decode cX3_answerAt 19 = .ok (.iaload, 1) := by decide +kernel
theorem dX3_answerAt_20 : decode cX3_answerAt 20 = .ok (.ifCond .le 13, 3) := by decide +kernel
theorem dX3_answerAt_23 : decode cX3_answerAt 23 = .ok (.iload_n 2, 1) := by decide +kernel
theorem dX3_answerAt_24 : decode cX3_answerAt 24 = .ok (.iload_n 1, 1) := by decide +kernel
theorem dX3_answerAt_25 : decode cX3_answerAt 25 = .ok (.if_icmp .ne 5, 3) := by decide +kernel
theorem dX3_answerAt_28 : decode cX3_answerAt 28 = .ok (.iload_n 3, 1) := by decide +kernel
theorem dX3_answerAt_29 : decode cX3_answerAt 29 = .ok (.ireturn, 1) := by decide +kernel
theorem dX3_answerAt_30 : decode cX3_answerAt 30 = .ok (.iinc 2 1, 3) := by decide +kernel
theorem dX3_answerAt_33 : decode cX3_answerAt 33 = .ok (.iinc 3 1, 3) := by decide +kernel
theorem dX3_answerAt_36 : decode cX3_answerAt 36 = .ok (.goto (-28), 3) := by decide +kernel
theorem dX3_answerAt_39 : decode cX3_answerAt 39 = .ok (.sipush (-10001), 3) := by decide +kernel
theorem dX3_answerAt_42 : decode cX3_answerAt 42 = .ok (.ireturn, 1) := by decide +kernel
theorem dX3_joinedBs_0 : decode cX3_joinedBs 0 = .ok (.aload_n 0, 1) := by decide +kernel
theorem dX3_joinedBs_1 : decode cX3_joinedBs 1 = .ok (.getfield 12, 3) := by decide +kernel
theorem dX3_joinedBs_4 : decode cX3_joinedBs 4 = .ok (.getfield 45, 3) := by decide +kernel
theorem dX3_joinedBs_7 : decode cX3_joinedBs 7 = .ok (.iload_n 1, 1) := by decide +kernel
theorem dX3_joinedBs_8 : decode cX3_joinedBs 8 = .ok (.invokevirtual 84, 3) := by decide +kernel
theorem dX3_joinedBs_11 : decode cX3_joinedBs 11 = .ok (.aload_n 0, 1) := by decide +kernel
theorem dX3_joinedBs_12 : decode cX3_joinedBs 12 = .ok (.getfield 12, 3) := by decide +kernel
theorem dX3_joinedBs_15 : decode cX3_joinedBs 15 = .ok (.getfield 65, 3) := by decide +kernel
theorem dX3_joinedBs_18 : decode cX3_joinedBs 18 = .ok (.iload_n 2, 1) := by decide +kernel
theorem dX3_joinedBs_19 : decode cX3_joinedBs 19 = .ok (.invokevirtual 87, 3) := by decide +kernel
theorem dX3_joinedBs_22 : decode cX3_joinedBs 22 = .ok (.iand, 1) := by decide +kernel
theorem dX3_joinedBs_23 : decode cX3_joinedBs 23 = .ok (.ireturn, 1) := by decide +kernel
theorem dX3_countMatches_0 : decode cX3_countMatches 0 = .ok (.aload_n 0, 1) := by decide +kernel
theorem dX3_countMatches_1 : decode cX3_countMatches 1 = .ok (.iload_n 1, 1) := by decide +kernel
theorem dX3_countMatches_2 : decode cX3_countMatches 2 = .ok (.iload_n 2, 1) := by decide +kernel
theorem dX3_countMatches_3 : decode cX3_countMatches 3 = .ok (.invokevirtual 90, 3) := by decide +kernel
theorem dX3_countMatches_6 : decode cX3_countMatches 6 = .ok (.istore_n 3, 1) := by decide +kernel
theorem dX3_countMatches_7 : decode cX3_countMatches 7 = .ok (.iconst 0, 1) := by decide +kernel
theorem dX3_countMatches_8 : decode cX3_countMatches 8 = .ok (.istore 4, 2) := by decide +kernel
theorem dX3_countMatches_10 : decode cX3_countMatches 10 = .ok (.iconst 0, 1) := by decide +kernel
theorem dX3_countMatches_11 : decode cX3_countMatches 11 = .ok (.istore 5, 2) := by decide +kernel
theorem dX3_countMatches_13 : decode cX3_countMatches 13 = .ok (.iload 5, 2) := by decide +kernel
theorem dX3_countMatches_15 : decode cX3_countMatches 15 = .ok (.bipush 10, 2) := by decide +kernel
theorem dX3_countMatches_17 : decode cX3_countMatches 17 = .ok (.if_icmp .ge 38, 3) := by decide +kernel
theorem dX3_countMatches_20 : decode cX3_countMatches 20 = .ok (.iload_n 3, 1) := by decide +kernel
theorem dX3_countMatches_21 : decode cX3_countMatches 21 = .ok (.iload 5, 2) := by decide +kernel
theorem dX3_countMatches_23 : decode cX3_countMatches 23 = .ok (.invokestatic 94, 3) := by decide +kernel
theorem dX3_countMatches_26 : decode cX3_countMatches 26 = .ok (.ifCond .eq 23, 3) := by decide +kernel
theorem dX3_countMatches_29 : decode cX3_countMatches 29 = .ok (.aload_n 0, 1) := by decide +kernel
theorem dX3_countMatches_30 : decode cX3_countMatches 30 = .ok (.getfield 12, 3) := by decide +kernel
theorem dX3_countMatches_33 : decode cX3_countMatches 33 = .ok (.getfield 25, 3) := by decide +kernel
theorem dX3_countMatches_36 : decode cX3_countMatches 36 = .ok (.iload_n 1, 1) := by decide +kernel
theorem dX3_countMatches_37 : decode cX3_countMatches 37 = .ok (.iload 5, 2) := by decide +kernel
theorem dX3_countMatches_39 : decode cX3_countMatches 39 = .ok (.iload_n 2, 1) := by decide +kernel
theorem dX3_countMatches_40 : decode cX3_countMatches 40 = .ok (.invokevirtual 77, 3) := by decide +kernel
theorem dX3_countMatches_43 : decode cX3_countMatches 43 = .ok (.ifCond .ne 6, 3) := by decide +kernel
theorem dX3_countMatches_46 : decode cX3_countMatches 46 = .ok (.iinc 4 1, 3) := by decide +kernel
theorem dX3_countMatches_49 : decode cX3_countMatches 49 = .ok (.iinc 5 1, 3) := by decide +kernel
theorem dX3_countMatches_52 : decode cX3_countMatches 52 = .ok (.goto (-39), 3) := by decide +kernel
theorem dX3_countMatches_55 : decode cX3_countMatches 55 = .ok (.iload 4, 2) := by decide +kernel
theorem dX3_countMatches_57 : decode cX3_countMatches 57 = .ok (.ireturn, 1) := by decide +kernel
theorem dX3_firstCause_0 : decode cX3_firstCause 0 = .ok (.aload_n 0, 1) := by decide +kernel
theorem dX3_firstCause_1 : decode cX3_firstCause 1 = .ok (.getfield 12, 3) := by decide +kernel
theorem dX3_firstCause_4 : decode cX3_firstCause 4 = .ok (.getfield 45, 3) := by decide +kernel
theorem dX3_firstCause_7 : decode cX3_firstCause 7 = .ok (.iload_n 1, 1) := by decide +kernel
theorem dX3_firstCause_8 : decode cX3_firstCause 8 = .ok (.invokevirtual 84, 3) := by decide +kernel
theorem dX3_firstCause_11 : decode cX3_firstCause 11 = .ok (.istore_n 3, 1) := by decide +kernel
theorem dX3_firstCause_12 : decode cX3_firstCause 12 = .ok (.iload_n 3, 1) := by decide +kernel
theorem dX3_firstCause_13 : decode cX3_firstCause 13 = .ok (.ifCond .ne 5, 3) := by decide +kernel
theorem dX3_firstCause_16 : decode cX3_firstCause 16 = .ok (.iconst 0, 1) := by decide +kernel
theorem dX3_firstCause_17 : decode cX3_firstCause 17 = .ok (.ireturn, 1) := by decide +kernel
theorem dX3_firstCause_18 : decode cX3_firstCause 18 = .ok (.aload_n 0, 1) := by decide +kernel
theorem dX3_firstCause_19 : decode cX3_firstCause 19 = .ok (.iconst 0, 1) := by decide +kernel
theorem dX3_firstCause_20 : decode cX3_firstCause 20 = .ok (.iload_n 3, 1) := by decide +kernel
theorem dX3_firstCause_21 : decode cX3_firstCause 21 = .ok (.iload_n 1, 1) := by decide +kernel
theorem dX3_firstCause_22 : decode cX3_firstCause 22 = .ok (.iload_n 2, 1) := by decide +kernel
theorem dX3_firstCause_23 : decode cX3_firstCause 23 = .ok (.invokevirtual 97, 3) := by decide +kernel
theorem dX3_firstCause_26 : decode cX3_firstCause 26 = .ok (.istore 4, 2) := by decide +kernel
theorem dX3_firstCause_28 : decode cX3_firstCause 28 = .ok (.iload 4, 2) := by decide +kernel
theorem dX3_firstCause_30 : decode cX3_firstCause 30 = .ok (.sipush (-10001), 3) := by decide +kernel
theorem dX3_firstCause_33 : decode cX3_firstCause 33 = .ok (.if_icmp .eq 9, 3) := by decide +kernel
theorem dX3_firstCause_36 : decode cX3_firstCause 36 = .ok (.bipush 10, 2) := by decide +kernel
theorem dX3_firstCause_38 : decode cX3_firstCause 38 = .ok (.iload 4, 2) := by decide +kernel
theorem dX3_firstCause_40 : decode cX3_firstCause 40 = .ok (.iadd, 1) := by decide +kernel
theorem dX3_firstCause_41 : decode cX3_firstCause 41 = .ok (.ireturn, 1) := by decide +kernel
theorem dX3_firstCause_42 : decode cX3_firstCause 42 = .ok (.aload_n 0, 1) := by decide +kernel
theorem dX3_firstCause_43 : decode cX3_firstCause 43 = .ok (.getfield 12, 3) := by decide +kernel
theorem dX3_firstCause_46 : decode cX3_firstCause 46 = .ok (.getfield 65, 3) := by decide +kernel
theorem dX3_firstCause_49 : decode cX3_firstCause 49 = .ok (.iload_n 2, 1) := by decide +kernel
theorem dX3_firstCause_50 : decode cX3_firstCause 50 = .ok (.invokevirtual 87, 3) := by decide +kernel
theorem dX3_firstCause_53 : decode cX3_firstCause 53 = .ok (.istore 5, 2) := by decide +kernel
theorem dX3_firstCause_55 : decode cX3_firstCause 55 = .ok (.iload 5, 2) := by decide +kernel
theorem dX3_firstCause_57 : decode cX3_firstCause 57 = .ok (.ifCond .ne 5, 3) := by decide +kernel
theorem dX3_firstCause_60 : decode cX3_firstCause 60 = .ok (.iconst 1, 1) := by decide +kernel
theorem dX3_firstCause_61 : decode cX3_firstCause 61 = .ok (.ireturn, 1) := by decide +kernel
theorem dX3_firstCause_62 : decode cX3_firstCause 62 = .ok (.aload_n 0, 1) := by decide +kernel
theorem dX3_firstCause_63 : decode cX3_firstCause 63 = .ok (.iconst 1, 1) := by decide +kernel
theorem dX3_firstCause_64 : decode cX3_firstCause 64 = .ok (.iload 5, 2) := by decide +kernel
theorem dX3_firstCause_66 : decode cX3_firstCause 66 = .ok (.iload_n 1, 1) := by decide +kernel
theorem dX3_firstCause_67 : decode cX3_firstCause 67 = .ok (.iload_n 2, 1) := by decide +kernel
theorem dX3_firstCause_68 : decode cX3_firstCause 68 = .ok (.invokevirtual 97, 3) := by decide +kernel
theorem dX3_firstCause_71 : decode cX3_firstCause 71 = .ok (.istore 4, 2) := by decide +kernel
theorem dX3_firstCause_73 : decode cX3_firstCause 73 = .ok (.iload 4, 2) := by decide +kernel
theorem dX3_firstCause_75 : decode cX3_firstCause 75 = .ok (.sipush (-10001), 3) := by decide +kernel
theorem dX3_firstCause_78 : decode cX3_firstCause 78 = .ok (.if_icmp .eq 9, 3) := by decide +kernel
theorem dX3_firstCause_81 : decode cX3_firstCause 81 = .ok (.bipush 10, 2) := by decide +kernel
theorem dX3_firstCause_83 : decode cX3_firstCause 83 = .ok (.iload 4, 2) := by decide +kernel
theorem dX3_firstCause_85 : decode cX3_firstCause 85 = .ok (.iadd, 1) := by decide +kernel
theorem dX3_firstCause_86 : decode cX3_firstCause 86 = .ok (.ireturn, 1) := by decide +kernel
theorem dX3_firstCause_87 : decode cX3_firstCause 87 = .ok (.aload_n 0, 1) := by decide +kernel
theorem dX3_firstCause_88 : decode cX3_firstCause 88 = .ok (.iconst 0, 1) := by decide +kernel
theorem dX3_firstCause_89 : decode cX3_firstCause 89 = .ok (.iload_n 3, 1) := by decide +kernel
theorem dX3_firstCause_90 : decode cX3_firstCause 90 = .ok (.iload_n 1, 1) := by decide +kernel
theorem dX3_firstCause_91 : decode cX3_firstCause 91 = .ok (.iload_n 2, 1) := by decide +kernel
theorem dX3_firstCause_92 : decode cX3_firstCause 92 = .ok (.invokevirtual 101, 3) := by decide +kernel
theorem dX3_firstCause_95 : decode cX3_firstCause 95 = .ok (.aload_n 0, 1) := by decide +kernel
theorem dX3_firstCause_96 : decode cX3_firstCause 96 = .ok (.iconst 1, 1) := by decide +kernel
theorem dX3_firstCause_97 : decode cX3_firstCause 97 = .ok (.iload 5, 2) := by decide +kernel
theorem dX3_firstCause_99 : decode cX3_firstCause 99 = .ok (.iload_n 1, 1) := by decide +kernel
theorem dX3_firstCause_100 : decode cX3_firstCause 100 = .ok (.iload_n 2, 1) := by decide +kernel
theorem dX3_firstCause_101 : decode cX3_firstCause 101 = .ok (.invokevirtual 101, 3) := by decide +kernel
theorem dX3_firstCause_104 : decode cX3_firstCause 104 = .ok (.iand, 1) := by decide +kernel
theorem dX3_firstCause_105 : decode cX3_firstCause 105 = .ok (.istore 6, 2) := by decide +kernel
theorem dX3_firstCause_107 : decode cX3_firstCause 107 = .ok (.iload 6, 2) := by decide +kernel
theorem dX3_firstCause_109 : decode cX3_firstCause 109 = .ok (.ifCond .ne 5, 3) := by decide +kernel
theorem dX3_firstCause_112 : decode cX3_firstCause 112 = .ok (.iconst 2, 1) := by decide +kernel
theorem dX3_firstCause_113 : decode cX3_firstCause 113 = .ok (.ireturn, 1) := by decide +kernel
theorem dX3_firstCause_114 : decode cX3_firstCause 114 = .ok (.aload_n 0, 1) := by decide +kernel
theorem dX3_firstCause_115 : decode cX3_firstCause 115 = .ok (.iconst 2, 1) := by decide +kernel
theorem dX3_firstCause_116 : decode cX3_firstCause 116 = .ok (.iload 6, 2) := by decide +kernel
theorem dX3_firstCause_118 : decode cX3_firstCause 118 = .ok (.iload_n 1, 1) := by decide +kernel
theorem dX3_firstCause_119 : decode cX3_firstCause 119 = .ok (.iload_n 2, 1) := by decide +kernel
theorem dX3_firstCause_120 : decode cX3_firstCause 120 = .ok (.invokevirtual 97, 3) := by decide +kernel
theorem dX3_firstCause_123 : decode cX3_firstCause 123 = .ok (.istore 4, 2) := by decide +kernel
theorem dX3_firstCause_125 : decode cX3_firstCause 125 = .ok (.iload 4, 2) := by decide +kernel
theorem dX3_firstCause_127 : decode cX3_firstCause 127 = .ok (.sipush (-10001), 3) := by decide +kernel
theorem dX3_firstCause_130 : decode cX3_firstCause 130 = .ok (.if_icmp .eq 11, 3) := by decide +kernel
theorem dX3_firstCause_133 : decode cX3_firstCause 133 = .ok (.bipush 10, 2) := by decide +kernel
theorem dX3_firstCause_135 : decode cX3_firstCause 135 = .ok (.iload 4, 2) := by decide +kernel
theorem dX3_firstCause_137 : decode cX3_firstCause 137 = .ok (.iadd, 1) := by decide +kernel
theorem dX3_firstCause_138 : decode cX3_firstCause 138 = .ok (.goto 5, 3) := by decide +kernel
theorem dX3_firstCause_141 : decode cX3_firstCause 141 = .ok (.bipush 9, 2) := by decide +kernel
theorem dX3_firstCause_143 : decode cX3_firstCause 143 = .ok (.ireturn, 1) := by decide +kernel
theorem dX3_emptyingFilter_0 : decode cX3_emptyingFilter 0 = .ok (.iload_n 2, 1) := by decide +kernel
theorem dX3_emptyingFilter_1 : decode cX3_emptyingFilter 1 = .ok (.istore 5, 2) := by decide +kernel
theorem dX3_emptyingFilter_3 : decode cX3_emptyingFilter 3 = .ok (.iconst 0, 1) := by decide +kernel
theorem dX3_emptyingFilter_4 : decode cX3_emptyingFilter 4 = .ok (.istore 6, 2) := by decide +kernel
theorem dX3_emptyingFilter_6 : decode cX3_emptyingFilter 6 = .ok (.iload 6, 2) := by decide +kernel
theorem dX3_emptyingFilter_8 : decode cX3_emptyingFilter 8 = .ok (.aload_n 0, 1) := by decide +kernel
theorem dX3_emptyingFilter_9 : decode cX3_emptyingFilter 9 = .ok (.getfield 12, 3) := by decide +kernel
theorem dX3_emptyingFilter_12 : decode cX3_emptyingFilter 12 = .ok (.getfield 25, 3) := by decide +kernel
theorem dX3_emptyingFilter_15 : decode cX3_emptyingFilter 15 = .ok (.getfield 104, 3) := by decide +kernel
theorem dX3_emptyingFilter_18 : decode cX3_emptyingFilter 18 = .ok (.if_icmp .ge 46, 3) := by decide +kernel
theorem dX3_emptyingFilter_21 : decode cX3_emptyingFilter 21 = .ok (.aload_n 0, 1) := by decide +kernel
theorem dX3_emptyingFilter_22 : decode cX3_emptyingFilter 22 = .ok (.getfield 12, 3) := by decide +kernel
theorem dX3_emptyingFilter_25 : decode cX3_emptyingFilter 25 = .ok (.getfield 25, 3) := by decide +kernel
theorem dX3_emptyingFilter_28 : decode cX3_emptyingFilter 28 = .ok (.iload 6, 2) := by decide +kernel
theorem dX3_emptyingFilter_30 : decode cX3_emptyingFilter 30 = .ok (.iload_n 1, 1) := by decide +kernel
theorem dX3_emptyingFilter_31 : decode cX3_emptyingFilter 31 = .ok (.invokevirtual 29, 3) := by decide +kernel
theorem dX3_emptyingFilter_34 : decode cX3_emptyingFilter 34 = .ok (.ifCond .eq 24, 3) := by decide +kernel
theorem dX3_emptyingFilter_37 : decode cX3_emptyingFilter 37 = .ok (.aload_n 0, 1) := by decide +kernel
theorem dX3_emptyingFilter_38 : decode cX3_emptyingFilter 38 = .ok (.iload 6, 2) := by decide +kernel
theorem dX3_emptyingFilter_40 : decode cX3_emptyingFilter 40 = .ok (.iload 5, 2) := by decide +kernel
theorem dX3_emptyingFilter_42 : decode cX3_emptyingFilter 42 = .ok (.iload_n 3, 1) := by decide +kernel
theorem dX3_emptyingFilter_43 : decode cX3_emptyingFilter 43 = .ok (.iload 4, 2) := by decide +kernel
theorem dX3_emptyingFilter_45 : decode cX3_emptyingFilter 45 = .ok (.invokevirtual 105, 3) := by decide +kernel
theorem dX3_emptyingFilter_48 : decode cX3_emptyingFilter 48 = .ok (.istore 5, 2) := by decide +kernel
theorem dX3_emptyingFilter_50 : decode cX3_emptyingFilter 50 = .ok (.iload 5, 2) := by decide +kernel
theorem dX3_emptyingFilter_52 : decode cX3_emptyingFilter 52 = .ok (.ifCond .ne 6, 3) := by decide +kernel
theorem dX3_emptyingFilter_55 : decode cX3_emptyingFilter 55 = .ok (.iload 6, 2) := by decide +kernel
theorem dX3_emptyingFilter_57 : decode cX3_emptyingFilter 57 = .ok (.ireturn, 1) := by decide +kernel
theorem dX3_emptyingFilter_58 : decode cX3_emptyingFilter 58 = .ok (.iinc 6 1, 3) := by decide +kernel
theorem dX3_emptyingFilter_61 : decode cX3_emptyingFilter 61 = .ok (.goto (-55), 3) := by decide +kernel
theorem dX3_emptyingFilter_64 : decode cX3_emptyingFilter 64 = .ok (.sipush (-10001), 3) := by decide +kernel
theorem dX3_emptyingFilter_67 : decode cX3_emptyingFilter 67 = .ok (.ireturn, 1) := by decide +kernel
theorem dX3_survivors_0 : decode cX3_survivors 0 = .ok (.iload_n 2, 1) := by decide +kernel
theorem dX3_survivors_1 : decode cX3_survivors 1 = .ok (.istore 5, 2) := by decide +kernel
theorem dX3_survivors_3 : decode cX3_survivors 3 = .ok (.iconst 0, 1) := by decide +kernel
theorem dX3_survivors_4 : decode cX3_survivors 4 = .ok (.istore 6, 2) := by decide +kernel
theorem dX3_survivors_6 : decode cX3_survivors 6 = .ok (.iload 6, 2) := by decide +kernel
theorem dX3_survivors_8 : decode cX3_survivors 8 = .ok (.aload_n 0, 1) := by decide +kernel
theorem dX3_survivors_9 : decode cX3_survivors 9 = .ok (.getfield 12, 3) := by decide +kernel
theorem dX3_survivors_12 : decode cX3_survivors 12 = .ok (.getfield 25, 3) := by decide +kernel
theorem dX3_survivors_15 : decode cX3_survivors 15 = .ok (.getfield 104, 3) := by decide +kernel
theorem dX3_survivors_18 : decode cX3_survivors 18 = .ok (.if_icmp .ge 38, 3) := by decide +kernel
theorem dX3_survivors_21 : decode cX3_survivors 21 = .ok (.aload_n 0, 1) := by decide +kernel
theorem dX3_survivors_22 : decode cX3_survivors 22 = .ok (.getfield 12, 3) := by decide +kernel
theorem dX3_survivors_25 : decode cX3_survivors 25 = .ok (.getfield 25, 3) := by decide +kernel
theorem dX3_survivors_28 : decode cX3_survivors 28 = .ok (.iload 6, 2) := by decide +kernel
theorem dX3_survivors_30 : decode cX3_survivors 30 = .ok (.iload_n 1, 1) := by decide +kernel
theorem dX3_survivors_31 : decode cX3_survivors 31 = .ok (.invokevirtual 29, 3) := by decide +kernel
theorem dX3_survivors_34 : decode cX3_survivors 34 = .ok (.ifCond .eq 16, 3) := by decide +kernel
theorem dX3_survivors_37 : decode cX3_survivors 37 = .ok (.aload_n 0, 1) := by decide +kernel
theorem dX3_survivors_38 : decode cX3_survivors 38 = .ok (.iload 6, 2) := by decide +kernel
theorem dX3_survivors_40 : decode cX3_survivors 40 = .ok (.iload 5, 2) := by decide +kernel
theorem dX3_survivors_42 : decode cX3_survivors 42 = .ok (.iload_n 3, 1) := by decide +kernel
theorem dX3_survivors_43 : decode cX3_survivors 43 = .ok (.iload 4, 2) := by decide +kernel
theorem dX3_survivors_45 : decode cX3_survivors 45 = .ok (.invokevirtual 105, 3) := by decide +kernel
theorem dX3_survivors_48 : decode cX3_survivors 48 = .ok (.istore 5, 2) := by decide +kernel
theorem dX3_survivors_50 : decode cX3_survivors 50 = .ok (.iinc 6 1, 3) := by decide +kernel
theorem dX3_survivors_53 : decode cX3_survivors 53 = .ok (.goto (-47), 3) := by decide +kernel
theorem dX3_survivors_56 : decode cX3_survivors 56 = .ok (.iload 5, 2) := by decide +kernel
theorem dX3_survivors_58 : decode cX3_survivors 58 = .ok (.ireturn, 1) := by decide +kernel
theorem dX3_acceptedBs_0 : decode cX3_acceptedBs 0 = .ok (.iconst 0, 1) := by decide +kernel
theorem dX3_acceptedBs_1 : decode cX3_acceptedBs 1 = .ok (.istore 5, 2) := by decide +kernel
theorem dX3_acceptedBs_3 : decode cX3_acceptedBs 3 = .ok (.iconst 0, 1) := by decide +kernel
theorem dX3_acceptedBs_4 : decode cX3_acceptedBs 4 = .ok (.istore 6, 2) := by decide +kernel
theorem dX3_acceptedBs_6 : decode cX3_acceptedBs 6 = .ok (.iload 6, 2) := by decide +kernel
theorem dX3_acceptedBs_8 : decode cX3_acceptedBs 8 = .ok (.bipush 10, 2) := by decide +kernel
theorem dX3_acceptedBs_10 : decode cX3_acceptedBs 10 = .ok (.if_icmp .ge 46, 3) := by decide +kernel
theorem dX3_acceptedBs_13 : decode cX3_acceptedBs 13 = .ok (.iload_n 2, 1) := by decide +kernel
theorem dX3_acceptedBs_14 : decode cX3_acceptedBs 14 = .ok (.iload 6, 2) := by decide +kernel
theorem dX3_acceptedBs_16 : decode cX3_acceptedBs 16 = .ok (.invokestatic 94, 3) := by decide +kernel
theorem dX3_acceptedBs_19 : decode cX3_acceptedBs 19 = .ok (.ifCond .eq 31, 3) := by decide +kernel
theorem dX3_acceptedBs_22 : decode cX3_acceptedBs 22 = .ok (.aload_n 0, 1) := by decide +kernel
theorem dX3_acceptedBs_23 : decode cX3_acceptedBs 23 = .ok (.getfield 12, 3) := by decide +kernel
theorem dX3_acceptedBs_26 : decode cX3_acceptedBs 26 = .ok (.getfield 25, 3) := by decide +kernel
theorem dX3_acceptedBs_29 : decode cX3_acceptedBs 29 = .ok (.iload_n 1, 1) := by decide +kernel
theorem dX3_acceptedBs_30 : decode cX3_acceptedBs 30 = .ok (.iload_n 3, 1) := by decide +kernel
theorem dX3_acceptedBs_31 : decode cX3_acceptedBs 31 = .ok (.iload 6, 2) := by decide +kernel
theorem dX3_acceptedBs_33 : decode cX3_acceptedBs 33 = .ok (.iload 4, 2) := by decide +kernel
theorem dX3_acceptedBs_35 : decode cX3_acceptedBs 35 = .ok (.invokevirtual 61, 3) := by decide +kernel
theorem dX3_acceptedBs_38 : decode cX3_acceptedBs 38 = .ok (.ifCond .eq 12, 3) := by decide +kernel
theorem dX3_acceptedBs_41 : decode cX3_acceptedBs 41 = .ok (.iload 5, 2) := by decide +kernel
theorem dX3_acceptedBs_43 : decode cX3_acceptedBs 43 = .ok (.iconst 1, 1) := by decide +kernel
theorem dX3_acceptedBs_44 : decode cX3_acceptedBs 44 = .ok (.iload 6, 2) := by decide +kernel
theorem dX3_acceptedBs_46 : decode cX3_acceptedBs 46 = .ok (.ishl, 1) := by decide +kernel
theorem dX3_acceptedBs_47 : decode cX3_acceptedBs 47 = .ok (.ior, 1) := by decide +kernel
theorem dX3_acceptedBs_48 : decode cX3_acceptedBs 48 = .ok (.istore 5, 2) := by decide +kernel
theorem dX3_acceptedBs_50 : decode cX3_acceptedBs 50 = .ok (.iinc 6 1, 3) := by decide +kernel
theorem dX3_acceptedBs_53 : decode cX3_acceptedBs 53 = .ok (.goto (-47), 3) := by decide +kernel
theorem dX3_acceptedBs_56 : decode cX3_acceptedBs 56 = .ok (.iload 5, 2) := by decide +kernel
theorem dX3_acceptedBs_58 : decode cX3_acceptedBs 58 = .ok (.ireturn, 1) := by decide +kernel
theorem dX3_smallestRemoval_0 : decode cX3_smallestRemoval 0 = .ok (.aload_n 0, 1) := by decide +kernel
theorem dX3_smallestRemoval_1 : decode cX3_smallestRemoval 1 = .ok (.iload_n 1, 1) := by decide +kernel
theorem dX3_smallestRemoval_2 : decode cX3_smallestRemoval 2 = .ok (.iload_n 2, 1) := by decide +kernel
theorem dX3_smallestRemoval_3 : decode cX3_smallestRemoval 3 = .ok (.invokevirtual 90, 3) := by decide +kernel
theorem dX3_smallestRemoval_6 : decode cX3_smallestRemoval 6 = .ok (.istore_n 3, 1) := by decide +kernel
theorem dX3_smallestRemoval_7 : decode cX3_smallestRemoval 7 = .ok (.sipush (-10001), 3) := by decide +kernel
theorem dX3_smallestRemoval_10 : decode cX3_smallestRemoval 10 = .ok (.istore 4, 2) := by decide +kernel
theorem dX3_smallestRemoval_12 : decode cX3_smallestRemoval 12 = .ok (.iconst 0, 1) := by decide +kernel
theorem dX3_smallestRemoval_13 : decode cX3_smallestRemoval 13 = .ok (.istore 5, 2) := by decide +kernel
theorem dX3_smallestRemoval_15 : decode cX3_smallestRemoval 15 = .ok (.iload 5, 2) := by decide +kernel
theorem dX3_smallestRemoval_17 : decode cX3_smallestRemoval 17 = .ok (.bipush 10, 2) := by decide +kernel
theorem dX3_smallestRemoval_19 : decode cX3_smallestRemoval 19 = .ok (.if_icmp .ge 56, 3) := by decide +kernel
theorem dX3_smallestRemoval_22 : decode cX3_smallestRemoval 22 = .ok (.iload_n 3, 1) := by decide +kernel
theorem dX3_smallestRemoval_23 : decode cX3_smallestRemoval 23 = .ok (.iload 5, 2) := by decide +kernel
theorem dX3_smallestRemoval_25 : decode cX3_smallestRemoval 25 = .ok (.invokestatic 94, 3) := by decide +kernel
theorem dX3_smallestRemoval_28 : decode cX3_smallestRemoval 28 = .ok (.ifCond .eq 41, 3) := by decide +kernel
theorem dX3_smallestRemoval_31 : decode cX3_smallestRemoval 31 = .ok (.aload_n 0, 1) := by decide +kernel
theorem dX3_smallestRemoval_32 : decode cX3_smallestRemoval 32 = .ok (.getfield 12, 3) := by decide +kernel
theorem dX3_smallestRemoval_35 : decode cX3_smallestRemoval 35 = .ok (.getfield 25, 3) := by decide +kernel
theorem dX3_smallestRemoval_38 : decode cX3_smallestRemoval 38 = .ok (.iload_n 1, 1) := by decide +kernel
theorem dX3_smallestRemoval_39 : decode cX3_smallestRemoval 39 = .ok (.iload 5, 2) := by decide +kernel
theorem dX3_smallestRemoval_41 : decode cX3_smallestRemoval 41 = .ok (.iload_n 2, 1) := by decide +kernel
theorem dX3_smallestRemoval_42 : decode cX3_smallestRemoval 42 = .ok (.invokevirtual 77, 3) := by decide +kernel
theorem dX3_smallestRemoval_45 : decode cX3_smallestRemoval 45 = .ok (.istore 6, 2) := by decide +kernel
theorem dX3_smallestRemoval_47 : decode cX3_smallestRemoval 47 = .ok (.iload 4, 2) := by decide +kernel
theorem dX3_smallestRemoval_49 : decode cX3_smallestRemoval 49 = .ok (.sipush (-10001), 3) := by decide +kernel
theorem dX3_smallestRemoval_52 : decode cX3_smallestRemoval 52 = .ok (.if_icmp .eq 13, 3) := by decide +kernel
theorem dX3_smallestRemoval_55 : decode cX3_smallestRemoval 55 = .ok (.iload 6, 2) := by decide +kernel
theorem dX3_smallestRemoval_57 : decode cX3_smallestRemoval 57 = .ok (.iload 4, 2) := by decide +kernel
theorem dX3_smallestRemoval_59 : decode cX3_smallestRemoval 59 = .ok (.invokestatic 108, 3) := by decide +kernel
theorem dX3_smallestRemoval_62 : decode cX3_smallestRemoval 62 = .ok (.ifCond .eq 7, 3) := by decide +kernel
theorem dX3_smallestRemoval_65 : decode cX3_smallestRemoval 65 = .ok (.iload 6, 2) := by decide +kernel
theorem dX3_smallestRemoval_67 : decode cX3_smallestRemoval 67 = .ok (.istore 4, 2) := by decide +kernel
theorem dX3_smallestRemoval_69 : decode cX3_smallestRemoval 69 = .ok (.iinc 5 1, 3) := by decide +kernel
theorem dX3_smallestRemoval_72 : decode cX3_smallestRemoval 72 = .ok (.goto (-57), 3) := by decide +kernel
theorem dX3_smallestRemoval_75 : decode cX3_smallestRemoval 75 = .ok (.iload 4, 2) := by decide +kernel
theorem dX3_smallestRemoval_77 : decode cX3_smallestRemoval 77 = .ok (.ireturn, 1) := by decide +kernel
theorem dX3_isSmallerSet_0 : decode cX3_isSmallerSet 0 = .ok (.iload_n 0, 1) := by decide +kernel
theorem dX3_isSmallerSet_1 : decode cX3_isSmallerSet 1 = .ok (.invokestatic 111, 3) := by decide +kernel
theorem dX3_isSmallerSet_4 : decode cX3_isSmallerSet 4 = .ok (.iload_n 1, 1) := by decide +kernel
theorem dX3_isSmallerSet_5 : decode cX3_isSmallerSet 5 = .ok (.invokestatic 111, 3) := by decide +kernel
theorem dX3_isSmallerSet_8 : decode cX3_isSmallerSet 8 = .ok (.isub, 1) := by decide +kernel
theorem dX3_isSmallerSet_9 : decode cX3_isSmallerSet 9 = .ok (.istore_n 2, 1) := by decide +kernel
theorem dX3_isSmallerSet_10 : decode cX3_isSmallerSet 10 = .ok (.iload_n 2, 1) := by decide +kernel
theorem dX3_isSmallerSet_11 : decode cX3_isSmallerSet 11 = .ok (.ifCond .lt 12, 3) := by decide +kernel
theorem dX3_isSmallerSet_14 : decode cX3_isSmallerSet 14 = .ok (.iload_n 2, 1) := by decide +kernel
theorem dX3_isSmallerSet_15 : decode cX3_isSmallerSet 15 = .ok (.ifCond .ne 12, 3) := by decide +kernel
theorem dX3_isSmallerSet_18 : decode cX3_isSmallerSet 18 = .ok (.iload_n 0, 1) := by decide +kernel
theorem dX3_isSmallerSet_19 : decode cX3_isSmallerSet 19 = .ok (.iload_n 1, 1) := by decide +kernel
theorem dX3_isSmallerSet_20 : decode cX3_isSmallerSet 20 = .ok (.if_icmp .ge 7, 3) := by decide +kernel
theorem dX3_isSmallerSet_23 : decode cX3_isSmallerSet 23 = .ok (.iconst 1, 1) := by decide +kernel
theorem dX3_isSmallerSet_24 : decode cX3_isSmallerSet 24 = .ok (.goto 4, 3) := by decide +kernel
theorem dX3_isSmallerSet_27 : decode cX3_isSmallerSet 27 = .ok (.iconst 0, 1) := by decide +kernel
theorem dX3_isSmallerSet_28 : decode cX3_isSmallerSet 28 = .ok (.ireturn, 1) := by decide +kernel
theorem dX3_nearestConstant_0 : decode cX3_nearestConstant 0 = .ok (.aload_n 0, 1) := by decide +kernel
theorem dX3_nearestConstant_1 : decode cX3_nearestConstant 1 = .ok (.getfield 12, 3) := by decide +kernel
theorem dX3_nearestConstant_4 : decode cX3_nearestConstant 4 = .ok (.getfield 25, 3) := by decide +kernel
theorem dX3_nearestConstant_7 : decode cX3_nearestConstant 7 = .ok (.iload_n 3, 1) := by decide +kernel
theorem dX3_nearestConstant_8 : decode cX3_nearestConstant 8 = .ok (.invokevirtual 116, 3) := by decide +kernel
theorem dX3_nearestConstant_11 : decode cX3_nearestConstant 11 = .ok (.istore 4, 2) := by decide +kernel
theorem dX3_nearestConstant_13 : decode cX3_nearestConstant 13 = .ok (.aload_n 0, 1) := by decide +kernel
theorem dX3_nearestConstant_14 : decode cX3_nearestConstant 14 = .ok (.iload_n 1, 1) := by decide +kernel
theorem dX3_nearestConstant_15 : decode cX3_nearestConstant 15 = .ok (.iload_n 2, 1) := by decide +kernel
theorem dX3_nearestConstant_16 : decode cX3_nearestConstant 16 = .ok (.iload_n 3, 1) := by decide +kernel
theorem dX3_nearestConstant_17 : decode cX3_nearestConstant 17 = .ok (.invokevirtual 119, 3) := by decide +kernel
theorem dX3_nearestConstant_20 : decode cX3_nearestConstant 20 = .ok (.istore 5, 2) := by decide +kernel
theorem dX3_nearestConstant_22 : decode cX3_nearestConstant 22 = .ok (.bipush 27, 2) := by decide +kernel
theorem dX3_nearestConstant_24 : decode cX3_nearestConstant 24 = .ok (.istore 6, 2) := by decide +kernel
theorem dX3_nearestConstant_26 : decode cX3_nearestConstant 26 = .ok (.iconst 0, 1) := by decide +kernel
theorem dX3_nearestConstant_27 : decode cX3_nearestConstant 27 = .ok (.istore 7, 2) := by decide +kernel
theorem dX3_nearestConstant_29 : decode cX3_nearestConstant 29 = .ok (.iload 7, 2) := by decide +kernel
theorem dX3_nearestConstant_31 : decode cX3_nearestConstant 31 = .ok (.iload 6, 2) := by decide +kernel
theorem dX3_nearestConstant_33 : decode cX3_nearestConstant 33 = .ok (.if_icmp .gt 55, 3) := by decide +kernel
theorem dX3_nearestConstant_36 : decode cX3_nearestConstant 36 = .ok (.aload_n 0, 1) := by decide +kernel
theorem dX3_nearestConstant_37 : decode cX3_nearestConstant 37 = .ok (.iload 4, 2) := by decide +kernel
theorem dX3_nearestConstant_39 : decode cX3_nearestConstant 39 = .ok (.iload 7, 2) := by decide +kernel
theorem dX3_nearestConstant_41 : decode cX3_nearestConstant 41 = .ok (.isub, 1) := by decide +kernel
theorem dX3_nearestConstant_42 : decode cX3_nearestConstant 42 = .ok (.iload_n 3, 1) := by decide +kernel
theorem dX3_nearestConstant_43 : decode cX3_nearestConstant 43 = .ok (.iload 5, 2) := by decide +kernel
theorem dX3_nearestConstant_45 : decode cX3_nearestConstant 45 = .ok (.iload_n 1, 1) := by decide +kernel
theorem dX3_nearestConstant_46 : decode cX3_nearestConstant 46 = .ok (.iload_n 2, 1) := by decide +kernel
theorem dX3_nearestConstant_47 : decode cX3_nearestConstant 47 = .ok (.invokevirtual 122, 3) := by decide +kernel
theorem dX3_nearestConstant_50 : decode cX3_nearestConstant 50 = .ok (.ifCond .eq 9, 3) := by decide +kernel
theorem dX3_nearestConstant_53 : decode cX3_nearestConstant 53 = .ok (.iload 4, 2) := by decide +kernel
theorem dX3_nearestConstant_55 : decode cX3_nearestConstant 55 = .ok (.iload 7, 2) := by decide +kernel
theorem dX3_nearestConstant_57 : decode cX3_nearestConstant 57 = .ok (.isub, 1) := by decide +kernel
theorem dX3_nearestConstant_58 : decode cX3_nearestConstant 58 = .ok (.ireturn, 1) := by decide +kernel
theorem dX3_nearestConstant_59 : decode cX3_nearestConstant 59 = .ok (.aload_n 0, 1) := by decide +kernel
theorem dX3_nearestConstant_60 : decode cX3_nearestConstant 60 = .ok (.iload 4, 2) := by decide +kernel
theorem dX3_nearestConstant_62 : decode cX3_nearestConstant 62 = .ok (.iload 7, 2) := by decide +kernel
theorem dX3_nearestConstant_64 : decode cX3_nearestConstant 64 = .ok (.iadd, 1) := by decide +kernel
theorem dX3_nearestConstant_65 : decode cX3_nearestConstant 65 = .ok (.iload_n 3, 1) := by decide +kernel
theorem dX3_nearestConstant_66 : decode cX3_nearestConstant 66 = .ok (.iload 5, 2) := by decide +kernel
theorem dX3_nearestConstant_68 : decode cX3_nearestConstant 68 = .ok (.iload_n 1, 1) := by decide +kernel
theorem dX3_nearestConstant_69 : decode cX3_nearestConstant 69 = .ok (.iload_n 2, 1) := by decide +kernel
theorem dX3_nearestConstant_70 : decode cX3_nearestConstant 70 = .ok (.invokevirtual 122, 3) := by decide +kernel
theorem dX3_nearestConstant_73 : decode cX3_nearestConstant 73 = .ok (.ifCond .eq 9, 3) := by decide +kernel
theorem dX3_nearestConstant_76 : decode cX3_nearestConstant 76 = .ok (.iload 4, 2) := by decide +kernel
theorem dX3_nearestConstant_78 : decode cX3_nearestConstant 78 = .ok (.iload 7, 2) := by decide +kernel
theorem dX3_nearestConstant_80 : decode cX3_nearestConstant 80 = .ok (.iadd, 1) := by decide +kernel
theorem dX3_nearestConstant_81 : decode cX3_nearestConstant 81 = .ok (.ireturn, 1) := by decide +kernel
theorem dX3_nearestConstant_82 : decode cX3_nearestConstant 82 = .ok (.iinc 7 1, 3) := by decide +kernel
theorem dX3_nearestConstant_85 : decode cX3_nearestConstant 85 = .ok (.goto (-56), 3) := by decide +kernel
theorem dX3_nearestConstant_88 : decode cX3_nearestConstant 88 = .ok (.sipush (-10001), 3) := by decide +kernel
theorem dX3_nearestConstant_91 : decode cX3_nearestConstant 91 = .ok (.ireturn, 1) := by decide +kernel
theorem dX3_bsAcceptedByOthers_0 : decode cX3_bsAcceptedByOthers 0 = .ok (.aload_n 0, 1) := by decide +kernel
theorem dX3_bsAcceptedByOthers_1 : decode cX3_bsAcceptedByOthers 1 = .ok (.iload_n 1, 1) := by decide +kernel
theorem dX3_bsAcceptedByOthers_2 : decode cX3_bsAcceptedByOthers 2 = .ok (.iload_n 2, 1) := by decide +kernel
theorem dX3_bsAcceptedByOthers_3 : decode cX3_bsAcceptedByOthers 3 = .ok (.invokevirtual 90, 3) := by decide +kernel
theorem dX3_bsAcceptedByOthers_6 : decode cX3_bsAcceptedByOthers 6 = .ok (.istore 4, 2) := by decide +kernel
theorem dX3_bsAcceptedByOthers_8 : decode cX3_bsAcceptedByOthers 8 = .ok (.iconst 0, 1) := by decide +kernel
theorem dX3_bsAcceptedByOthers_9 : decode cX3_bsAcceptedByOthers 9 = .ok (.istore 5, 2) := by decide +kernel
theorem dX3_bsAcceptedByOthers_11 : decode cX3_bsAcceptedByOthers 11 = .ok (.iconst 0, 1) := by decide +kernel
theorem dX3_bsAcceptedByOthers_12 : decode cX3_bsAcceptedByOthers 12 = .ok (.istore 6, 2) := by decide +kernel
theorem dX3_bsAcceptedByOthers_14 : decode cX3_bsAcceptedByOthers 14 = .ok (.iload 6, 2) := by decide +kernel
theorem dX3_bsAcceptedByOthers_16 : decode cX3_bsAcceptedByOthers 16 = .ok (.bipush 10, 2) := by decide +kernel
theorem dX3_bsAcceptedByOthers_18 : decode cX3_bsAcceptedByOthers 18 = .ok (.if_icmp .ge 51, 3) := by decide +kernel
theorem dX3_bsAcceptedByOthers_21 : decode cX3_bsAcceptedByOthers 21 = .ok (.iload 4, 2) := by decide +kernel
theorem dX3_bsAcceptedByOthers_23 : decode cX3_bsAcceptedByOthers 23 = .ok (.iload 6, 2) := by decide +kernel
theorem dX3_bsAcceptedByOthers_25 : decode cX3_bsAcceptedByOthers 25 = .ok (.invokestatic 94, 3) := by decide +kernel
theorem dX3_bsAcceptedByOthers_28 : decode cX3_bsAcceptedByOthers 28 = .ok (.ifCond .eq 35, 3) := by decide +kernel
theorem dX3_bsAcceptedByOthers_31 : decode cX3_bsAcceptedByOthers 31 = .ok (.aload_n 0, 1) := by decide +kernel
theorem dX3_bsAcceptedByOthers_32 : decode cX3_bsAcceptedByOthers 32 = .ok (.getfield 12, 3) := by decide +kernel
theorem dX3_bsAcceptedByOthers_35 : decode cX3_bsAcceptedByOthers 35 = .ok (.getfield 25, 3) := by decide +kernel
theorem dX3_bsAcceptedByOthers_38 : decode cX3_bsAcceptedByOthers 38 = .ok (.iload_n 1, 1) := by decide +kernel
theorem dX3_bsAcceptedByOthers_39 : decode cX3_bsAcceptedByOthers 39 = .ok (.iload 6, 2) := by decide +kernel
theorem dX3_bsAcceptedByOthers_41 : decode cX3_bsAcceptedByOthers 41 = .ok (.iload_n 2, 1) := by decide +kernel
theorem dX3_bsAcceptedByOthers_42 : decode cX3_bsAcceptedByOthers 42 = .ok (.invokevirtual 77, 3) := by decide +kernel
theorem dX3_bsAcceptedByOthers_45 : decode cX3_bsAcceptedByOthers 45 = .ok (.iconst 1, 1) := by decide +kernel
theorem dX3_bsAcceptedByOthers_46 : decode cX3_bsAcceptedByOthers 46 = .ok (.iload_n 3, 1) := by decide +kernel
theorem dX3_bsAcceptedByOthers_47 : decode cX3_bsAcceptedByOthers 47 = .ok (.ishl, 1) := by decide +kernel
theorem dX3_bsAcceptedByOthers_48 : decode cX3_bsAcceptedByOthers 48 = .ok (.iconst (-1), 1) := by decide +kernel
theorem dX3_bsAcceptedByOthers_49 : decode cX3_bsAcceptedByOthers 49 = .ok (.ixor, 1) := by decide +kernel
theorem dX3_bsAcceptedByOthers_50 : decode cX3_bsAcceptedByOthers 50 = .ok (.iand, 1) := by decide +kernel
theorem dX3_bsAcceptedByOthers_51 : decode cX3_bsAcceptedByOthers 51 = .ok (.ifCond .ne 12, 3) := by decide +kernel
theorem dX3_bsAcceptedByOthers_54 : decode cX3_bsAcceptedByOthers 54 = .ok (.iload 5, 2) := by decide +kernel
theorem dX3_bsAcceptedByOthers_56 : decode cX3_bsAcceptedByOthers 56 = .ok (.iconst 1, 1) := by decide +kernel
theorem dX3_bsAcceptedByOthers_57 : decode cX3_bsAcceptedByOthers 57 = .ok (.iload 6, 2) := by decide +kernel
theorem dX3_bsAcceptedByOthers_59 : decode cX3_bsAcceptedByOthers 59 = .ok (.ishl, 1) := by decide +kernel
theorem dX3_bsAcceptedByOthers_60 : decode cX3_bsAcceptedByOthers 60 = .ok (.ior, 1) := by decide +kernel
theorem dX3_bsAcceptedByOthers_61 : decode cX3_bsAcceptedByOthers 61 = .ok (.istore 5, 2) := by decide +kernel
theorem dX3_bsAcceptedByOthers_63 : decode cX3_bsAcceptedByOthers 63 = .ok (.iinc 6 1, 3) := by decide +kernel
theorem dX3_bsAcceptedByOthers_66 : decode cX3_bsAcceptedByOthers 66 = .ok (.goto (-52), 3) := by decide +kernel
theorem dX3_bsAcceptedByOthers_69 : decode cX3_bsAcceptedByOthers 69 = .ok (.iload 5, 2) := by decide +kernel
theorem dX3_bsAcceptedByOthers_71 : decode cX3_bsAcceptedByOthers 71 = .ok (.ireturn, 1) := by decide +kernel
theorem dX3_isRepair_0 : decode cX3_isRepair 0 = .ok (.aload_n 0, 1) := by decide +kernel
theorem dX3_isRepair_1 : decode cX3_isRepair 1 = .ok (.getfield 12, 3) := by decide +kernel
theorem dX3_isRepair_4 : decode cX3_isRepair 4 = .ok (.getfield 25, 3) := by decide +kernel
theorem dX3_isRepair_7 : decode cX3_isRepair 7 = .ok (.iload_n 2, 1) := by decide +kernel
