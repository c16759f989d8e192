theorem dX3_isRepair_8 : decode cX3_isRepair 8 = .ok (.iload_n 1, 1) := by decide +kernel
theorem dX3_isRepair_9 : decode cX3_isRepair 9 = .ok (.invokevirtual 126, 3) := by decide +kernel
theorem dX3_isRepair_12 : decode cX3_isRepair 12 = .ok (.ifCond .ne 5, 3) := by decide +kernel
theorem dX3_isRepair_15 : decode cX3_isRepair 15 = .ok (.iconst 0, 1) := by decide +kernel
theorem dX3_isRepair_16 : decode cX3_isRepair 16 = .ok (.ireturn, 1) := by decide +kernel
theorem dX3_isRepair_17 : decode cX3_isRepair 17 = .ok (.iconst 0, 1) := by decide +kernel
theorem dX3_isRepair_18 : decode cX3_isRepair 18 = .ok (.istore 6, 2) := by decide +kernel
theorem dX3_isRepair_20 : decode cX3_isRepair 20 = .ok (.iload 6, 2) := by decide +kernel
theorem dX3_isRepair_22 : decode cX3_isRepair 22 = .ok (.bipush 10, 2) := by decide +kernel
theorem dX3_isRepair_24 : decode cX3_isRepair 24 = .ok (.if_icmp .ge 41, 3) := by decide +kernel
theorem dX3_isRepair_27 : decode cX3_isRepair 27 = .ok (.iload_n 3, 1) := by decide +kernel
theorem dX3_isRepair_28 : decode cX3_isRepair 28 = .ok (.iload 6, 2) := by decide +kernel
theorem dX3_isRepair_30 : decode cX3_isRepair 30 = .ok (.invokestatic 94, 3) := by decide +kernel
theorem dX3_isRepair_33 : decode cX3_isRepair 33 = .ok (.ifCond .eq 26, 3) := by decide +kernel
theorem dX3_isRepair_36 : decode cX3_isRepair 36 = .ok (.aload_n 0, 1) := by decide +kernel
theorem dX3_isRepair_37 : decode cX3_isRepair 37 = .ok (.getfield 12, 3) := by decide +kernel
theorem dX3_isRepair_40 : decode cX3_isRepair 40 = .ok (.getfield 25, 3) := by decide +kernel
theorem dX3_isRepair_43 : decode cX3_isRepair 43 = .ok (.iload_n 1, 1) := by decide +kernel
theorem dX3_isRepair_44 : decode cX3_isRepair 44 = .ok (.iload_n 2, 1) := by decide +kernel
theorem dX3_isRepair_45 : decode cX3_isRepair 45 = .ok (.iload 4, 2) := by decide +kernel
theorem dX3_isRepair_47 : decode cX3_isRepair 47 = .ok (.iload 6, 2) := by decide +kernel
theorem dX3_isRepair_49 : decode cX3_isRepair 49 = .ok (.iload 5, 2) := by decide +kernel
theorem dX3_isRepair_51 : decode cX3_isRepair 51 = .ok (.invokevirtual 129, 3) := by decide +kernel
theorem dX3_isRepair_54 : decode cX3_isRepair 54 = .ok (.ifCond .eq 5, 3) := by decide +kernel
theorem dX3_isRepair_57 : decode cX3_isRepair 57 = .ok (.iconst 1, 1) := by decide +kernel
theorem dX3_isRepair_58 : decode cX3_isRepair 58 = .ok (.ireturn, 1) := by decide +kernel
theorem dX3_isRepair_59 : decode cX3_isRepair 59 = .ok (.iinc 6 1, 3) := by decide +kernel
theorem dX3_isRepair_62 : decode cX3_isRepair 62 = .ok (.goto (-42), 3) := by decide +kernel
theorem dX3_isRepair_65 : decode cX3_isRepair 65 = .ok (.iconst 0, 1) := by decide +kernel
theorem dX3_isRepair_66 : decode cX3_isRepair 66 = .ok (.ireturn, 1) := by decide +kernel
theorem dX3_cheapestB_0 : decode cX3_cheapestB 0 = .ok (.sipush (-10001), 3) := by decide +kernel
theorem dX3_cheapestB_3 : decode cX3_cheapestB 3 = .ok (.istore_n 3, 1) := by decide +kernel
theorem dX3_cheapestB_4 : decode cX3_cheapestB 4 = .ok (.iconst 0, 1) := by decide +kernel
theorem dX3_cheapestB_5 : decode cX3_cheapestB 5 = .ok (.istore 4, 2) := by decide +kernel
theorem dX3_cheapestB_7 : decode cX3_cheapestB 7 = .ok (.iconst 0, 1) := by decide +kernel
theorem dX3_cheapestB_8 : decode cX3_cheapestB 8 = .ok (.istore 5, 2) := by decide +kernel
theorem dX3_cheapestB_10 : decode cX3_cheapestB 10 = .ok (.iload 5, 2) := by decide +kernel
theorem dX3_cheapestB_12 : decode cX3_cheapestB 12 = .ok (.bipush 10, 2) := by decide +kernel
theorem dX3_cheapestB_14 : decode cX3_cheapestB 14 = .ok (.if_icmp .ge 57, 3) := by decide +kernel
theorem dX3_cheapestB_17 : decode cX3_cheapestB 17 = .ok (.aload_n 0, 1) := by decide +kernel
theorem dX3_cheapestB_18 : decode cX3_cheapestB 18 = .ok (.getfield 12, 3) := by decide +kernel
theorem dX3_cheapestB_21 : decode cX3_cheapestB 21 = .ok (.getfield 25, 3) := by decide +kernel
theorem dX3_cheapestB_24 : decode cX3_cheapestB 24 = .ok (.iload_n 1, 1) := by decide +kernel
theorem dX3_cheapestB_25 : decode cX3_cheapestB 25 = .ok (.iload 5, 2) := by decide +kernel
theorem dX3_cheapestB_27 : decode cX3_cheapestB 27 = .ok (.iload_n 2, 1) := by decide +kernel
theorem dX3_cheapestB_28 : decode cX3_cheapestB 28 = .ok (.invokevirtual 77, 3) := by decide +kernel
theorem dX3_cheapestB_31 : decode cX3_cheapestB 31 = .ok (.ifCond .ne 34, 3) := by decide +kernel
theorem dX3_cheapestB_34 : decode cX3_cheapestB 34 = .ok (.aload_n 0, 1) := by decide +kernel
theorem dX3_cheapestB_35 : decode cX3_cheapestB 35 = .ok (.iload_n 1, 1) := by decide +kernel
theorem dX3_cheapestB_36 : decode cX3_cheapestB 36 = .ok (.iload 5, 2) := by decide +kernel
theorem dX3_cheapestB_38 : decode cX3_cheapestB 38 = .ok (.iload_n 2, 1) := by decide +kernel
theorem dX3_cheapestB_39 : decode cX3_cheapestB 39 = .ok (.invokevirtual 132, 3) := by decide +kernel
theorem dX3_cheapestB_42 : decode cX3_cheapestB 42 = .ok (.istore 6, 2) := by decide +kernel
theorem dX3_cheapestB_44 : decode cX3_cheapestB 44 = .ok (.iload_n 3, 1) := by decide +kernel
theorem dX3_cheapestB_45 : decode cX3_cheapestB 45 = .ok (.sipush (-10001), 3) := by decide +kernel
theorem dX3_cheapestB_48 : decode cX3_cheapestB 48 = .ok (.if_icmp .eq 10, 3) := by decide +kernel
theorem dX3_cheapestB_51 : decode cX3_cheapestB 51 = .ok (.iload 6, 2) := by decide +kernel
theorem dX3_cheapestB_53 : decode cX3_cheapestB 53 = .ok (.iload 4, 2) := by decide +kernel
theorem dX3_cheapestB_55 : decode cX3_cheapestB 55 = .ok (.if_icmp .ge 10, 3) := by decide +kernel
theorem dX3_cheapestB_58 : decode cX3_cheapestB 58 = .ok (.iload 5, 2) := by decide +kernel
theorem dX3_cheapestB_60 : decode cX3_cheapestB 60 = .ok (.istore_n 3, 1) := by decide +kernel
theorem dX3_cheapestB_61 : decode cX3_cheapestB 61 = .ok (.iload 6, 2) := by decide +kernel
theorem dX3_cheapestB_63 : decode cX3_cheapestB 63 = .ok (.istore 4, 2) := by decide +kernel
theorem dX3_cheapestB_65 : decode cX3_cheapestB 65 = .ok (.iinc 5 1, 3) := by decide +kernel
theorem dX3_cheapestB_68 : decode cX3_cheapestB 68 = .ok (.goto (-58), 3) := by decide +kernel
theorem dX3_cheapestB_71 : decode cX3_cheapestB 71 = .ok (.iload_n 3, 1) := by decide +kernel
theorem dX3_cheapestB_72 : decode cX3_cheapestB 72 = .ok (.ireturn, 1) := by decide +kernel
theorem dX3_costOf_0 : decode cX3_costOf 0 = .ok (.aload_n 0, 1) := by decide +kernel
theorem dX3_costOf_1 : decode cX3_costOf 1 = .ok (.getfield 12, 3) := by decide +kernel
theorem dX3_costOf_4 : decode cX3_costOf 4 = .ok (.getfield 45, 3) := by decide +kernel
theorem dX3_costOf_7 : decode cX3_costOf 7 = .ok (.iload_n 1, 1) := by decide +kernel
theorem dX3_costOf_8 : decode cX3_costOf 8 = .ok (.iload_n 2, 1) := by decide +kernel
theorem dX3_costOf_9 : decode cX3_costOf 9 = .ok (.invokevirtual 135, 3) := by decide +kernel
theorem dX3_costOf_12 : decode cX3_costOf 12 = .ok (.ifCond .eq 7, 3) := by decide +kernel
theorem dX3_costOf_15 : decode cX3_costOf 15 = .ok (.iconst 0, 1) := by decide +kernel
theorem dX3_costOf_16 : decode cX3_costOf 16 = .ok (.goto 4, 3) := by decide +kernel
theorem dX3_costOf_19 : decode cX3_costOf 19 = .ok (.iconst 1, 1) := by decide +kernel
theorem dX3_costOf_20 : decode cX3_costOf 20 = .ok (.aload_n 0, 1) := by decide +kernel
theorem dX3_costOf_21 : decode cX3_costOf 21 = .ok (.getfield 12, 3) := by decide +kernel
theorem dX3_costOf_24 : decode cX3_costOf 24 = .ok (.getfield 65, 3) := by decide +kernel
theorem dX3_costOf_27 : decode cX3_costOf 27 = .ok (.iload_n 2, 1) := by decide +kernel
theorem dX3_costOf_28 : decode cX3_costOf 28 = .ok (.iload_n 3, 1) := by decide +kernel
theorem dX3_costOf_29 : decode cX3_costOf 29 = .ok (.invokevirtual 135, 3) := by decide +kernel
theorem dX3_costOf_32 : decode cX3_costOf 32 = .ok (.ifCond .eq 7, 3) := by decide +kernel
theorem dX3_costOf_35 : decode cX3_costOf 35 = .ok (.iconst 0, 1) := by decide +kernel
theorem dX3_costOf_36 : decode cX3_costOf 36 = .ok (.goto 4, 3) := by decide +kernel
theorem dX3_costOf_39 : decode cX3_costOf 39 = .ok (.iconst 1, 1) := by decide +kernel
theorem dX3_costOf_40 : decode cX3_costOf 40 = .ok (.iadd, 1) := by decide +kernel
theorem dX3_costOf_41 : decode cX3_costOf 41 = .ok (.ireturn, 1) := by decide +kernel
theorem dX3_lowestCost_0 : decode cX3_lowestCost 0 = .ok (.aload_n 0, 1) := by decide +kernel
theorem dX3_lowestCost_1 : decode cX3_lowestCost 1 = .ok (.iload_n 1, 1) := by decide +kernel
theorem dX3_lowestCost_2 : decode cX3_lowestCost 2 = .ok (.iload_n 2, 1) := by decide +kernel
theorem dX3_lowestCost_3 : decode cX3_lowestCost 3 = .ok (.invokevirtual 138, 3) := by decide +kernel
theorem dX3_lowestCost_6 : decode cX3_lowestCost 6 = .ok (.istore_n 3, 1) := by decide +kernel
theorem dX3_lowestCost_7 : decode cX3_lowestCost 7 = .ok (.iload_n 3, 1) := by decide +kernel
theorem dX3_lowestCost_8 : decode cX3_lowestCost 8 = .ok (.sipush (-10001), 3) := by decide +kernel
theorem dX3_lowestCost_11 : decode cX3_lowestCost 11 = .ok (.if_icmp .ne 9, 3) := by decide +kernel
theorem dX3_lowestCost_14 : decode cX3_lowestCost 14 = .ok (.sipush (-10001), 3) := by decide +kernel
theorem dX3_lowestCost_17 : decode cX3_lowestCost 17 = .ok (.goto 10, 3) := by decide +kernel
theorem dX3_lowestCost_20 : decode cX3_lowestCost 20 = .ok (.aload_n 0, 1) := by decide +kernel
theorem dX3_lowestCost_21 : decode cX3_lowestCost 21 = .ok (.iload_n 1, 1) := by decide +kernel
theorem dX3_lowestCost_22 : decode cX3_lowestCost 22 = .ok (.iload_n 3, 1) := by decide +kernel
theorem dX3_lowestCost_23 : decode cX3_lowestCost 23 = .ok (.iload_n 2, 1) := by decide +kernel
theorem dX3_lowestCost_24 : decode cX3_lowestCost 24 = .ok (.invokevirtual 132, 3) := by decide +kernel
theorem dX3_lowestCost_27 : decode cX3_lowestCost 27 = .ok (.ireturn, 1) := by decide +kernel
theorem dX3_bToInsert_0 : decode cX3_bToInsert 0 = .ok (.aload_n 0, 1) := by decide +kernel
theorem dX3_bToInsert_1 : decode cX3_bToInsert 1 = .ok (.iload_n 1, 1) := by decide +kernel
theorem dX3_bToInsert_2 : decode cX3_bToInsert 2 = .ok (.iload_n 2, 1) := by decide +kernel
theorem dX3_bToInsert_3 : decode cX3_bToInsert 3 = .ok (.invokevirtual 138, 3) := by decide +kernel
theorem dX3_bToInsert_6 : decode cX3_bToInsert 6 = .ok (.istore_n 3, 1) := by decide +kernel
theorem dX3_bToInsert_7 : decode cX3_bToInsert 7 = .ok (.iload_n 3, 1) := by decide +kernel
theorem dX3_bToInsert_8 : decode cX3_bToInsert 8 = .ok (.sipush (-10001), 3) := by decide +kernel
theorem dX3_bToInsert_11 : decode cX3_bToInsert 11 = .ok (.if_icmp .eq 13, 3) := by decide +kernel
theorem dX3_bToInsert_14 : decode cX3_bToInsert 14 = .ok (.aload_n 0, 1) := by decide +kernel
theorem dX3_bToInsert_15 : decode cX3_bToInsert 15 = .ok (.iload_n 1, 1) := by decide +kernel
theorem dX3_bToInsert_16 : decode cX3_bToInsert 16 = .ok (.iload_n 3, 1) := by decide +kernel
theorem dX3_bToInsert_17 : decode cX3_bToInsert 17 = .ok (.iload_n 2, 1) := by decide +kernel
theorem dX3_bToInsert_18 : decode cX3_bToInsert 18 = .ok (.invokevirtual 132, 3) := by decide +kernel
theorem dX3_bToInsert_21 : decode cX3_bToInsert 21 = .ok (.ifCond .ne 9, 3) := by decide +kernel
theorem dX3_bToInsert_24 : decode cX3_bToInsert 24 = .ok (.sipush (-10001), 3) := by decide +kernel
theorem dX3_bToInsert_27 : decode cX3_bToInsert 27 = .ok (.goto 4, 3) := by decide +kernel
theorem dX3_bToInsert_30 : decode cX3_bToInsert 30 = .ok (.iload_n 3, 1) := by decide +kernel
theorem dX3_bToInsert_31 : decode cX3_bToInsert 31 = .ok (.ireturn, 1) := by decide +kernel
theorem dX3_countSatisfiedWishes_0 : decode cX3_countSatisfiedWishes 0 = .ok (.iconst 0, 1) := by decide +kernel
theorem dX3_countSatisfiedWishes_1 : decode cX3_countSatisfiedWishes 1 = .ok (.istore_n 1, 1) := by decide +kernel
theorem dX3_countSatisfiedWishes_2 : decode cX3_countSatisfiedWishes 2 = .ok (.iconst 0, 1) := by decide +kernel
theorem dX3_countSatisfiedWishes_3 : decode cX3_countSatisfiedWishes 3 = .ok (.istore_n 2, 1) := by decide +kernel
theorem dX3_countSatisfiedWishes_4 : decode cX3_countSatisfiedWishes 4 = .ok (.iload_n 2, 1) := by decide +kernel
theorem dX3_countSatisfiedWishes_5 : decode cX3_countSatisfiedWishes 5 = .ok (.aload_n 0, 1) := by decide +kernel
theorem dX3_countSatisfiedWishes_6 : decode cX3_countSatisfiedWishes 6 = .ok (.getfield 12, 3) := by decide +kernel
theorem dX3_countSatisfiedWishes_9 : decode cX3_countSatisfiedWishes 9 = .ok (.getfield 141, 3) := by decide +kernel
theorem dX3_countSatisfiedWishes_12 : decode cX3_countSatisfiedWishes 12 = .ok (.getfield 49, 3) := by decide +kernel
theorem dX3_countSatisfiedWishes_15 : decode cX3_countSatisfiedWishes 15 = .ok (.if_icmp .ge 41, 3) := by decide +kernel
theorem dX3_countSatisfiedWishes_18 : decode cX3_countSatisfiedWishes 18 = .ok (.aload_n 0, 1) := by decide +kernel
theorem dX3_countSatisfiedWishes_19 : decode cX3_countSatisfiedWishes 19 = .ok (.aload_n 0, 1) := by decide +kernel
theorem dX3_countSatisfiedWishes_20 : decode cX3_countSatisfiedWishes 20 = .ok (.getfield 12, 3) := by decide +kernel
theorem dX3_countSatisfiedWishes_23 : decode cX3_countSatisfiedWishes 23 = .ok (.getfield 141, 3) := by decide +kernel
theorem dX3_countSatisfiedWishes_26 : decode cX3_countSatisfiedWishes 26 = .ok (.iload_n 2, 1) := by decide +kernel
theorem dX3_countSatisfiedWishes_27 : decode cX3_countSatisfiedWishes 27 = .ok (.invokevirtual 55, 3) := by decide +kernel
theorem dX3_countSatisfiedWishes_30 : decode cX3_countSatisfiedWishes 30 = .ok (.aload_n 0, 1) := by decide +kernel
theorem dX3_countSatisfiedWishes_31 : decode cX3_countSatisfiedWishes 31 = .ok (.getfield 12, 3) := by decide +kernel
theorem dX3_countSatisfiedWishes_34 : decode cX3_countSatisfiedWishes 34 = .ok (.getfield 141, 3) := by decide +kernel
theorem dX3_countSatisfiedWishes_37 : decode cX3_countSatisfiedWishes 37 = .ok (.iload_n 2, 1) := by decide +kernel
theorem dX3_countSatisfiedWishes_38 : decode cX3_countSatisfiedWishes 38 = .ok (.invokevirtual 58, 3) := by decide +kernel
theorem dX3_countSatisfiedWishes_41 : decode cX3_countSatisfiedWishes 41 = .ok (.invokevirtual 144, 3) := by decide +kernel
theorem dX3_countSatisfiedWishes_44 : decode cX3_countSatisfiedWishes 44 = .ok (.ifCond .le 6, 3) := by decide +kernel
theorem dX3_countSatisfiedWishes_47 : decode cX3_countSatisfiedWishes 47 = .ok (.iinc 1 1, 3) := by decide +kernel
theorem dX3_countSatisfiedWishes_50 : decode cX3_countSatisfiedWishes 50 = .ok (.iinc 2 1, 3) := by decide +kernel
theorem dX3_countSatisfiedWishes_53 : decode cX3_countSatisfiedWishes 53 = .ok (.goto (-49), 3) := by decide +kernel
theorem dX3_countSatisfiedWishes_56 : decode cX3_countSatisfiedWishes 56 = .ok (.iload_n 1, 1) := by decide +kernel
theorem dX3_countSatisfiedWishes_57 : decode cX3_countSatisfiedWishes 57 = .ok (.ireturn, 1) := by decide +kernel
theorem dX3_smallestRemovalForWishes_0 : decode cX3_smallestRemovalForWishes 0 = .ok (.aload_n 0, 1) := by decide +kernel
theorem dX3_smallestRemovalForWishes_1 : decode cX3_smallestRemovalForWishes 1 = .ok (.invokevirtual 147, 3) := by decide +kernel
theorem dX3_smallestRemovalForWishes_4 : decode cX3_smallestRemovalForWishes 4 = .ok (.sipush (-10001), 3) := by decide +kernel
theorem dX3_smallestRemovalForWishes_7 : decode cX3_smallestRemovalForWishes 7 = .ok (.istore_n 1, 1) := by decide +kernel
theorem dX3_smallestRemovalForWishes_8 : decode cX3_smallestRemovalForWishes 8 = .ok (.iconst 1, 1) := by decide +kernel
theorem dX3_smallestRemovalForWishes_9 : decode cX3_smallestRemovalForWishes 9 = .ok (.aload_n 0, 1) := by decide +kernel
theorem dX3_smallestRemovalForWishes_10 : decode cX3_smallestRemovalForWishes 10 = .ok (.getfield 12, 3) := by decide +kernel
theorem dX3_smallestRemovalForWishes_13 : decode cX3_smallestRemovalForWishes 13 = .ok (.getfield 25, 3) := by decide +kernel
theorem dX3_smallestRemovalForWishes_16 : decode cX3_smallestRemovalForWishes 16 = .ok (.getfield 104, 3) := by decide +kernel
theorem dX3_smallestRemovalForWishes_19 : decode cX3_smallestRemovalForWishes 19 = .ok (.bipush 6, 2) := by decide +kernel
theorem dX3_smallestRemovalForWishes_21 : decode cX3_smallestRemovalForWishes 21 = .ok (.invokestatic 150, 3) := by decide +kernel
theorem dX3_smallestRemovalForWishes_24 : decode cX3_smallestRemovalForWishes 24 = .ok (.ishl, 1) := by decide +kernel
theorem dX3_smallestRemovalForWishes_25 : decode cX3_smallestRemovalForWishes 25 = .ok (.istore_n 2, 1) := by decide +kernel
theorem dX3_smallestRemovalForWishes_26 : decode cX3_smallestRemovalForWishes 26 = .ok (.iconst 0, 1) := by decide +kernel
theorem dX3_smallestRemovalForWishes_27 : decode cX3_smallestRemovalForWishes 27 = .ok (.istore_n 3, 1) := by decide +kernel
theorem dX3_smallestRemovalForWishes_28 : decode cX3_smallestRemovalForWishes 28 = .ok (.iload_n 3, 1) := by decide +kernel
theorem dX3_smallestRemovalForWishes_29 : decode cX3_smallestRemovalForWishes 29 = .ok (.iload_n 2, 1) := by decide +kernel
theorem dX3_smallestRemovalForWishes_30 : decode cX3_smallestRemovalForWishes 30 = .ok (.if_icmp .ge 34, 3) := by decide +kernel
theorem dX3_smallestRemovalForWishes_33 : decode cX3_smallestRemovalForWishes 33 = .ok (.iload_n 1, 1) := by decide +kernel
theorem dX3_smallestRemovalForWishes_34 : decode cX3_smallestRemovalForWishes 34 = .ok (.sipush (-10001), 3) := by decide +kernel
theorem dX3_smallestRemovalForWishes_37 : decode cX3_smallestRemovalForWishes 37 = .ok (.if_icmp .eq 11, 3) := by decide +kernel
theorem dX3_smallestRemovalForWishes_40 : decode cX3_smallestRemovalForWishes 40 = .ok (.iload_n 3, 1) := by decide +kernel
theorem dX3_smallestRemovalForWishes_41 : decode cX3_smallestRemovalForWishes 41 = .ok (.iload_n 1, 1) := by decide +kernel
theorem dX3_smallestRemovalForWishes_42 : decode cX3_smallestRemovalForWishes 42 = .ok (.invokestatic 108, 3) := by decide +kernel
theorem dX3_smallestRemovalForWishes_45 : decode cX3_smallestRemovalForWishes 45 = .ok (.ifCond .eq 13, 3) := by decide +kernel
theorem dX3_smallestRemovalForWishes_48 : decode cX3_smallestRemovalForWishes 48 = .ok (.aload_n 0, 1) := by decide +kernel
theorem dX3_smallestRemovalForWishes_49 : decode cX3_smallestRemovalForWishes 49 = .ok (.iload_n 3, 1) := by decide +kernel
theorem dX3_smallestRemovalForWishes_50 : decode cX3_smallestRemovalForWishes 50 = .ok (.invokevirtual 155, 3) := by decide +kernel
theorem dX3_smallestRemovalForWishes_53 : decode cX3_smallestRemovalForWishes 53 = .ok (.ifCond .eq 5, 3) := by decide +kernel
theorem dX3_smallestRemovalForWishes_56 : decode cX3_smallestRemovalForWishes 56 = .ok (.iload_n 3, 1) := by decide +kernel
theorem dX3_smallestRemovalForWishes_57 : decode cX3_smallestRemovalForWishes 57 = .ok (.istore_n 1, 1) := by decide +kernel
theorem dX3_smallestRemovalForWishes_58 : decode cX3_smallestRemovalForWishes 58 = .ok (.iinc 3 1, 3) := by decide +kernel
theorem dX3_smallestRemovalForWishes_61 : decode cX3_smallestRemovalForWishes 61 = .ok (.goto (-33), 3) := by decide +kernel
theorem dX3_smallestRemovalForWishes_64 : decode cX3_smallestRemovalForWishes 64 = .ok (.iload_n 1, 1) := by decide +kernel
theorem dX3_smallestRemovalForWishes_65 : decode cX3_smallestRemovalForWishes 65 = .ok (.ireturn, 1) := by decide +kernel
theorem dX3_listWishRejecters_0 : decode cX3_listWishRejecters 0 = .ok (.iconst 0, 1) := by decide +kernel
theorem dX3_listWishRejecters_1 : decode cX3_listWishRejecters 1 = .ok (.istore_n 1, 1) := by decide +kernel
theorem dX3_listWishRejecters_2 : decode cX3_listWishRejecters 2 = .ok (.iload_n 1, 1) := by decide +kernel
theorem dX3_listWishRejecters_3 : decode cX3_listWishRejecters 3 = .ok (.aload_n 0, 1) := by decide +kernel
theorem dX3_listWishRejecters_4 : decode cX3_listWishRejecters 4 = .ok (.getfield 12, 3) := by decide +kernel
theorem dX3_listWishRejecters_7 : decode cX3_listWishRejecters 7 = .ok (.getfield 141, 3) := by decide +kernel
theorem dX3_listWishRejecters_10 : decode cX3_listWishRejecters 10 = .ok (.getfield 49, 3) := by decide +kernel
theorem dX3_listWishRejecters_13 : decode cX3_listWishRejecters 13 = .ok (.if_icmp .ge 104, 3) := by decide +kernel
theorem dX3_listWishRejecters_16 : decode cX3_listWishRejecters 16 = .ok (.iload_n 1, 1) := by decide +kernel
theorem dX3_listWishRejecters_17 : decode cX3_listWishRejecters 17 = .ok (.iconst 4, 1) := by decide +kernel
theorem dX3_listWishRejecters_18 : decode cX3_listWishRejecters 18 = .ok (.if_icmp .ge 99, 3) := by decide +kernel
theorem dX3_listWishRejecters_21 : decode cX3_listWishRejecters 21 = .ok (.aload_n 0, 1) := by decide +kernel
theorem dX3_listWishRejecters_22 : decode cX3_listWishRejecters 22 = .ok (.getfield 12, 3) := by decide +kernel
theorem dX3_listWishRejecters_25 : decode cX3_listWishRejecters 25 = .ok (.getfield 141, 3) := by decide +kernel
theorem dX3_listWishRejecters_28 : decode cX3_listWishRejecters 28 = .ok (.iload_n 1, 1) := by decide +kernel
theorem dX3_listWishRejecters_29 : decode cX3_listWishRejecters 29 = .ok (.invokevirtual 55, 3) := by decide +kernel
theorem dX3_listWishRejecters_32 : decode cX3_listWishRejecters 32 = .ok (.istore_n 2, 1) := by decide +kernel
theorem dX3_listWishRejecters_33 : decode cX3_listWishRejecters 33 = .ok (.aload_n 0, 1) := by decide +kernel
theorem dX3_listWishRejecters_34 : decode cX3_listWishRejecters 34 = .ok (.getfield 12, 3) := by decide +kernel
theorem dX3_listWishRejecters_37 : decode cX3_listWishRejecters 37 = .ok (.getfield 141, 3) := by decide +kernel
theorem dX3_listWishRejecters_40 : decode cX3_listWishRejecters 40 = .ok (.iload_n 1, 1) := by decide +kernel
theorem dX3_listWishRejecters_41 : decode cX3_listWishRejecters 41 = .ok (.invokevirtual 58, 3) := by decide +kernel
theorem dX3_listWishRejecters_44 : decode cX3_listWishRejecters 44 = .ok (.istore_n 3, 1) := by decide +kernel
theorem dX3_listWishRejecters_45 : decode cX3_listWishRejecters 45 = .ok (.aload_n 0, 1) := by decide +kernel
theorem dX3_listWishRejecters_46 : decode cX3_listWishRejecters 46 = .ok (.iload_n 2, 1) := by decide +kernel
theorem dX3_listWishRejecters_47 : decode cX3_listWishRejecters 47 = .ok (.iload_n 3, 1) := by decide +kernel
theorem dX3_listWishRejecters_48 : decode cX3_listWishRejecters 48 = .ok (.invokevirtual 90, 3) := by decide +kernel
theorem dX3_listWishRejecters_51 : decode cX3_listWishRejecters 51 = .ok (.istore 4, 2) := by decide +kernel
theorem dX3_listWishRejecters_53 : decode cX3_listWishRejecters 53 = .ok (.iconst 0, 1) := by decide +kernel
theorem dX3_listWishRejecters_54 : decode cX3_listWishRejecters 54 = .ok (.istore 5, 2) := by decide +kernel
theorem dX3_listWishRejecters_56 : decode cX3_listWishRejecters 56 = .ok (.iload 5, 2) := by decide +kernel
theorem dX3_listWishRejecters_58 : decode cX3_listWishRejecters 58 = .ok (.bipush 10, 2) := by decide +kernel
theorem dX3_listWishRejecters_60 : decode cX3_listWishRejecters 60 = .ok (.if_icmp .ge 51, 3) := by decide +kernel
theorem dX3_listWishRejecters_63 : decode cX3_listWishRejecters 63 = .ok (.aload_n 0, 1) := by decide +kernel
theorem dX3_listWishRejecters_64 : decode cX3_listWishRejecters 64 = .ok (.getfield 22, 3) := by decide +kernel
theorem dX3_listWishRejecters_67 : decode cX3_listWishRejecters 67 = .ok (.bipush 10, 2) := by decide +kernel
theorem dX3_listWishRejecters_69 : decode cX3_listWishRejecters 69 = .ok (.iload_n 1, 1) := by decide +kernel
theorem dX3_listWishRejecters_70 : decode cX3_listWishRejecters 70 = .ok (.imul, 1) := by decide +kernel
theorem dX3_listWishRejecters_71 : decode cX3_listWishRejecters 71 = .ok (.iload 5, 2) := by decide +kernel
theorem dX3_listWishRejecters_73 : decode cX3_listWishRejecters 73 = .ok (.iadd, 1) := by decide +kernel
theorem dX3_listWishRejecters_74 : decode cX3_listWishRejecters 74 = .ok (.iload 4, 2) := by decide +kernel
theorem dX3_listWishRejecters_76 : decode cX3_listWishRejecters 76 = .ok (.iload 5, 2) := by decide +kernel
theorem dX3_listWishRejecters_78 : decode cX3_listWishRejecters 78 = .ok (.invokestatic 94, 3) := by decide +kernel
theorem dX3_listWishRejecters_81 : decode cX3_listWishRejecters 81 = .ok (.ifCond .eq 20, 3) := by decide +kernel
theorem dX3_listWishRejecters_84 : decode cX3_listWishRejecters 84 = .ok (.aload_n 0, 1) := by decide +kernel
theorem dX3_listWishRejecters_85 : decode cX3_listWishRejecters 85 = .ok (.getfield 12, 3) := by decide +kernel
theorem dX3_listWishRejecters_88 : decode cX3_listWishRejecters 88 = .ok (.getfield 25, 3) := by decide +kernel
theorem dX3_listWishRejecters_91 : decode cX3_listWishRejecters 91 = .ok (.iload_n 2, 1) := by decide +kernel
theorem dX3_listWishRejecters_92 : decode cX3_listWishRejecters 92 = .ok (.iload 5, 2) := by decide +kernel
theorem dX3_listWishRejecters_94 : decode cX3_listWishRejecters 94 = .ok (.iload_n 3, 1) := by decide +kernel
theorem dX3_listWishRejecters_95 : decode cX3_listWishRejecters 95 = .ok (.invokevirtual 77, 3) := by decide +kernel
theorem dX3_listWishRejecters_98 : decode cX3_listWishRejecters 98 = .ok (.goto 6, 3) := by decide +kernel
theorem dX3_listWishRejecters_101 : decode cX3_listWishRejecters 101 = .ok (.sipush (-10001), 3) := by decide +kernel
theorem dX3_listWishRejecters_104 : decode cX3_listWishRejecters 104 = .ok (.iastore, 1) := by decide +kernel
theorem dX3_listWishRejecters_105 : decode cX3_listWishRejecters 105 = .ok (.iinc 5 1, 3) := by decide +kernel
theorem dX3_listWishRejecters_108 : decode cX3_listWishRejecters 108 = .ok (.goto (-52), 3) := by decide +kernel
theorem dX3_listWishRejecters_111 : decode cX3_listWishRejecters 111 = .ok (.iinc 1 1, 3) := by decide +kernel
theorem dX3_listWishRejecters_114 : decode cX3_listWishRejecters 114 = .ok (.goto (-112), 3) := by decide +kernel
theorem dX3_listWishRejecters_117 : decode cX3_listWishRejecters 117 = .ok (.return_, 1) := by decide +kernel
theorem dX3_grantsWishes_0 : decode cX3_grantsWishes 0 = .ok (.iconst 0, 1) := by decide +kernel
theorem dX3_grantsWishes_1 : decode cX3_grantsWishes 1 = .ok (.istore_n 2, 1) := by decide +kernel
theorem dX3_grantsWishes_2 : decode cX3_grantsWishes 2 = .ok (.iload_n 2, 1) := by decide +kernel
theorem dX3_grantsWishes_3 : decode cX3_grantsWishes 3 = .ok (.aload_n 0, 1) := by decide +kernel
theorem dX3_grantsWishes_4 : decode cX3_grantsWishes 4 = .ok (.getfield 12, 3) := by decide +kernel
theorem dX3_grantsWishes_7 : decode cX3_grantsWishes 7 = .ok (.getfield 141, 3) := by decide +kernel
theorem dX3_grantsWishes_10 : decode cX3_grantsWishes 10 = .ok (.getfield 49, 3) := by decide +kernel
theorem dX3_grantsWishes_13 : decode cX3_grantsWishes 13 = .ok (.if_icmp .ge 25, 3) := by decide +kernel
theorem dX3_grantsWishes_16 : decode cX3_grantsWishes 16 = .ok (.iload_n 2, 1) := by decide +kernel
theorem dX3_grantsWishes_17 : decode cX3_grantsWishes 17 = .ok (.iconst 4, 1) := by decide +kernel
theorem dX3_grantsWishes_18 : decode cX3_grantsWishes 18 = .ok (.if_icmp .ge 20, 3) := by decide +kernel
theorem dX3_grantsWishes_21 : decode cX3_grantsWishes 21 = .ok (.aload_n 0, 1) := by decide +kernel
theorem dX3_grantsWishes_22 : decode cX3_grantsWishes 22 = .ok (.iload_n 2, 1) := by decide +kernel
theorem dX3_grantsWishes_23 : decode cX3_grantsWishes 23 = .ok (.iload_n 1, 1) := by decide +kernel
theorem dX3_grantsWishes_24 : decode cX3_grantsWishes 24 = .ok (.invokevirtual 159, 3) := by decide +kernel
theorem dX3_grantsWishes_27 : decode cX3_grantsWishes 27 = .ok (.ifCond .ne 5, 3) := by decide +kernel
theorem dX3_grantsWishes_30 : decode cX3_grantsWishes 30 = .ok (.iconst 0, 1) := by decide +kernel
theorem dX3_grantsWishes_31 : decode cX3_grantsWishes 31 = .ok (.ireturn, 1) := by decide +kernel
theorem dX3_grantsWishes_32 : decode cX3_grantsWishes 32 = .ok (.iinc 2 1, 3) := by decide +kernel
theorem dX3_grantsWishes_35 : decode cX3_grantsWishes 35 = .ok (.goto (-33), 3) := by decide +kernel
theorem dX3_grantsWishes_38 : decode cX3_grantsWishes 38 = .ok (.iconst 1, 1) := by decide +kernel
theorem dX3_grantsWishes_39 : decode cX3_grantsWishes 39 = .ok (.ireturn, 1) := by decide +kernel
theorem dX3_grantsWish_0 : decode cX3_grantsWish 0 = .ok (.iconst 0, 1) := by decide +kernel
theorem dX3_grantsWish_1 : decode cX3_grantsWish 1 = .ok (.istore_n 3, 1) := by decide +kernel
theorem dX3_grantsWish_2 : decode cX3_grantsWish 2 = .ok (.iload_n 3, 1) := by decide +kernel
theorem dX3_grantsWish_3 : decode cX3_grantsWish 3 = .ok (.bipush 10, 2) := by decide +kernel
theorem dX3_grantsWish_5 : decode cX3_grantsWish 5 = .ok (.if_icmp .ge 41, 3) := by decide +kernel
theorem dX3_grantsWish_8 : decode cX3_grantsWish 8 = .ok (.aload_n 0, 1) := by decide +kernel
theorem dX3_grantsWish_9 : decode cX3_grantsWish 9 = .ok (.getfield 22, 3) := by decide +kernel
theorem dX3_grantsWish_12 : decode cX3_grantsWish 12 = .ok (.bipush 10, 2) := by decide +kernel
theorem dX3_grantsWish_14 : decode cX3_grantsWish 14 = .ok (.iload_n 1, 1) := by decide +kernel
theorem dX3_grantsWish_15 : decode cX3_grantsWish 15 = .ok (.imul, 1) := by decide +kernel
theorem dX3_grantsWish_16 : decode cX3_grantsWish 16 = .ok (.iload_n 3, 1) := by decide +kernel
theorem dX3_grantsWish_17 : decode cX3_grantsWish 17 = .ok (.iadd, 1) := by decide +kernel
theorem dX3_grantsWish_18 : decode cX3_grantsWish 18 = .ok (.iaload, 1) := by decide +kernel
theorem dX3_grantsWish_19 : decode cX3_grantsWish 19 = .ok (.istore 4, 2) := by decide +kernel
theorem dX3_grantsWish_21 : decode cX3_grantsWish 21 = .ok (.iload 4, 2) := by decide +kernel
theorem dX3_grantsWish_23 : decode cX3_grantsWish 23 = .ok (.sipush (-10001), 3) := by decide +kernel
theorem dX3_grantsWish_26 : decode cX3_grantsWish 26 = .ok (.if_icmp .eq 14, 3) := by decide +kernel
theorem dX3_grantsWish_29 : decode cX3_grantsWish 29 = .ok (.iload 4, 2) := by decide +kernel
theorem dX3_grantsWish_31 : decode cX3_grantsWish 31 = .ok (.iload_n 2, 1) := by decide +kernel
theorem dX3_grantsWish_32 : decode cX3_grantsWish 32 = .ok (.iconst (-1), 1) := by decide +kernel
theorem dX3_grantsWish_33 : decode cX3_grantsWish 33 = .ok (.ixor, 1) := by decide +kernel
theorem dX3_grantsWish_34 : decode cX3_grantsWish 34 = .ok (.iand, 1) := by decide +kernel
theorem dX3_grantsWish_35 : decode cX3_grantsWish 35 = .ok (.ifCond .ne 5, 3) := by decide +kernel
theorem dX3_grantsWish_38 : decode cX3_grantsWish 38 = .ok (.iconst 1, 1) := by decide +kernel
theorem dX3_grantsWish_39 : decode cX3_grantsWish 39 = .ok (.ireturn, 1) := by decide +kernel
theorem dX3_grantsWish_40 : decode cX3_grantsWish 40 = .ok (.iinc 3 1, 3) := by decide +kernel
theorem dX3_grantsWish_43 : decode cX3_grantsWish 43 = .ok (.goto (-41), 3) := by decide +kernel
theorem dX3_grantsWish_46 : decode cX3_grantsWish 46 = .ok (.iconst 0, 1) := by decide +kernel
theorem dX3_grantsWish_47 : decode cX3_grantsWish 47 = .ok (.ireturn, 1) := by decide +kernel
theorem dX4_init_0 : decode cX4_init 0 = .ok (.aload_n 0, 1) := by decide +kernel
theorem dX4_init_1 : decode cX4_init 1 = .ok (.invokespecial 3, 3) := by decide +kernel
theorem dX4_init_4 : decode cX4_init 4 = .ok (.aload_n 0, 1) := by decide +kernel
theorem dX4_init_5 : decode cX4_init 5 = .ok (.new 9, 3) := by decide +kernel
theorem dX4_init_8 : decode cX4_init 8 = .ok (.dup, 1) := by decide +kernel
theorem dX4_init_9 : decode cX4_init 9 = .ok (.invokespecial 11, 3) := by decide +kernel
theorem dX4_init_12 : decode cX4_init 12 = .ok (.putfield 12, 3) := by decide +kernel
theorem dX4_init_15 : decode cX4_init 15 = .ok (.aload_n 0, 1) := by decide +kernel
theorem dX4_init_16 : decode cX4_init 16 = .ok (.bipush 60, 2) := by decide +kernel
theorem dX4_init_18 : decode cX4_init 18 = .ok (.newarray .int, 2) := by decide +kernel
theorem dX4_init_20 : decode cX4_init 20 = .ok (.putfield 18, 3) := by decide +kernel
theorem dX4_init_23 : decode cX4_init 23 = .ok (.aload_n 0, 1) := by decide +kernel
theorem dX4_init_24 : decode cX4_init 24 = .ok (.sipush 240, 3) := by decide +kernel
theorem dX4_init_27 : decode cX4_init 27 = .ok (.newarray .int, 2) := by decide +kernel
theorem dX4_init_29 : decode cX4_init 29 = .ok (.putfield 22, 3) := by decide +kernel
theorem dX4_init_32 : decode cX4_init 32 = .ok (.return_, 1) := by decide +kernel
theorem dX4_letter_0 : decode cX4_letter 0 = .ok (.iload_n 1, 1) := by decide +kernel
theorem dX4_letter_1 : decode cX4_letter 1 = .ok (.ifCond .lt 20, 3) := by decide +kernel
theorem dX4_letter_4 : decode cX4_letter 4 = .ok (.iload_n 1, 1) := by decide +kernel
theorem dX4_letter_5 : decode cX4_letter 5 = .ok (.aload_n 0, 1) := by decide +kernel
theorem dX4_letter_6 : decode cX4_letter 6 = .ok (.getfield 25, 3) := by decide +kernel
theorem dX4_letter_9 : decode cX4_letter 9 = .ok (.if_icmp .ge 12, 3) := by decide +kernel
theorem dX4_letter_12 : decode cX4_letter 12 = .ok (.aload_n 0, 1) := by decide +kernel
theorem dX4_letter_13 : decode cX4_letter 13 = .ok (.getfield 18, 3) := by decide +kernel
theorem dX4_letter_16 : decode cX4_letter 16 = .ok (.iload_n 1, 1) := by decide +kernel
theorem dX4_letter_17 : decode cX4_letter 17 = .ok (.iaload, 1) := by decide +kernel
theorem dX4_letter_18 : decode cX4_letter 18 = .ok (.goto 4, 3) := by decide +kernel
theorem dX4_letter_21 : decode cX4_letter 21 = .ok (.iconst (-1), 1) := by decide +kernel
theorem dX4_letter_22 : decode cX4_letter 22 = .ok (.ireturn, 1) := by decide +kernel
theorem dX4_number_0 : decode cX4_number 0 = .ok (.iload_n 1, 1) := by decide +kernel
theorem dX4_number_1 : decode cX4_number 1 = .ok (.ifCond .lt 20, 3) := by decide +kernel
theorem dX4_number_4 : decode cX4_number 4 = .ok (.iload_n 1, 1) := by decide +kernel
theorem dX4_number_5 : decode cX4_number 5 = .ok (.aload_n 0, 1) := by decide +kernel
theorem dX4_number_6 : decode cX4_number 6 = .ok (.getfield 25, 3) := by decide +kernel
theorem dX4_number_9 : decode cX4_number 9 = .ok (.if_icmp .ge 12, 3) := by decide +kernel
theorem dX4_number_12 : decode cX4_number 12 = .ok (.iload_n 2, 1) := by decide +kernel
theorem dX4_number_13 : decode cX4_number 13 = .ok (.ifCond .lt 8, 3) := by decide +kernel
theorem dX4_number_16 : decode cX4_number 16 = .ok (.iload_n 2, 1) := by decide +kernel
theorem dX4_number_17 : decode cX4_number 17 = .ok (.iconst 4, 1) := by decide +kernel
theorem dX4_number_18 : decode cX4_number 18 = .ok (.if_icmp .lt 5, 3) := by decide +kernel
theorem dX4_number_21 : decode cX4_number 21 = .ok (.iconst 0, 1) := by decide +kernel
theorem dX4_number_22 : decode cX4_number 22 = .ok (.ireturn, 1) := by decide +kernel
theorem dX4_number_23 : decode cX4_number 23 = .ok (.aload_n 0, 1) := by decide +kernel
theorem dX4_number_24 : decode cX4_number 24 = .ok (.getfield 22, 3) := by decide +kernel
theorem dX4_number_27 : decode cX4_number 27 = .ok (.iconst 4, 1) := by decide +kernel
theorem dX4_number_28 : decode cX4_number 28 = .ok (.iload_n 1, 1) := by decide +kernel
theorem dX4_number_29 : decode cX4_number 29 = .ok (.imul, 1) := by decide +kernel
theorem dX4_number_30 : decode cX4_number 30 = .ok (.iload_n 2, 1) := by decide +kernel
theorem dX4_number_31 : decode cX4_number 31 = .ok (.iadd, 1) := by decide +kernel
theorem dX4_number_32 : decode cX4_number 32 = .ok (.iaload, 1) := by decide +kernel
theorem dX4_number_33 : decode cX4_number 33 = .ok (.ireturn, 1) := by decide +kernel
theorem dX4_parse_0 : decode cX4_parse 0 = .ok (.aload_n 0, 1) := by decide +kernel
theorem dX4_parse_1 : decode cX4_parse 1 = .ok (.iconst 0, 1) := by decide +kernel
theorem dX4_parse_2 : decode cX4_parse 2 = .ok (.putfield 25, 3) := by decide +kernel
theorem dX4_parse_5 : decode cX4_parse 5 = .ok (.aload_n 0, 1) := by decide +kernel
theorem dX4_parse_6 : decode cX4_parse 6 = .ok (.iconst 0, 1) := by decide +kernel
theorem dX4_parse_7 : decode cX4_parse 7 = .ok (.putfield 29, 3) := by decide +kernel
theorem dX4_parse_10 : decode cX4_parse 10 = .ok (.aload_n 0, 1) := by decide +kernel
theorem dX4_parse_11 : decode cX4_parse 11 = .ok (.invokevirtual 32, 3) := by decide +kernel
theorem dX4_parse_14 : decode cX4_parse 14 = .ok (.iconst 0, 1) := by decide +kernel
theorem dX4_parse_15 : decode cX4_parse 15 = .ok (.istore_n 1, 1) := by decide +kernel
theorem dX4_parse_16 : decode cX4_parse 16 = .ok (.iload_n 1, 1) := by decide +kernel
theorem dX4_parse_17 : decode cX4_parse 17 = .ok (.bipush 60, 2) := by decide +kernel
theorem dX4_parse_19 : decode cX4_parse 19 = .ok (.if_icmp .ge 38, 3) := by decide +kernel
theorem dX4_parse_22 : decode cX4_parse 22 = .ok (.aload_n 0, 1) := by decide +kernel
theorem dX4_parse_23 : decode cX4_parse 23 = .ok (.invokevirtual 35, 3) := by decide +kernel
theorem dX4_parse_26 : decode cX4_parse 26 = .ok (.ifCond .ne 5, 3) := by decide +kernel
theorem dX4_parse_29 : decode cX4_parse 29 = .ok (.iconst 0, 1) := by decide +kernel
theorem dX4_parse_30 : decode cX4_parse 30 = .ok (.ireturn, 1) := by decide +kernel
theorem dX4_parse_31 : decode cX4_parse 31 = .ok (.aload_n 0, 1) := by decide +kernel
theorem dX4_parse_32 : decode cX4_parse 32 = .ok (.invokevirtual 32, 3) := by decide +kernel
theorem dX4_parse_35 : decode cX4_parse 35 = .ok (.aload_n 0, 1) := by decide +kernel
theorem dX4_parse_36 : decode cX4_parse 36 = .ok (.getfield 29, 3) := by decide +kernel
theorem dX4_parse_39 : decode cX4_parse 39 = .ok (.aload_n 0, 1) := by decide +kernel
theorem dX4_parse_40 : decode cX4_parse 40 = .ok (.getfield 12, 3) := by decide +kernel
theorem dX4_parse_43 : decode cX4_parse 43 = .ok (.getfield 39, 3) := by decide +kernel
theorem dX4_parse_46 : decode cX4_parse 46 = .ok (.if_icmp .lt 5, 3) := by decide +kernel
theorem dX4_parse_49 : decode cX4_parse 49 = .ok (.iconst 1, 1) := by decide +kernel
theorem dX4_parse_50 : decode cX4_parse 50 = .ok (.ireturn, 1) := by decide +kernel
theorem dX4_parse_51 : decode cX4_parse 51 = .ok (.iinc 1 1, 3) := by decide +kernel
theorem dX4_parse_54 : decode cX4_parse 54 = .ok (.goto (-38), 3) := by decide +kernel
theorem dX4_parse_57 : decode cX4_parse 57 = .ok (.iconst 0, 1) := by decide +kernel
theorem dX4_parse_58 : decode cX4_parse 58 = .ok (.ireturn, 1) := by decide +kernel
theorem dX4_skipSpaces_0 : decode cX4_skipSpaces 0 = .ok (.aload_n 0, 1) := by decide +kernel
theorem dX4_skipSpaces_1 : decode cX4_skipSpaces 1 = .ok (.getfield 29, 3) := by decide +kernel
theorem dX4_skipSpaces_4 : decode cX4_skipSpaces 4 = .ok (.aload_n 0, 1) := by decide +kernel
theorem dX4_skipSpaces_5 : decode cX4_skipSpaces 5 = .ok (.getfield 12, 3) := by decide +kernel
theorem dX4_skipSpaces_8 : decode cX4_skipSpaces 8 = .ok (.getfield 39, 3) := by decide +kernel
theorem dX4_skipSpaces_11 : decode cX4_skipSpaces 11 = .ok (.if_icmp .ge 32, 3) := by decide +kernel
theorem dX4_skipSpaces_14 : decode cX4_skipSpaces 14 = .ok (.aload_n 0, 1) := by decide +kernel
theorem dX4_skipSpaces_15 : decode cX4_skipSpaces 15 = .ok (.getfield 12, 3) := by decide +kernel
theorem dX4_skipSpaces_18 : decode cX4_skipSpaces 18 = .ok (.aload_n 0, 1) := by decide +kernel
theorem dX4_skipSpaces_19 : decode cX4_skipSpaces 19 = .ok (.getfield 29, 3) := by decide +kernel
theorem dX4_skipSpaces_22 : decode cX4_skipSpaces 22 = .ok (.invokevirtual 42, 3) := by decide +kernel
theorem dX4_skipSpaces_25 : decode cX4_skipSpaces 25 = .ok (.bipush 32, 2) := by decide +kernel
theorem dX4_skipSpaces_27 : decode cX4_skipSpaces 27 = .ok (.if_icmp .ne 16, 3) := by decide +kernel
theorem dX4_skipSpaces_30 : decode cX4_skipSpaces 30 = .ok (.aload_n 0, 1) := by decide +kernel
theorem dX4_skipSpaces_31 : decode cX4_skipSpaces 31 = .ok (.dup, 1) := by decide +kernel
theorem dX4_skipSpaces_32 : decode cX4_skipSpaces 32 = .ok (.getfield 29, 3) := by decide +kernel
theorem dX4_skipSpaces_35 : decode cX4_skipSpaces 35 = .ok (.iconst 1, 1) := by decide +kernel
theorem dX4_skipSpaces_36 : decode cX4_skipSpaces 36 = .ok (.iadd, 1) := by decide +kernel
theorem dX4_skipSpaces_37 : decode cX4_skipSpaces 37 = .ok (.putfield 29, 3) := by decide +kernel
theorem dX4_skipSpaces_40 : decode cX4_skipSpaces 40 = .ok (.goto (-40), 3) := by decide +kernel
theorem dX4_skipSpaces_43 : decode cX4_skipSpaces 43 = .ok (.return_, 1) := by decide +kernel
theorem dX4_readCommand_0 : decode cX4_readCommand 0 = .ok (.aload_n 0, 1) := by decide +kernel
theorem dX4_readCommand_1 : decode cX4_readCommand 1 = .ok (.getfield 12, 3) := by decide +kernel
theorem dX4_readCommand_4 : decode cX4_readCommand 4 = .ok (.aload_n 0, 1) := by decide +kernel
theorem dX4_readCommand_5 : decode cX4_readCommand 5 = .ok (.getfield 29, 3) := by decide +kernel
theorem dX4_readCommand_8 : decode cX4_readCommand 8 = .ok (.invokevirtual 42, 3) := by decide +kernel
theorem dX4_readCommand_11 : decode cX4_readCommand 11 = .ok (.istore_n 1, 1) := by decide +kernel
theorem dX4_readCommand_12 : decode cX4_readCommand 12 = .ok (.iload_n 1, 1) := by decide +kernel
theorem dX4_readCommand_13 : decode cX4_readCommand 13 = .ok (.invokestatic 46, 3) := by decide +kernel
theorem dX4_readCommand_16 : decode cX4_readCommand 16 = .ok (.istore_n 2, 1) := by decide +kernel
theorem dX4_readCommand_17 : decode cX4_readCommand 17 = .ok (.iload_n 2, 1) := by decide +kernel
theorem dX4_readCommand_18 : decode cX4_readCommand 18 = .ok (.sipush (-10001), 3) := by decide +kernel
theorem dX4_readCommand_21 : decode cX4_readCommand 21 = .ok (.if_icmp .eq 12, 3) := by decide +kernel
theorem dX4_readCommand_24 : decode cX4_readCommand 24 = .ok (.aload_n 0, 1) := by decide +kernel
theorem dX4_readCommand_25 : decode cX4_readCommand 25 = .ok (.getfield 25, 3) := by decide +kernel
theorem dX4_readCommand_28 : decode cX4_readCommand 28 = .ok (.bipush 60, 2) := by decide +kernel
theorem dX4_readCommand_30 : decode cX4_readCommand 30 = .ok (.if_icmp .lt 5, 3) := by decide +kernel
theorem dX4_readCommand_33 : decode cX4_readCommand 33 = .ok (.iconst 0, 1) := by decide +kernel
theorem dX4_readCommand_34 : decode cX4_readCommand 34 = .ok (.ireturn, 1) := by decide +kernel
theorem dX4_readCommand_35 : decode cX4_readCommand 35 = .ok (.aload_n 0, 1) := by decide +kernel
theorem dX4_readCommand_36 : decode cX4_readCommand 36 = .ok (.dup, 1) := by decide +kernel
theorem dX4_readCommand_37 : decode cX4_readCommand 37 = .ok (.getfield 29, 3) := by decide +kernel
theorem dX4_readCommand_40 : decode cX4_readCommand 40 = .ok (.iconst 1, 1) := by decide +kernel
theorem dX4_readCommand_41 : decode cX4_readCommand 41 = .ok (.iadd, 1) := by decide +kernel
theorem dX4_readCommand_42 : decode cX4_readCommand 42 = .ok (.putfield 29, 3) := by decide +kernel
theorem dX4_readCommand_45 : decode cX4_readCommand 45 = .ok (.aload_n 0, 1) := by decide +kernel
theorem dX4_readCommand_46 : decode cX4_readCommand 46 = .ok (.getfield 18, 3) := by decide +kernel
theorem dX4_readCommand_49 : decode cX4_readCommand 49 = .ok (.aload_n 0, 1) := by decide +kernel
theorem dX4_readCommand_50 : decode cX4_readCommand 50 = .ok (.getfield 25, 3) := by decide +kernel
theorem dX4_readCommand_53 : decode cX4_readCommand 53 = .ok (.iload_n 1, 1) := by decide +kernel
theorem dX4_readCommand_54 : decode cX4_readCommand 54 = .ok (.iastore, 1) := by decide +kernel
theorem dX4_readCommand_55 : decode cX4_readCommand 55 = .ok (.iconst 0, 1) := by decide +kernel
theorem dX4_readCommand_56 : decode cX4_readCommand 56 = .ok (.istore_n 3, 1) := by decide +kernel
theorem dX4_readCommand_57 : decode cX4_readCommand 57 = .ok (.iload_n 3, 1) := by decide +kernel
theorem dX4_readCommand_58 : decode cX4_readCommand 58 = .ok (.iload_n 2, 1) := by decide +kernel
theorem dX4_readCommand_59 : decode cX4_readCommand 59 = .ok (.if_icmp .ge 50, 3) := by decide +kernel
theorem dX4_readCommand_62 : decode cX4_readCommand 62 = .ok (.aload_n 0, 1) := by decide +kernel
theorem dX4_readCommand_63 : decode cX4_readCommand 63 = .ok (.invokevirtual 32, 3) := by decide +kernel
theorem dX4_readCommand_66 : decode cX4_readCommand 66 = .ok (.iload_n 1, 1) := by decide +kernel
theorem dX4_readCommand_67 : decode cX4_readCommand 67 = .ok (.bipush 102, 2) := by decide +kernel
theorem dX4_readCommand_69 : decode cX4_readCommand 69 = .ok (.if_icmp .ne 12, 3) := by decide +kernel
theorem dX4_readCommand_72 : decode cX4_readCommand 72 = .ok (.iload_n 3, 1) := by decide +kernel
theorem dX4_readCommand_73 : decode cX4_readCommand 73 = .ok (.iconst 3, 1) := by decide +kernel
theorem dX4_readCommand_74 : decode cX4_readCommand 74 = .ok (.if_icmp .ne 7, 3) := by decide +kernel
theorem dX4_readCommand_77 : decode cX4_readCommand 77 = .ok (.iconst 1, 1) := by decide +kernel
theorem dX4_readCommand_78 : decode cX4_readCommand 78 = .ok (.goto 4, 3) := by decide +kernel
theorem dX4_readCommand_81 : decode cX4_readCommand 81 = .ok (.iconst 0, 1) := by decide +kernel
theorem dX4_readCommand_82 : decode cX4_readCommand 82 = .ok (.istore 4, 2) := by decide +kernel
theorem dX4_readCommand_84 : decode cX4_readCommand 84 = .ok (.aload_n 0, 1) := by decide +kernel
theorem dX4_readCommand_85 : decode cX4_readCommand 85 = .ok (.iconst 4, 1) := by decide +kernel
theorem dX4_readCommand_86 : decode cX4_readCommand 86 = .ok (.aload_n 0, 1) := by decide +kernel
theorem dX4_readCommand_87 : decode cX4_readCommand 87 = .ok (.getfield 25, 3) := by decide +kernel
theorem dX4_readCommand_90 : decode cX4_readCommand 90 = .ok (.imul, 1) := by decide +kernel
theorem dX4_readCommand_91 : decode cX4_readCommand 91 = .ok (.iload_n 3, 1) := by decide +kernel
theorem dX4_readCommand_92 : decode cX4_readCommand 92 = .ok (.iadd, 1) := by decide +kernel
theorem dX4_readCommand_93 : decode cX4_readCommand 93 = .ok (.iload 4, 2) := by decide +kernel
theorem dX4_readCommand_95 : decode cX4_readCommand 95 = .ok (.invokevirtual 49, 3) := by decide +kernel
theorem dX4_readCommand_98 : decode cX4_readCommand 98 = .ok (.ifCond .ne 5, 3) := by decide +kernel
theorem dX4_readCommand_101 : decode cX4_readCommand 101 = .ok (.iconst 0, 1) := by decide +kernel
theorem dX4_readCommand_102 : decode cX4_readCommand 102 = .ok (.ireturn, 1) := by decide +kernel
theorem dX4_readCommand_103 : decode cX4_readCommand 103 = .ok (.iinc 3 1, 3) := by decide +kernel
theorem dX4_readCommand_106 : decode cX4_readCommand 106 = .ok (.goto (-49), 3) := by decide +kernel
theorem dX4_readCommand_109 : decode cX4_readCommand 109 = .ok (.aload_n 0, 1) := by decide +kernel
theorem dX4_readCommand_110 : decode cX4_readCommand 110 = .ok (.invokevirtual 32, 3) := by decide +kernel
theorem dX4_readCommand_113 : decode cX4_readCommand 113 = .ok (.aload_n 0, 1) := by decide +kernel
theorem dX4_readCommand_114 : decode cX4_readCommand 114 = .ok (.getfield 12, 3) := by decide +kernel
theorem dX4_readCommand_117 : decode cX4_readCommand 117 = .ok (.aload_n 0, 1) := by decide +kernel
theorem dX4_readCommand_118 : decode cX4_readCommand 118 = .ok (.getfield 29, 3) := by decide +kernel
theorem dX4_readCommand_121 : decode cX4_readCommand 121 = .ok (.invokevirtual 42, 3) := by decide +kernel
theorem dX4_readCommand_124 : decode cX4_readCommand 124 = .ok (.bipush 59, 2) := by decide +kernel
theorem dX4_readCommand_126 : decode cX4_readCommand 126 = .ok (.if_icmp .eq 5, 3) := by decide +kernel
theorem dX4_readCommand_129 : decode cX4_readCommand 129 = .ok (.iconst 0, 1) := by decide +kernel
theorem dX4_readCommand_130 : decode cX4_readCommand 130 = .ok (.ireturn, 1) := by decide +kernel
theorem dX4_readCommand_131 : decode cX4_readCommand 131 = .ok (.aload_n 0, 1) := by decide +kernel
theorem dX4_readCommand_132 : decode cX4_readCommand 132 = .ok (.dup, 1) := by decide +kernel
theorem dX4_readCommand_133 : decode cX4_readCommand 133 = .ok (.getfield 29, 3) := by decide +kernel
theorem dX4_readCommand_136 : decode cX4_readCommand 136 = .ok (.iconst 1, 1) := by decide +kernel
theorem dX4_readCommand_137 : decode cX4_readCommand 137 = .ok (.iadd, 1) := by decide +kernel
theorem dX4_readCommand_138 : decode cX4_readCommand 138 = .ok (.putfield 29, 3) := by decide +kernel
theorem dX4_readCommand_141 : decode cX4_readCommand 141 = .ok (.aload_n 0, 1) := by decide +kernel
theorem dX4_readCommand_142 : decode cX4_readCommand 142 = .ok (.dup, 1) := by decide +kernel
theorem dX4_readCommand_143 : decode cX4_readCommand 143 = .ok (.getfield 25, 3) := by decide +kernel
theorem dX4_readCommand_146 : decode cX4_readCommand 146 = .ok (.iconst 1, 1) := by decide +kernel
theorem dX4_readCommand_147 : decode cX4_readCommand 147 = .ok (.iadd, 1) := by decide +kernel
theorem dX4_readCommand_148 : decode cX4_readCommand 148 = .ok (.putfield 25, 3) := by decide +kernel
theorem dX4_readCommand_151 : decode cX4_readCommand 151 = .ok (.iconst 1, 1) := by decide +kernel
theorem dX4_readCommand_152 : decode cX4_readCommand 152 = .ok (.ireturn, 1) := by decide +kernel
theorem dX4_numbersBehind_0 : decode cX4_numbersBehind 0 = .ok (.iload_n 0, 1) := by decide +kernel
theorem dX4_numbersBehind_1 : decode cX4_numbersBehind 1 = .ok (.tableswitch 103 101 120 #[101, 97, 103, 103, 103, 103, 103, 95, 103, 103, 103, 103, 103, 95, 103, 103, 103, 103, 95, 99], 95) := by decide +kernel
theorem dX4_numbersBehind_96 : decode cX4_numbersBehind 96 = .ok (.iconst 2, 1) := by decide +kernel
theorem dX4_numbersBehind_97 : decode cX4_numbersBehind 97 = .ok (.ireturn, 1) := by decide +kernel
theorem dX4_numbersBehind_98 : decode cX4_numbersBehind 98 = .ok (.iconst 4, 1) := by decide +kernel
theorem dX4_numbersBehind_99 : decode cX4_numbersBehind 99 = .ok (.ireturn, 1) := by decide +kernel
theorem dX4_numbersBehind_100 : decode cX4_numbersBehind 100 = .ok (.iconst 1, 1) := by decide +kernel
theorem dX4_numbersBehind_101 : decode cX4_numbersBehind 101 = .ok (.ireturn, 1) := by decide +kernel
theorem dX4_numbersBehind_102 : decode cX4_numbersBehind 102 = .ok (.iconst 0, 1) := by decide +kernel
theorem dX4_numbersBehind_103 : decode cX4_numbersBehind 103 = .ok (.ireturn, 1) := by decide +kernel
theorem dX4_numbersBehind_104 : decode cX4_numbersBehind 104 = .ok (.sipush (-10001), 3) := by decide +kernel
theorem dX4_numbersBehind_107 : decode cX4_numbersBehind 107 = .ok (.ireturn, 1) := by decide +kernel
theorem dX4_readNumber_0 : decode cX4_readNumber 0 = .ok (.iload_n 2, 1) := by decide +kernel
theorem dX4_readNumber_1 : decode cX4_readNumber 1 = .ok (.ifCond .eq 23, 3) := by decide +kernel
theorem dX4_readNumber_4 : decode cX4_readNumber 4 = .ok (.aload_n 0, 1) := by decide +kernel
theorem dX4_readNumber_5 : decode cX4_readNumber 5 = .ok (.getfield 12, 3) := by decide +kernel
theorem dX4_readNumber_8 : decode cX4_readNumber 8 = .ok (.aload_n 0, 1) := by decide +kernel
theorem dX4_readNumber_9 : decode cX4_readNumber 9 = .ok (.getfield 29, 3) := by decide +kernel
theorem dX4_readNumber_12 : decode cX4_readNumber 12 = .ok (.invokevirtual 42, 3) := by decide +kernel
theorem dX4_readNumber_15 : decode cX4_readNumber 15 = .ok (.bipush 45, 2) := by decide +kernel
theorem dX4_readNumber_17 : decode cX4_readNumber 17 = .ok (.if_icmp .ne 7, 3) := by decide +kernel
theorem dX4_readNumber_20 : decode cX4_readNumber 20 = .ok (.iconst 1, 1) := by decide +kernel
theorem dX4_readNumber_21 : decode cX4_readNumber 21 = .ok (.goto 4, 3) := by decide +kernel
theorem dX4_readNumber_24 : decode cX4_readNumber 24 = .ok (.iconst 0, 1) := by decide +kernel
theorem dX4_readNumber_25 : decode cX4_readNumber 25 = .ok (.istore_n 3, 1) := by decide +kernel
theorem dX4_readNumber_26 : decode cX4_readNumber 26 = .ok (.iload_n 3, 1) := by decide +kernel
theorem dX4_readNumber_27 : decode cX4_readNumber 27 = .ok (.ifCond .eq 13, 3) := by decide +kernel
theorem dX4_readNumber_30 : decode cX4_readNumber 30 = .ok (.aload_n 0, 1) := by decide +kernel
theorem dX4_readNumber_31 : decode cX4_readNumber 31 = .ok (.dup, 1) := by decide +kernel
theorem dX4_readNumber_32 : decode cX4_readNumber 32 = .ok (.getfield 29, 3) := by decide +kernel
theorem dX4_readNumber_35 : decode cX4_readNumber 35 = .ok (.iconst 1, 1) := by decide +kernel
theorem dX4_readNumber_36 : decode cX4_readNumber 36 = .ok (.iadd, 1) := by decide +kernel
theorem dX4_readNumber_37 : decode cX4_readNumber 37 = .ok (.putfield 29, 3) := by decide +kernel
theorem dX4_readNumber_40 : decode cX4_readNumber 40 = .ok (.aload_n 0, 1) := by decide +kernel
theorem dX4_readNumber_41 : decode cX4_readNumber 41 = .ok (.getfield 12, 3) := by decide +kernel
theorem dX4_readNumber_44 : decode cX4_readNumber 44 = .ok (.aload_n 0, 1) := by decide +kernel
theorem dX4_readNumber_45 : decode cX4_readNumber 45 = .ok (.getfield 29, 3) := by decide +kernel
theorem dX4_readNumber_48 : decode cX4_readNumber 48 = .ok (.invokevirtual 42, 3) := by decide +kernel
theorem dX4_readNumber_51 : decode cX4_readNumber 51 = .ok (.invokestatic 53, 3) := by decide +kernel
theorem dX4_readNumber_54 : decode cX4_readNumber 54 = .ok (.ifCond .ne 5, 3) := by decide +kernel
theorem dX4_readNumber_57 : decode cX4_readNumber 57 = .ok (.iconst 0, 1) := by decide +kernel
theorem dX4_readNumber_58 : decode cX4_readNumber 58 = .ok (.ireturn, 1) := by decide +kernel
theorem dX4_readNumber_59 : decode cX4_readNumber 59 = .ok (.aload_n 0, 1) := by decide +kernel
theorem dX4_readNumber_60 : decode cX4_readNumber 60 = .ok (.getfield 12, 3) := by decide +kernel
theorem dX4_readNumber_63 : decode cX4_readNumber 63 = .ok (.aload_n 0, 1) := by decide +kernel
theorem dX4_readNumber_64 : decode cX4_readNumber 64 = .ok (.getfield 29, 3) := by decide +kernel
theorem dX4_readNumber_67 : decode cX4_readNumber 67 = .ok (.invokevirtual 42, 3) := by decide +kernel
theorem dX4_readNumber_70 : decode cX4_readNumber 70 = .ok (.bipush 48, 2) := by decide +kernel
theorem dX4_readNumber_72 : decode cX4_readNumber 72 = .ok (.isub, 1) := by decide +kernel
theorem dX4_readNumber_73 : decode cX4_readNumber 73 = .ok (.istore 4, 2) := by decide +kernel
theorem dX4_readNumber_75 : decode cX4_readNumber 75 = .ok (.aload_n 0, 1) := by decide +kernel
theorem dX4_readNumber_76 : decode cX4_readNumber 76 = .ok (.dup, 1) := by decide +kernel
theorem dX4_readNumber_77 : decode cX4_readNumber 77 = .ok (.getfield 29, 3) := by decide +kernel
theorem dX4_readNumber_80 : decode cX4_readNumber 80 = .ok (.iconst 1, 1) := by decide +kernel
theorem dX4_readNumber_81 : decode cX4_readNumber 81 = .ok (.iadd, 1) := by decide +kernel
theorem dX4_readNumber_82 : decode cX4_readNumber 82 = .ok (.putfield 29, 3) := by decide +kernel
theorem dX4_readNumber_85 : decode cX4_readNumber 85 = .ok (.aload_n 0, 1) := by decide +kernel
theorem dX4_readNumber_86 : decode cX4_readNumber 86 = .ok (.getfield 12, 3) := by decide +kernel
theorem dX4_readNumber_89 : decode cX4_readNumber 89 = .ok (.aload_n 0, 1) := by decide +kernel
theorem dX4_readNumber_90 : decode cX4_readNumber 90 = .ok (.getfield 29, 3) := by decide +kernel
theorem dX4_readNumber_93 : decode cX4_readNumber 93 = .ok (.invokevirtual 42, 3) := by decide +kernel
theorem dX4_readNumber_96 : decode cX4_readNumber 96 = .ok (.invokestatic 53, 3) := by decide +kernel
theorem dX4_readNumber_99 : decode cX4_readNumber 99 = .ok (.ifCond .eq 35, 3) := by decide +kernel
theorem dX4_readNumber_102 : decode cX4_readNumber 102 = .ok (.bipush 10, 2) := by decide +kernel
theorem dX4_readNumber_104 : decode cX4_readNumber 104 = .ok (.iload 4, 2) := by decide +kernel
theorem dX4_readNumber_106 : decode cX4_readNumber 106 = .ok (.imul, 1) := by decide +kernel
theorem dX4_readNumber_107 : decode cX4_readNumber 107 = .ok (.aload_n 0, 1) := by decide +kernel
theorem dX4_readNumber_108 : decode cX4_readNumber 108 = .ok (.getfield 12, 3) := by decide +kernel
theorem dX4_readNumber_111 : decode cX4_readNumber 111 = .ok (.aload_n 0, 1) := by decide +kernel
theorem dX4_readNumber_112 : decode cX4_readNumber 112 = .ok (.getfield 29, 3) := by decide +kernel
theorem dX4_readNumber_115 : decode cX4_readNumber 115 = .ok (.invokevirtual 42, 3) := by decide +kernel
theorem dX4_readNumber_118 : decode cX4_readNumber 118 = .ok (.iadd, 1) := by decide +kernel
theorem dX4_readNumber_119 : decode cX4_readNumber 119 = .ok (.bipush 48, 2) := by decide +kernel
theorem dX4_readNumber_121 : decode cX4_readNumber 121 = .ok (.isub, 1) := by decide +kernel
theorem dX4_readNumber_122 : decode cX4_readNumber 122 = .ok (.istore 4, 2) := by decide +kernel
theorem dX4_readNumber_124 : decode cX4_readNumber 124 = .ok (.aload_n 0, 1) := by decide +kernel
theorem dX4_readNumber_125 : decode cX4_readNumber 125 = .ok (.dup, 1) := by decide +kernel
theorem dX4_readNumber_126 : decode cX4_readNumber 126 = .ok (.getfield 29, 3) := by decide +kernel
theorem dX4_readNumber_129 : decode cX4_readNumber 129 = .ok (.iconst 1, 1) := by decide +kernel
theorem dX4_readNumber_130 : decode cX4_readNumber 130 = .ok (.iadd, 1) := by decide +kernel
theorem dX4_readNumber_131 : decode cX4_readNumber 131 = .ok (.putfield 29, 3) := by decide +kernel
theorem dX4_readNumber_134 : decode cX4_readNumber 134 = .ok (.iload_n 1, 1) := by decide +kernel
theorem dX4_readNumber_135 : decode cX4_readNumber 135 = .ok (.ifCond .lt 30, 3) := by decide +kernel
theorem dX4_readNumber_138 : decode cX4_readNumber 138 = .ok (.iload_n 1, 1) := by decide +kernel
theorem dX4_readNumber_139 : decode cX4_readNumber 139 = .ok (.aload_n 0, 1) := by decide +kernel
theorem dX4_readNumber_140 : decode cX4_readNumber 140 = .ok (.getfield 22, 3) := by decide +kernel
theorem dX4_readNumber_143 : decode cX4_readNumber 143 = .ok (.arraylength, 1) := by decide +kernel
theorem dX4_readNumber_144 : decode cX4_readNumber 144 = .ok (.if_icmp .ge 21, 3) := by decide +kernel
theorem dX4_readNumber_147 : decode cX4_readNumber 147 = .ok (.aload_n 0, 1) := by decide +kernel
theorem dX4_readNumber_148 : decode cX4_readNumber 148 = .ok (.getfield 22, 3) := by decide +kernel
theorem dX4_readNumber_151 : decode cX4_readNumber 151 = .ok (.iload_n 1, 1) := by decide +kernel
theorem dX4_readNumber_152 : decode cX4_readNumber 152 = .ok (.iload_n 3, 1) := by decide +kernel
theorem dX4_readNumber_153 : decode cX4_readNumber 153 = .ok (.ifCond .eq 9, 3) := by decide +kernel
theorem dX4_readNumber_156 : decode cX4_readNumber 156 = .ok (.iload 4, 2) := by decide +kernel
theorem dX4_readNumber_158 : decode cX4_readNumber 158 = .ok (.ineg, 1) := by decide +kernel
theorem dX4_readNumber_159 : decode cX4_readNumber 159 = .ok (.goto 5, 3) := by decide +kernel
theorem dX4_readNumber_162 : decode cX4_readNumber 162 = .ok (.iload 4, 2) := by decide +kernel
theorem dX4_readNumber_164 : decode cX4_readNumber 164 = .ok (.iastore, 1) := by decide +kernel
theorem dX4_readNumber_165 : decode cX4_readNumber 165 = .ok (.aload_n 0, 1) := by decide +kernel
theorem dX4_readNumber_166 : decode cX4_readNumber 166 = .ok (.getfield 12, 3) := by decide +kernel
theorem dX4_readNumber_169 : decode cX4_readNumber 169 = .ok (.aload_n 0, 1) := by decide +kernel
theorem dX4_readNumber_170 : decode cX4_readNumber 170 = .ok (.getfield 29, 3) := by decide +kernel
theorem dX4_readNumber_173 : decode cX4_readNumber 173 = .ok (.invokevirtual 42, 3) := by decide +kernel
theorem dX4_readNumber_176 : decode cX4_readNumber 176 = .ok (.invokestatic 53, 3) := by decide +kernel
theorem dX4_readNumber_179 : decode cX4_readNumber 179 = .ok (.ifCond .ne 7, 3) := by decide +kernel
theorem dX4_readNumber_182 : decode cX4_readNumber 182 = .ok (.iconst 1, 1) := by decide +kernel
theorem dX4_readNumber_183 : decode cX4_readNumber 183 = .ok (.goto 4, 3) := by decide +kernel
theorem dX4_readNumber_186 : decode cX4_readNumber 186 = .ok (.iconst 0, 1) := by decide +kernel
theorem dX4_readNumber_187 : decode cX4_readNumber 187 = .ok (.ireturn, 1) := by decide +kernel
theorem dX4_isDigit_0 : decode cX4_isDigit 0 = .ok (.iload_n 0, 1) := by decide +kernel
theorem dX4_isDigit_1 : decode cX4_isDigit 1 = .ok (.bipush 48, 2) := by decide +kernel
theorem dX4_isDigit_3 : decode cX4_isDigit 3 = .ok (.if_icmp .lt 13, 3) := by decide +kernel
theorem dX4_isDigit_6 : decode cX4_isDigit 6 = .ok (.iload_n 0, 1) := by decide +kernel
theorem dX4_isDigit_7 : decode cX4_isDigit 7 = .ok (.bipush 57, 2) := by decide +kernel
theorem dX4_isDigit_9 : decode cX4_isDigit 9 = .ok (.if_icmp .gt 7, 3) := by decide +kernel
theorem dX4_isDigit_12 : decode cX4_isDigit 12 = .ok (.iconst 1, 1) := by decide +kernel
theorem dX4_isDigit_13 : decode cX4_isDigit 13 = .ok (.goto 4, 3) := by decide +kernel
theorem dX4_isDigit_16 : decode cX4_isDigit 16 = .ok (.iconst 0, 1) := by decide +kernel
theorem dX4_isDigit_17 : decode cX4_isDigit 17 = .ok (.ireturn, 1) := by decide +kernel
theorem dX5_init_0 : decode cX5_init 0 = .ok (.aload_n 0, 1) := by decide +kernel
theorem dX5_init_1 : decode cX5_init 1 = .ok (.invokespecial 3, 3) := by decide +kernel
theorem dX5_init_4 : decode cX5_init 4 = .ok (.aload_n 0, 1) := by decide +kernel
theorem dX5_init_5 : decode cX5_init 5 = .ok (.new 9, 3) := by decide +kernel
theorem dX5_init_8 : decode cX5_init 8 = .ok (.dup, 1) := by decide +kernel
theorem dX5_init_9 : decode cX5_init 9 = .ok (.bipush 10, 2) := by decide +kernel
theorem dX5_init_11 : decode cX5_init 11 = .ok (.invokespecial 11, 3) := by decide +kernel
theorem dX5_init_14 : decode cX5_init 14 = .ok (.putfield 14, 3) := by decide +kernel
theorem dX5_init_17 : decode cX5_init 17 = .ok (.aload_n 0, 1) := by decide +kernel
theorem dX5_init_18 : decode cX5_init 18 = .ok (.new 9, 3) := by decide +kernel
theorem dX5_init_21 : decode cX5_init 21 = .ok (.dup, 1) := by decide +kernel
theorem dX5_init_22 : decode cX5_init 22 = .ok (.bipush 10, 2) := by decide +kernel
theorem dX5_init_24 : decode cX5_init 24 = .ok (.invokespecial 11, 3) := by decide +kernel
theorem dX5_init_27 : decode cX5_init 27 = .ok (.putfield 20, 3) := by decide +kernel
theorem dX5_init_30 : decode cX5_init 30 = .ok (.aload_n 0, 1) := by decide +kernel
theorem dX5_init_31 : decode cX5_init 31 = .ok (.new 23, 3) := by decide +kernel
theorem dX5_init_34 : decode cX5_init 34 = .ok (.dup, 1) := by decide +kernel
theorem dX5_init_35 : decode cX5_init 35 = .ok (.invokespecial 25, 3) := by decide +kernel
theorem dX5_init_38 : decode cX5_init 38 = .ok (.putfield 26, 3) := by decide +kernel
theorem dX5_init_41 : decode cX5_init 41 = .ok (.aload_n 0, 1) := by decide +kernel
theorem dX5_init_42 : decode cX5_init 42 = .ok (.new 9, 3) := by decide +kernel
theorem dX5_init_45 : decode cX5_init 45 = .ok (.dup, 1) := by decide +kernel
theorem dX5_init_46 : decode cX5_init 46 = .ok (.iconst 4, 1) := by decide +kernel
theorem dX5_init_47 : decode cX5_init 47 = .ok (.invokespecial 11, 3) := by decide +kernel
theorem dX5_init_50 : decode cX5_init 50 = .ok (.putfield 30, 3) := by decide +kernel
theorem dX5_init_53 : decode cX5_init 53 = .ok (.return_, 1) := by decide +kernel
theorem dX5_copyFrom_0 : decode cX5_copyFrom 0 = .ok (.aload_n 0, 1) := by decide +kernel
theorem dX5_copyFrom_1 : decode cX5_copyFrom 1 = .ok (.getfield 14, 3) := by decide +kernel
theorem dX5_copyFrom_4 : decode cX5_copyFrom 4 = .ok (.aload_n 1, 1) := by decide +kernel
theorem dX5_copyFrom_5 : decode cX5_copyFrom 5 = .ok (.getfield 14, 3) := by decide +kernel
theorem dX5_copyFrom_8 : decode cX5_copyFrom 8 = .ok (.invokevirtual 33, 3) := by decide +kernel
theorem dX5_copyFrom_11 : decode cX5_copyFrom 11 = .ok (.aload_n 0, 1) := by decide +kernel
theorem dX5_copyFrom_12 : decode cX5_copyFrom 12 = .ok (.getfield 20, 3) := by decide +kernel
theorem dX5_copyFrom_15 : decode cX5_copyFrom 15 = .ok (.aload_n 1, 1) := by decide +kernel
theorem dX5_copyFrom_16 : decode cX5_copyFrom 16 = .ok (.getfield 20, 3) := by decide +kernel
theorem dX5_copyFrom_19 : decode cX5_copyFrom 19 = .ok (.invokevirtual 33, 3) := by decide +kernel
theorem dX5_copyFrom_22 : decode cX5_copyFrom 22 = .ok (.aload_n 0, 1) := by decide +kernel
theorem dX5_copyFrom_23 : decode cX5_copyFrom 23 = .ok (.getfield 26, 3) := by decide +kernel
theorem dX5_copyFrom_26 : decode cX5_copyFrom 26 = .ok (.aload_n 1, 1) := by decide +kernel
theorem dX5_copyFrom_27 : decode cX5_copyFrom 27 = .ok (.getfield 26, 3) := by decide +kernel
theorem dX5_copyFrom_30 : decode cX5_copyFrom 30 = .ok (.invokevirtual 37, 3) := by decide +kernel
theorem dX5_copyFrom_33 : decode cX5_copyFrom 33 = .ok (.aload_n 0, 1) := by decide +kernel
theorem dX5_copyFrom_34 : decode cX5_copyFrom 34 = .ok (.getfield 30, 3) := by decide +kernel
theorem dX5_copyFrom_37 : decode cX5_copyFrom 37 = .ok (.aload_n 1, 1) := by decide +kernel
theorem dX5_copyFrom_38 : decode cX5_copyFrom 38 = .ok (.getfield 30, 3) := by decide +kernel
theorem dX5_copyFrom_41 : decode cX5_copyFrom 41 = .ok (.invokevirtual 33, 3) := by decide +kernel
theorem dX5_copyFrom_44 : decode cX5_copyFrom 44 = .ok (.return_, 1) := by decide +kernel
theorem dX6_init_0 : decode cX6_init 0 = .ok (.aload_n 0, 1) := by decide +kernel
theorem dX6_init_1 : decode cX6_init 1 = .ok (.invokespecial 3, 3) := by decide +kernel
theorem dX6_init_4 : decode cX6_init 4 = .ok (.aload_n 0, 1) := by decide +kernel
theorem dX6_init_5 : decode cX6_init 5 = .ok (.bipush 120, 2) := by decide +kernel
theorem dX6_init_7 : decode cX6_init 7 = .ok (.newarray .int, 2) := by decide +kernel
theorem dX6_init_9 : decode cX6_init 9 = .ok (.putfield 9, 3) := by decide +kernel
theorem dX6_init_12 : decode cX6_init 12 = .ok (.return_, 1) := by decide +kernel
theorem dX6_put_0 : decode cX6_put 0 = .ok (.iload_n 1, 1) := by decide +kernel
theorem dX6_put_1 : decode cX6_put 1 = .ok (.ifCond .lt 9, 3) := by decide +kernel
theorem dX6_put_4 : decode cX6_put 4 = .ok (.iload_n 1, 1) := by decide +kernel
theorem dX6_put_5 : decode cX6_put 5 = .ok (.bipush 127, 2) := by decide +kernel
theorem dX6_put_7 : decode cX6_put 7 = .ok (.if_icmp .le 7, 3) := by decide +kernel
theorem dX6_put_10 : decode cX6_put 10 = .ok (.sipush (-10002), 3) := by decide +kernel
theorem dX6_put_13 : decode cX6_put 13 = .ok (.ireturn, 1) := by decide +kernel
theorem dX6_put_14 : decode cX6_put 14 = .ok (.aload_n 0, 1) := by decide +kernel
theorem dX6_put_15 : decode cX6_put 15 = .ok (.getfield 15, 3) := by decide +kernel
theorem dX6_put_18 : decode cX6_put 18 = .ok (.bipush 120, 2) := by decide +kernel
theorem dX6_put_20 : decode cX6_put 20 = .ok (.if_icmp .lt 7, 3) := by decide +kernel
theorem dX6_put_23 : decode cX6_put 23 = .ok (.sipush (-10004), 3) := by decide +kernel
theorem dX6_put_26 : decode cX6_put 26 = .ok (.ireturn, 1) := by decide +kernel
theorem dX6_put_27 : decode cX6_put 27 = .ok (.aload_n 0, 1) := by decide +kernel
theorem dX6_put_28 : decode cX6_put 28 = .ok (.getfield 9, 3) := by decide +kernel
theorem dX6_put_31 : decode cX6_put 31 = .ok (.aload_n 0, 1) := by decide +kernel
theorem dX6_put_32 : decode cX6_put 32 = .ok (.getfield 15, 3) := by decide +kernel
theorem dX6_put_35 : decode cX6_put 35 = .ok (.iload_n 1, 1) := by decide +kernel
theorem dX6_put_36 : decode cX6_put 36 = .ok (.iastore, 1) := by decide +kernel
theorem dX6_put_37 : decode cX6_put 37 = .ok (.aload_n 0, 1) := by decide +kernel
theorem dX6_put_38 : decode cX6_put 38 = .ok (.dup, 1) := by decide +kernel
theorem dX6_put_39 : decode cX6_put 39 = .ok (.getfield 15, 3) := by decide +kernel
theorem dX6_put_42 : decode cX6_put 42 = .ok (.iconst 1, 1) := by decide +kernel
theorem dX6_put_43 : decode cX6_put 43 = .ok (.iadd, 1) := by decide +kernel
theorem dX6_put_44 : decode cX6_put 44 = .ok (.putfield 15, 3) := by decide +kernel
theorem dX6_put_47 : decode cX6_put 47 = .ok (.aload_n 0, 1) := by decide +kernel
theorem dX6_put_48 : decode cX6_put 48 = .ok (.getfield 15, 3) := by decide +kernel
theorem dX6_put_51 : decode cX6_put 51 = .ok (.ireturn, 1) := by decide +kernel
theorem dX6_empty_0 : decode cX6_empty 0 = .ok (.aload_n 0, 1) := by decide +kernel
theorem dX6_empty_1 : decode cX6_empty 1 = .ok (.getfield 15, 3) := by decide +kernel
theorem dX6_empty_4 : decode cX6_empty 4 = .ok (.istore_n 1, 1) := by decide +kernel
theorem dX6_empty_5 : decode cX6_empty 5 = .ok (.aload_n 0, 1) := by decide +kernel
theorem dX6_empty_6 : decode cX6_empty 6 = .ok (.iconst 0, 1) := by decide +kernel
theorem dX6_empty_7 : decode cX6_empty 7 = .ok (.putfield 15, 3) := by decide +kernel
theorem dX6_empty_10 : decode cX6_empty 10 = .ok (.iload_n 1, 1) := by decide +kernel
theorem dX6_empty_11 : decode cX6_empty 11 = .ok (.ireturn, 1) := by decide +kernel
theorem dX6_byteAt_0 : decode cX6_byteAt 0 = .ok (.iload_n 1, 1) := by decide +kernel
theorem dX6_byteAt_1 : decode cX6_byteAt 1 = .ok (.ifCond .lt 20, 3) := by decide +kernel
theorem dX6_byteAt_4 : decode cX6_byteAt 4 = .ok (.iload_n 1, 1) := by decide +kernel
theorem dX6_byteAt_5 : decode cX6_byteAt 5 = .ok (.aload_n 0, 1) := by decide +kernel
theorem dX6_byteAt_6 : decode cX6_byteAt 6 = .ok (.getfield 15, 3) := by decide +kernel
theorem dX6_byteAt_9 : decode cX6_byteAt 9 = .ok (.if_icmp .ge 12, 3) := by decide +kernel
theorem dX6_byteAt_12 : decode cX6_byteAt 12 = .ok (.aload_n 0, 1) := by decide +kernel
theorem dX6_byteAt_13 : decode cX6_byteAt 13 = .ok (.getfield 9, 3) := by decide +kernel
theorem dX6_byteAt_16 : decode cX6_byteAt 16 = .ok (.iload_n 1, 1) := by decide +kernel
theorem dX6_byteAt_17 : decode cX6_byteAt 17 = .ok (.iaload, 1) := by decide +kernel
theorem dX6_byteAt_18 : decode cX6_byteAt 18 = .ok (.goto 4, 3) := by decide +kernel
theorem dX6_byteAt_21 : decode cX6_byteAt 21 = .ok (.iconst (-1), 1) := by decide +kernel
theorem dX6_byteAt_22 : decode cX6_byteAt 22 = .ok (.ireturn, 1) := by decide +kernel
theorem dX7_init_0 : decode cX7_init 0 = .ok (.aload_n 0, 1) := by decide +kernel
theorem dX7_init_1 : decode cX7_init 1 = .ok (.invokespecial 3, 3) := by decide +kernel
theorem dX7_init_4 : decode cX7_init 4 = .ok (.aload_n 0, 1) := by decide +kernel
theorem dX7_init_5 : decode cX7_init 5 = .ok (.new 9, 3) := by decide +kernel
theorem dX7_init_8 : decode cX7_init 8 = .ok (.dup, 1) := by decide +kernel
theorem dX7_init_9 : decode cX7_init 9 = .ok (.invokespecial 11, 3) := by decide +kernel
theorem dX7_init_12 : decode cX7_init 12 = .ok (.putfield 12, 3) := by decide +kernel
theorem dX7_init_15 : decode cX7_init 15 = .ok (.aload_n 0, 1) := by decide +kernel
theorem dX7_init_16 : decode cX7_init 16 = .ok (.aload_n 0, 1) := by decide +kernel
theorem dX7_init_17 : decode cX7_init 17 = .ok (.getfield 12, 3) := by decide +kernel
theorem dX7_init_20 : decode cX7_init 20 = .ok (.getfield 16, 3) := by decide +kernel
theorem dX7_init_23 : decode cX7_init 23 = .ok (.putfield 20, 3) := by decide +kernel
theorem dX7_init_26 : decode cX7_init 26 = .ok (.aload_n 0, 1) := by decide +kernel
theorem dX7_init_27 : decode cX7_init 27 = .ok (.new 21, 3) := by decide +kernel
theorem dX7_init_30 : decode cX7_init 30 = .ok (.dup, 1) := by decide +kernel
theorem dX7_init_31 : decode cX7_init 31 = .ok (.invokespecial 23, 3) := by decide +kernel
theorem dX7_init_34 : decode cX7_init 34 = .ok (.putfield 24, 3) := by decide +kernel
theorem dX7_init_37 : decode cX7_init 37 = .ok (.aload_n 0, 1) := by decide +kernel
theorem dX7_init_38 : decode cX7_init 38 = .ok (.new 28, 3) := by decide +kernel
theorem dX7_init_41 : decode cX7_init 41 = .ok (.dup, 1) := by decide +kernel
theorem dX7_init_42 : decode cX7_init 42 = .ok (.invokespecial 30, 3) := by decide +kernel
theorem dX7_init_45 : decode cX7_init 45 = .ok (.putfield 31, 3) := by decide +kernel
theorem dX7_init_48 : decode cX7_init 48 = .ok (.aload_n 0, 1) := by decide +kernel
theorem dX7_init_49 : decode cX7_init 49 = .ok (.aload_n 0, 1) := by decide +kernel
theorem dX7_init_50 : decode cX7_init 50 = .ok (.getfield 31, 3) := by decide +kernel
theorem dX7_init_53 : decode cX7_init 53 = .ok (.getfield 35, 3) := by decide +kernel
theorem dX7_init_56 : decode cX7_init 56 = .ok (.putfield 39, 3) := by decide +kernel
theorem dX7_init_59 : decode cX7_init 59 = .ok (.aload_n 0, 1) := by decide +kernel
theorem dX7_init_60 : decode cX7_init 60 = .ok (.iconst 3, 1) := by decide +kernel
theorem dX7_init_61 : decode cX7_init 61 = .ok (.newarray .int, 2) := by decide +kernel
theorem dX7_init_63 : decode cX7_init 63 = .ok (.putfield 40, 3) := by decide +kernel
theorem dX7_init_66 : decode cX7_init 66 = .ok (.return_, 1) := by decide +kernel
theorem dX7_addLeft_0 : decode cX7_addLeft 0 = .ok (.aload_n 0, 1) := by decide +kernel
theorem dX7_addLeft_1 : decode cX7_addLeft 1 = .ok (.getfield 24, 3) := by decide +kernel
theorem dX7_addLeft_4 : decode cX7_addLeft 4 = .ok (.aload_n 0, 1) := by decide +kernel
theorem dX7_addLeft_5 : decode cX7_addLeft 5 = .ok (.getfield 20, 3) := by decide +kernel
theorem dX7_addLeft_8 : decode cX7_addLeft 8 = .ok (.invokevirtual 44, 3) := by decide +kernel
theorem dX7_addLeft_11 : decode cX7_addLeft 11 = .ok (.aload_n 0, 1) := by decide +kernel
theorem dX7_addLeft_12 : decode cX7_addLeft 12 = .ok (.aload_n 0, 1) := by decide +kernel
theorem dX7_addLeft_13 : decode cX7_addLeft 13 = .ok (.getfield 20, 3) := by decide +kernel
theorem dX7_addLeft_16 : decode cX7_addLeft 16 = .ok (.getfield 48, 3) := by decide +kernel
theorem dX7_addLeft_19 : decode cX7_addLeft 19 = .ok (.iload_n 1, 1) := by decide +kernel
theorem dX7_addLeft_20 : decode cX7_addLeft 20 = .ok (.iload_n 2, 1) := by decide +kernel
theorem dX7_addLeft_21 : decode cX7_addLeft 21 = .ok (.invokevirtual 54, 3) := by decide +kernel
theorem dX7_addLeft_24 : decode cX7_addLeft 24 = .ok (.invokevirtual 60, 3) := by decide +kernel
theorem dX7_addLeft_27 : decode cX7_addLeft 27 = .ok (.ireturn, 1) := by decide +kernel
theorem dX7_addRight_0 : decode cX7_addRight 0 = .ok (.aload_n 0, 1) := by decide +kernel
theorem dX7_addRight_1 : decode cX7_addRight 1 = .ok (.getfield 24, 3) := by decide +kernel
theorem dX7_addRight_4 : decode cX7_addRight 4 = .ok (.aload_n 0, 1) := by decide +kernel
theorem dX7_addRight_5 : decode cX7_addRight 5 = .ok (.getfield 20, 3) := by decide +kernel
theorem dX7_addRight_8 : decode cX7_addRight 8 = .ok (.invokevirtual 44, 3) := by decide +kernel
theorem dX7_addRight_11 : decode cX7_addRight 11 = .ok (.aload_n 0, 1) := by decide +kernel
theorem dX7_addRight_12 : decode cX7_addRight 12 = .ok (.aload_n 0, 1) := by decide +kernel
theorem dX7_addRight_13 : decode cX7_addRight 13 = .ok (.getfield 20, 3) := by decide +kernel
theorem dX7_addRight_16 : decode cX7_addRight 16 = .ok (.getfield 64, 3) := by decide +kernel
theorem dX7_addRight_19 : decode cX7_addRight 19 = .ok (.iload_n 1, 1) := by decide +kernel
theorem dX7_addRight_20 : decode cX7_addRight 20 = .ok (.iload_n 2, 1) := by decide +kernel
theorem dX7_addRight_21 : decode cX7_addRight 21 = .ok (.invokevirtual 54, 3) := by decide +kernel
theorem dX7_addRight_24 : decode cX7_addRight 24 = .ok (.invokevirtual 60, 3) := by decide +kernel
theorem dX7_addRight_27 : decode cX7_addRight 27 = .ok (.ireturn, 1) := by decide +kernel
theorem dX7_removeLeft_0 : decode cX7_removeLeft 0 = .ok (.aload_n 0, 1) := by decide +kernel
theorem dX7_removeLeft_1 : decode cX7_removeLeft 1 = .ok (.getfield 24, 3) := by decide +kernel
theorem dX7_removeLeft_4 : decode cX7_removeLeft 4 = .ok (.aload_n 0, 1) := by decide +kernel
theorem dX7_removeLeft_5 : decode cX7_removeLeft 5 = .ok (.getfield 20, 3) := by decide +kernel
theorem dX7_removeLeft_8 : decode cX7_removeLeft 8 = .ok (.invokevirtual 44, 3) := by decide +kernel
theorem dX7_removeLeft_11 : decode cX7_removeLeft 11 = .ok (.aload_n 0, 1) := by decide +kernel
theorem dX7_removeLeft_12 : decode cX7_removeLeft 12 = .ok (.aload_n 0, 1) := by decide +kernel
theorem dX7_removeLeft_13 : decode cX7_removeLeft 13 = .ok (.getfield 20, 3) := by decide +kernel
theorem dX7_removeLeft_16 : decode cX7_removeLeft 16 = .ok (.getfield 48, 3) := by decide +kernel
theorem dX7_removeLeft_19 : decode cX7_removeLeft 19 = .ok (.iload_n 1, 1) := by decide +kernel
theorem dX7_removeLeft_20 : decode cX7_removeLeft 20 = .ok (.invokevirtual 67, 3) := by decide +kernel
theorem dX7_removeLeft_23 : decode cX7_removeLeft 23 = .ok (.invokevirtual 60, 3) := by decide +kernel
theorem dX7_removeLeft_26 : decode cX7_removeLeft 26 = .ok (.ireturn, 1) := by decide +kernel
theorem dX7_removeRight_0 : decode cX7_removeRight 0 = .ok (.aload_n 0, 1) := by decide +kernel
theorem dX7_removeRight_1 : decode cX7_removeRight 1 = .ok (.getfield 24, 3) := by decide +kernel
theorem dX7_removeRight_4 : decode cX7_removeRight 4 = .ok (.aload_n 0, 1) := by decide +kernel
theorem dX7_removeRight_5 : decode cX7_removeRight 5 = .ok (.getfield 20, 3) := by decide +kernel
theorem dX7_removeRight_8 : decode cX7_removeRight 8 = .ok (.invokevirtual 44, 3) := by decide +kernel
theorem dX7_removeRight_11 : decode cX7_removeRight 11 = .ok (.aload_n 0, 1) := by decide +kernel
theorem dX7_removeRight_12 : decode cX7_removeRight 12 = .ok (.aload_n 0, 1) := by decide +kernel
theorem dX7_removeRight_13 : decode cX7_removeRight 13 = .ok (.getfield 20, 3) := by decide +kernel
theorem dX7_removeRight_16 : decode cX7_removeRight 16 = .ok (.getfield 64, 3) := by decide +kernel
theorem dX7_removeRight_19 : decode cX7_removeRight 19 = .ok (.iload_n 1, 1) := by decide +kernel
theorem dX7_removeRight_20 : decode cX7_removeRight 20 = .ok (.invokevirtual 67, 3) := by decide +kernel
theorem dX7_removeRight_23 : decode cX7_removeRight 23 = .ok (.invokevirtual 60, 3) := by decide +kernel
theorem dX7_removeRight_26 : decode cX7_removeRight 26 = .ok (.ireturn, 1) := by decide +kernel
theorem dX7_leftRow_0 : decode cX7_leftRow 0 = .ok (.aload_n 0, 1) := by decide +kernel
theorem dX7_leftRow_1 : decode cX7_leftRow 1 = .ok (.aload_n 0, 1) := by decide +kernel
theorem dX7_leftRow_2 : decode cX7_leftRow 2 = .ok (.getfield 20, 3) := by decide +kernel
theorem dX7_leftRow_5 : decode cX7_leftRow 5 = .ok (.getfield 48, 3) := by decide +kernel
theorem dX7_leftRow_8 : decode cX7_leftRow 8 = .ok (.iload_n 1, 1) := by decide +kernel
theorem dX7_leftRow_9 : decode cX7_leftRow 9 = .ok (.invokevirtual 70, 3) := by decide +kernel
theorem dX7_leftRow_12 : decode cX7_leftRow 12 = .ok (.invokevirtual 73, 3) := by decide +kernel
theorem dX7_leftRow_15 : decode cX7_leftRow 15 = .ok (.ireturn, 1) := by decide +kernel
theorem dX7_rightRow_0 : decode cX7_rightRow 0 = .ok (.aload_n 0, 1) := by decide +kernel
theorem dX7_rightRow_1 : decode cX7_rightRow 1 = .ok (.aload_n 0, 1) := by decide +kernel
theorem dX7_rightRow_2 : decode cX7_rightRow 2 = .ok (.getfield 20, 3) := by decide +kernel
theorem dX7_rightRow_5 : decode cX7_rightRow 5 = .ok (.getfield 64, 3) := by decide +kernel
theorem dX7_rightRow_8 : decode cX7_rightRow 8 = .ok (.iload_n 1, 1) := by decide +kernel
theorem dX7_rightRow_9 : decode cX7_rightRow 9 = .ok (.invokevirtual 70, 3) := by decide +kernel
theorem dX7_rightRow_12 : decode cX7_rightRow 12 = .ok (.invokevirtual 73, 3) := by decide +kernel
theorem dX7_rightRow_15 : decode cX7_rightRow 15 = .ok (.ireturn, 1) := by decide +kernel
theorem dX7_addFilter_0 : decode cX7_addFilter 0 = .ok (.aload_n 0, 1) := by decide +kernel
theorem dX7_addFilter_1 : decode cX7_addFilter 1 = .ok (.getfield 24, 3) := by decide +kernel
theorem dX7_addFilter_4 : decode cX7_addFilter 4 = .ok (.aload_n 0, 1) := by decide +kernel
theorem dX7_addFilter_5 : decode cX7_addFilter 5 = .ok (.getfield 20, 3) := by decide +kernel
theorem dX7_addFilter_8 : decode cX7_addFilter 8 = .ok (.invokevirtual 44, 3) := by decide +kernel
theorem dX7_addFilter_11 : decode cX7_addFilter 11 = .ok (.aload_n 0, 1) := by decide +kernel
theorem dX7_addFilter_12 : decode cX7_addFilter 12 = .ok (.aload_n 0, 1) := by decide +kernel
theorem dX7_addFilter_13 : decode cX7_addFilter 13 = .ok (.getfield 20, 3) := by decide +kernel
theorem dX7_addFilter_16 : decode cX7_addFilter 16 = .ok (.getfield 76, 3) := by decide +kernel
theorem dX7_addFilter_19 : decode cX7_addFilter 19 = .ok (.iload_n 1, 1) := by decide +kernel
theorem dX7_addFilter_20 : decode cX7_addFilter 20 = .ok (.iload_n 2, 1) := by decide +kernel
theorem dX7_addFilter_21 : decode cX7_addFilter 21 = .ok (.iload_n 3, 1) := by decide +kernel
theorem dX7_addFilter_22 : decode cX7_addFilter 22 = .ok (.iload 4, 2) := by decide +kernel
theorem dX7_addFilter_24 : decode cX7_addFilter 24 = .ok (.invokevirtual 80, 3) := by decide +kernel
theorem dX7_addFilter_27 : decode cX7_addFilter 27 = .ok (.invokevirtual 60, 3) := by decide +kernel
theorem dX7_addFilter_30 : decode cX7_addFilter 30 = .ok (.ireturn, 1) := by decide +kernel
theorem dX7_removeFilter_0 : decode cX7_removeFilter 0 = .ok (.aload_n 0, 1) := by decide +kernel
theorem dX7_removeFilter_1 : decode cX7_removeFilter 1 = .ok (.getfield 24, 3) := by decide +kernel
theorem dX7_removeFilter_4 : decode cX7_removeFilter 4 = .ok (.aload_n 0, 1) := by decide +kernel
theorem dX7_removeFilter_5 : decode cX7_removeFilter 5 = .ok (.getfield 20, 3) := by decide +kernel
theorem dX7_removeFilter_8 : decode cX7_removeFilter 8 = .ok (.invokevirtual 44, 3) := by decide +kernel
theorem dX7_removeFilter_11 : decode cX7_removeFilter 11 = .ok (.aload_n 0, 1) := by decide +kernel
theorem dX7_removeFilter_12 : decode cX7_removeFilter 12 = .ok (.aload_n 0, 1) := by decide +kernel
theorem dX7_removeFilter_13 : decode cX7_removeFilter 13 = .ok (.getfield 20, 3) := by decide +kernel
theorem dX7_removeFilter_16 : decode cX7_removeFilter 16 = .ok (.getfield 76, 3) := by decide +kernel
theorem dX7_removeFilter_19 : decode cX7_removeFilter 19 = .ok (.iload_n 1, 1) := by decide +kernel
theorem dX7_removeFilter_20 : decode cX7_removeFilter 20 = .ok (.invokevirtual 85, 3) := by decide +kernel
theorem dX7_removeFilter_23 : decode cX7_removeFilter 23 = .ok (.invokevirtual 60, 3) := by decide +kernel
theorem dX7_removeFilter_26 : decode cX7_removeFilter 26 = .ok (.ireturn, 1) := by decide +kernel
theorem dX7_setConstant_0 : decode cX7_setConstant 0 = .ok (.aload_n 0, 1) := by decide +kernel
theorem dX7_setConstant_1 : decode cX7_setConstant 1 = .ok (.getfield 24, 3) := by decide +kernel
theorem dX7_setConstant_4 : decode cX7_setConstant 4 = .ok (.aload_n 0, 1) := by decide +kernel
theorem dX7_setConstant_5 : decode cX7_setConstant 5 = .ok (.getfield 20, 3) := by decide +kernel
theorem dX7_setConstant_8 : decode cX7_setConstant 8 = .ok (.invokevirtual 44, 3) := by decide +kernel
theorem dX7_setConstant_11 : decode cX7_setConstant 11 = .ok (.aload_n 0, 1) := by decide +kernel
theorem dX7_setConstant_12 : decode cX7_setConstant 12 = .ok (.aload_n 0, 1) := by decide +kernel
theorem dX7_setConstant_13 : decode cX7_setConstant 13 = .ok (.getfield 20, 3) := by decide +kernel
theorem dX7_setConstant_16 : decode cX7_setConstant 16 = .ok (.getfield 76, 3) := by decide +kernel
theorem dX7_setConstant_19 : decode cX7_setConstant 19 = .ok (.iload_n 1, 1) := by decide +kernel
theorem dX7_setConstant_20 : decode cX7_setConstant 20 = .ok (.iload_n 2, 1) := by decide +kernel
theorem dX7_setConstant_21 : decode cX7_setConstant 21 = .ok (.invokevirtual 86, 3) := by decide +kernel
theorem dX7_setConstant_24 : decode cX7_setConstant 24 = .ok (.invokevirtual 60, 3) := by decide +kernel
theorem dX7_setConstant_27 : decode cX7_setConstant 27 = .ok (.ireturn, 1) := by decide +kernel
theorem dX7_filterCount_0 : decode cX7_filterCount 0 = .ok (.aload_n 0, 1) := by decide +kernel
theorem dX7_filterCount_1 : decode cX7_filterCount 1 = .ok (.getfield 20, 3) := by decide +kernel
theorem dX7_filterCount_4 : decode cX7_filterCount 4 = .ok (.getfield 76, 3) := by decide +kernel
theorem dX7_filterCount_7 : decode cX7_filterCount 7 = .ok (.getfield 89, 3) := by decide +kernel
theorem dX7_filterCount_10 : decode cX7_filterCount 10 = .ok (.ireturn, 1) := by decide +kernel
theorem dX7_constant_0 : decode cX7_constant 0 = .ok (.aload_n 0, 1) := by decide +kernel
theorem dX7_constant_1 : decode cX7_constant 1 = .ok (.aload_n 0, 1) := by decide +kernel
theorem dX7_constant_2 : decode cX7_constant 2 = .ok (.getfield 20, 3) := by decide +kernel
theorem dX7_constant_5 : decode cX7_constant 5 = .ok (.getfield 76, 3) := by decide +kernel
theorem dX7_constant_8 : decode cX7_constant 8 = .ok (.iload_n 1, 1) := by decide +kernel
theorem dX7_constant_9 : decode cX7_constant 9 = .ok (.invokevirtual 93, 3) := by decide +kernel
theorem dX7_constant_12 : decode cX7_constant 12 = .ok (.invokevirtual 73, 3) := by decide +kernel
theorem dX7_constant_15 : decode cX7_constant 15 = .ok (.ireturn, 1) := by decide +kernel
theorem dX7_acceptedBy_0 : decode cX7_acceptedBy 0 = .ok (.aload_n 0, 1) := by decide +kernel
theorem dX7_acceptedBy_1 : decode cX7_acceptedBy 1 = .ok (.getfield 20, 3) := by decide +kernel
theorem dX7_acceptedBy_4 : decode cX7_acceptedBy 4 = .ok (.getfield 76, 3) := by decide +kernel
theorem dX7_acceptedBy_7 : decode cX7_acceptedBy 7 = .ok (.iload_n 1, 1) := by decide +kernel
theorem dX7_acceptedBy_8 : decode cX7_acceptedBy 8 = .ok (.invokevirtual 96, 3) := by decide +kernel
theorem dX7_acceptedBy_11 : decode cX7_acceptedBy 11 = .ok (.ifCond .ne 11, 3) := by decide +kernel
theorem dX7_acceptedBy_14 : decode cX7_acceptedBy 14 = .ok (.aload_n 0, 1) := by decide +kernel
theorem dX7_acceptedBy_15 : decode cX7_acceptedBy 15 = .ok (.sipush (-10002), 3) := by decide +kernel
theorem dX7_acceptedBy_18 : decode cX7_acceptedBy 18 = .ok (.invokevirtual 73, 3) := by decide +kernel
theorem dX7_acceptedBy_21 : decode cX7_acceptedBy 21 = .ok (.ireturn, 1) := by decide +kernel
theorem dX7_acceptedBy_22 : decode cX7_acceptedBy 22 = .ok (.aload_n 0, 1) := by decide +kernel
theorem dX7_acceptedBy_23 : decode cX7_acceptedBy 23 = .ok (.getfield 12, 3) := by decide +kernel
theorem dX7_acceptedBy_26 : decode cX7_acceptedBy 26 = .ok (.iload_n 1, 1) := by decide +kernel
theorem dX7_acceptedBy_27 : decode cX7_acceptedBy 27 = .ok (.invokevirtual 100, 3) := by decide +kernel
theorem dX7_acceptedBy_30 : decode cX7_acceptedBy 30 = .ok (.ireturn, 1) := by decide +kernel
theorem dX7_answerCount_0 : decode cX7_answerCount 0 = .ok (.aload_n 0, 1) := by decide +kernel
theorem dX7_answerCount_1 : decode cX7_answerCount 1 = .ok (.getfield 12, 3) := by decide +kernel
theorem dX7_answerCount_4 : decode cX7_answerCount 4 = .ok (.invokevirtual 103, 3) := by decide +kernel
theorem dX7_answerCount_7 : decode cX7_answerCount 7 = .ok (.ireturn, 1) := by decide +kernel
theorem dX7_answer_0 : decode cX7_answer 0 = .ok (.aload_n 0, 1) := by decide +kernel
theorem dX7_answer_1 : decode cX7_answer 1 = .ok (.iload_n 1, 1) := by decide +kernel
theorem dX7_answer_2 : decode cX7_answer 2 = .ok (.ifCond .ge 9, 3) := by decide +kernel
theorem dX7_answer_5 : decode cX7_answer 5 = .ok (.sipush (-10002), 3) := by decide +kernel
theorem dX7_answer_8 : decode cX7_answer 8 = .ok (.goto 11, 3) := by decide +kernel
theorem dX7_answer_11 : decode cX7_answer 11 = .ok (.aload_n 0, 1) := by decide +kernel
theorem dX7_answer_12 : decode cX7_answer 12 = .ok (.getfield 12, 3) := by decide +kernel
theorem dX7_answer_15 : decode cX7_answer 15 = .ok (.iload_n 1, 1) := by decide +kernel
theorem dX7_answer_16 : decode cX7_answer 16 = .ok (.invokevirtual 107, 3) := by decide +kernel
theorem dX7_answer_19 : decode cX7_answer 19 = .ok (.invokevirtual 73, 3) := by decide +kernel
theorem dX7_answer_22 : decode cX7_answer 22 = .ok (.ireturn, 1) := by decide +kernel
theorem dX7_matchCount_0 : decode cX7_matchCount 0 = .ok (.aload_n 0, 1) := by decide +kernel
theorem dX7_matchCount_1 : decode cX7_matchCount 1 = .ok (.iload_n 1, 1) := by decide +kernel
theorem dX7_matchCount_2 : decode cX7_matchCount 2 = .ok (.iload_n 2, 1) := by decide +kernel
theorem dX7_matchCount_3 : decode cX7_matchCount 3 = .ok (.invokestatic 110, 3) := by decide +kernel
theorem dX7_matchCount_6 : decode cX7_matchCount 6 = .ok (.ifCond .eq 15, 3) := by decide +kernel
theorem dX7_matchCount_9 : decode cX7_matchCount 9 = .ok (.aload_n 0, 1) := by decide +kernel
theorem dX7_matchCount_10 : decode cX7_matchCount 10 = .ok (.getfield 12, 3) := by decide +kernel
theorem dX7_matchCount_13 : decode cX7_matchCount 13 = .ok (.iload_n 1, 1) := by decide +kernel
theorem dX7_matchCount_14 : decode cX7_matchCount 14 = .ok (.iload_n 2, 1) := by decide +kernel
theorem dX7_matchCount_15 : decode cX7_matchCount 15 = .ok (.invokevirtual 114, 3) := by decide +kernel
theorem dX7_matchCount_18 : decode cX7_matchCount 18 = .ok (.goto 6, 3) := by decide +kernel
theorem dX7_matchCount_21 : decode cX7_matchCount 21 = .ok (.sipush (-10002), 3) := by decide +kernel
theorem dX7_matchCount_24 : decode cX7_matchCount 24 = .ok (.invokevirtual 73, 3) := by decide +kernel
theorem dX7_matchCount_27 : decode cX7_matchCount 27 = .ok (.ireturn, 1) := by decide +kernel
theorem dX7_blame_0 : decode cX7_blame 0 = .ok (.aload_n 0, 1) := by decide +kernel
theorem dX7_blame_1 : decode cX7_blame 1 = .ok (.iload_n 1, 1) := by decide +kernel
theorem dX7_blame_2 : decode cX7_blame 2 = .ok (.iload_n 2, 1) := by decide +kernel
theorem dX7_blame_3 : decode cX7_blame 3 = .ok (.invokestatic 110, 3) := by decide +kernel
theorem dX7_blame_6 : decode cX7_blame 6 = .ok (.ifCond .eq 15, 3) := by decide +kernel
theorem dX7_blame_9 : decode cX7_blame 9 = .ok (.aload_n 0, 1) := by decide +kernel
theorem dX7_blame_10 : decode cX7_blame 10 = .ok (.getfield 12, 3) := by decide +kernel
theorem dX7_blame_13 : decode cX7_blame 13 = .ok (.iload_n 1, 1) := by decide +kernel
theorem dX7_blame_14 : decode cX7_blame 14 = .ok (.iload_n 2, 1) := by decide +kernel
theorem dX7_blame_15 : decode cX7_blame 15 = .ok (.invokevirtual 117, 3) := by decide +kernel
theorem dX7_blame_18 : decode cX7_blame 18 = .ok (.goto 6, 3) := by decide +kernel
theorem dX7_blame_21 : decode cX7_blame 21 = .ok (.sipush (-10002), 3) := by decide +kernel
theorem dX7_blame_24 : decode cX7_blame 24 = .ok (.invokevirtual 73, 3) := by decide +kernel
theorem dX7_blame_27 : decode cX7_blame 27 = .ok (.ireturn, 1) := by decide +kernel
theorem dX7_filtersToRemove_0 : decode cX7_filtersToRemove 0 = .ok (.aload_n 0, 1) := by decide +kernel
theorem dX7_filtersToRemove_1 : decode cX7_filtersToRemove 1 = .ok (.iload_n 1, 1) := by decide +kernel
theorem dX7_filtersToRemove_2 : decode cX7_filtersToRemove 2 = .ok (.iload_n 2, 1) := by decide +kernel
theorem dX7_filtersToRemove_3 : decode cX7_filtersToRemove 3 = .ok (.invokestatic 110, 3) := by decide +kernel
theorem dX7_filtersToRemove_6 : decode cX7_filtersToRemove 6 = .ok (.ifCond .eq 15, 3) := by decide +kernel
theorem dX7_filtersToRemove_9 : decode cX7_filtersToRemove 9 = .ok (.aload_n 0, 1) := by decide +kernel
theorem dX7_filtersToRemove_10 : decode cX7_filtersToRemove 10 = .ok (.getfield 12, 3) := by decide +kernel
theorem dX7_filtersToRemove_13 : decode cX7_filtersToRemove 13 = .ok (.iload_n 1, 1) := by decide +kernel
theorem dX7_filtersToRemove_14 : decode cX7_filtersToRemove 14 = .ok (.iload_n 2, 1) := by decide +kernel
theorem dX7_filtersToRemove_15 : decode cX7_filtersToRemove 15 = .ok (.invokevirtual 120, 3) := by decide +kernel
theorem dX7_filtersToRemove_18 : decode cX7_filtersToRemove 18 = .ok (.goto 6, 3) := by decide +kernel
theorem dX7_filtersToRemove_21 : decode cX7_filtersToRemove 21 = .ok (.sipush (-10002), 3) := by decide +kernel
theorem dX7_filtersToRemove_24 : decode cX7_filtersToRemove 24 = .ok (.invokevirtual 73, 3) := by decide +kernel
theorem dX7_filtersToRemove_27 : decode cX7_filtersToRemove 27 = .ok (.ireturn, 1) := by decide +kernel
theorem dX7_repairedConstant_0 : decode cX7_repairedConstant 0 = .ok (.iload_n 1, 1) := by decide +kernel
theorem dX7_repairedConstant_1 : decode cX7_repairedConstant 1 = .ok (.iload_n 2, 1) := by decide +kernel
theorem dX7_repairedConstant_2 : decode cX7_repairedConstant 2 = .ok (.invokestatic 110, 3) := by decide +kernel
theorem dX7_repairedConstant_5 : decode cX7_repairedConstant 5 = .ok (.ifCond .eq 17, 3) := by decide +kernel
theorem dX7_repairedConstant_8 : decode cX7_repairedConstant 8 = .ok (.aload_n 0, 1) := by decide +kernel
theorem dX7_repairedConstant_9 : decode cX7_repairedConstant 9 = .ok (.getfield 20, 3) := by decide +kernel
theorem dX7_repairedConstant_12 : decode cX7_repairedConstant 12 = .ok (.getfield 76, 3) := by decide +kernel
theorem dX7_repairedConstant_15 : decode cX7_repairedConstant 15 = .ok (.iload_n 3, 1) := by decide +kernel
theorem dX7_repairedConstant_16 : decode cX7_repairedConstant 16 = .ok (.invokevirtual 96, 3) := by decide +kernel
theorem dX7_repairedConstant_19 : decode cX7_repairedConstant 19 = .ok (.ifCond .ne 11, 3) := by decide +kernel
theorem dX7_repairedConstant_22 : decode cX7_repairedConstant 22 = .ok (.aload_n 0, 1) := by decide +kernel
theorem dX7_repairedConstant_23 : decode cX7_repairedConstant 23 = .ok (.sipush (-10002), 3) := by decide +kernel
theorem dX7_repairedConstant_26 : decode cX7_repairedConstant 26 = .ok (.invokevirtual 73, 3) := by decide +kernel
theorem dX7_repairedConstant_29 : decode cX7_repairedConstant 29 = .ok (.ireturn, 1) := by decide +kernel
theorem dX7_repairedConstant_30 : decode cX7_repairedConstant 30 = .ok (.aload_n 0, 1) := by decide +kernel
theorem dX7_repairedConstant_31 : decode cX7_repairedConstant 31 = .ok (.getfield 12, 3) := by decide +kernel
theorem dX7_repairedConstant_34 : decode cX7_repairedConstant 34 = .ok (.iload_n 1, 1) := by decide +kernel
theorem dX7_repairedConstant_35 : decode cX7_repairedConstant 35 = .ok (.iload_n 2, 1) := by decide +kernel
theorem dX7_repairedConstant_36 : decode cX7_repairedConstant 36 = .ok (.iload_n 3, 1) := by decide +kernel
theorem dX7_repairedConstant_37 : decode cX7_repairedConstant 37 = .ok (.invokevirtual 123, 3) := by decide +kernel
theorem dX7_repairedConstant_40 : decode cX7_repairedConstant 40 = .ok (.ireturn, 1) := by decide +kernel
theorem dX7_missingRows_0 : decode cX7_missingRows 0 = .ok (.aload_n 0, 1) := by decide +kernel
theorem dX7_missingRows_1 : decode cX7_missingRows 1 = .ok (.iload_n 1, 1) := by decide +kernel
theorem dX7_missingRows_2 : decode cX7_missingRows 2 = .ok (.iload_n 2, 1) := by decide +kernel
theorem dX7_missingRows_3 : decode cX7_missingRows 3 = .ok (.invokestatic 110, 3) := by decide +kernel
theorem dX7_missingRows_6 : decode cX7_missingRows 6 = .ok (.ifCond .eq 15, 3) := by decide +kernel
theorem dX7_missingRows_9 : decode cX7_missingRows 9 = .ok (.aload_n 0, 1) := by decide +kernel
theorem dX7_missingRows_10 : decode cX7_missingRows 10 = .ok (.getfield 12, 3) := by decide +kernel
theorem dX7_missingRows_13 : decode cX7_missingRows 13 = .ok (.iload_n 1, 1) := by decide +kernel
theorem dX7_missingRows_14 : decode cX7_missingRows 14 = .ok (.iload_n 2, 1) := by decide +kernel
theorem dX7_missingRows_15 : decode cX7_missingRows 15 = .ok (.invokevirtual 127, 3) := by decide +kernel
theorem dX7_missingRows_18 : decode cX7_missingRows 18 = .ok (.goto 6, 3) := by decide +kernel
theorem dX7_missingRows_21 : decode cX7_missingRows 21 = .ok (.sipush (-10002), 3) := by decide +kernel
theorem dX7_missingRows_24 : decode cX7_missingRows 24 = .ok (.invokevirtual 73, 3) := by decide +kernel
theorem dX7_missingRows_27 : decode cX7_missingRows 27 = .ok (.ireturn, 1) := by decide +kernel
theorem dX7_missingB_0 : decode cX7_missingB 0 = .ok (.aload_n 0, 1) := by decide +kernel
theorem dX7_missingB_1 : decode cX7_missingB 1 = .ok (.iload_n 1, 1) := by decide +kernel
theorem dX7_missingB_2 : decode cX7_missingB 2 = .ok (.iload_n 2, 1) := by decide +kernel
theorem dX7_missingB_3 : decode cX7_missingB 3 = .ok (.invokestatic 110, 3) := by decide +kernel
theorem dX7_missingB_6 : decode cX7_missingB 6 = .ok (.ifCond .eq 15, 3) := by decide +kernel
theorem dX7_missingB_9 : decode cX7_missingB 9 = .ok (.aload_n 0, 1) := by decide +kernel
theorem dX7_missingB_10 : decode cX7_missingB 10 = .ok (.getfield 12, 3) := by decide +kernel
theorem dX7_missingB_13 : decode cX7_missingB 13 = .ok (.iload_n 1, 1) := by decide +kernel
theorem dX7_missingB_14 : decode cX7_missingB 14 = .ok (.iload_n 2, 1) := by decide +kernel
theorem dX7_missingB_15 : decode cX7_missingB 15 = .ok (.invokevirtual 130, 3) := by decide +kernel
theorem dX7_missingB_18 : decode cX7_missingB 18 = .ok (.goto 6, 3) := by decide +kernel
theorem dX7_missingB_21 : decode cX7_missingB 21 = .ok (.sipush (-10002), 3) := by decide +kernel
theorem dX7_missingB_24 : decode cX7_missingB 24 = .ok (.invokevirtual 73, 3) := by decide +kernel
theorem dX7_missingB_27 : decode cX7_missingB 27 = .ok (.ireturn, 1) := by decide +kernel
theorem dX7_insertMissing_0 : decode cX7_insertMissing 0 = .ok (.aload_n 0, 1) := by decide +kernel
theorem dX7_insertMissing_1 : decode cX7_insertMissing 1 = .ok (.getfield 24, 3) := by decide +kernel
theorem dX7_insertMissing_4 : decode cX7_insertMissing 4 = .ok (.aload_n 0, 1) := by decide +kernel
theorem dX7_insertMissing_5 : decode cX7_insertMissing 5 = .ok (.getfield 20, 3) := by decide +kernel
theorem dX7_insertMissing_8 : decode cX7_insertMissing 8 = .ok (.invokevirtual 44, 3) := by decide +kernel
theorem dX7_insertMissing_11 : decode cX7_insertMissing 11 = .ok (.aload_n 0, 1) := by decide +kernel
theorem dX7_insertMissing_12 : decode cX7_insertMissing 12 = .ok (.iload_n 1, 1) := by decide +kernel
theorem dX7_insertMissing_13 : decode cX7_insertMissing 13 = .ok (.iload_n 2, 1) := by decide +kernel
theorem dX7_insertMissing_14 : decode cX7_insertMissing 14 = .ok (.invokestatic 110, 3) := by decide +kernel
theorem dX7_insertMissing_17 : decode cX7_insertMissing 17 = .ok (.ifCond .eq 12, 3) := by decide +kernel
theorem dX7_insertMissing_20 : decode cX7_insertMissing 20 = .ok (.aload_n 0, 1) := by decide +kernel
theorem dX7_insertMissing_21 : decode cX7_insertMissing 21 = .ok (.iload_n 1, 1) := by decide +kernel
theorem dX7_insertMissing_22 : decode cX7_insertMissing 22 = .ok (.iload_n 2, 1) := by decide +kernel
theorem dX7_insertMissing_23 : decode cX7_insertMissing 23 = .ok (.invokevirtual 133, 3) := by decide +kernel
theorem dX7_insertMissing_26 : decode cX7_insertMissing 26 = .ok (.goto 6, 3) := by decide +kernel
theorem dX7_insertMissing_29 : decode cX7_insertMissing 29 = .ok (.sipush (-10002), 3) := by decide +kernel
theorem dX7_insertMissing_32 : decode cX7_insertMissing 32 = .ok (.invokevirtual 60, 3) := by decide +kernel
theorem dX7_insertMissing_35 : decode cX7_insertMissing 35 = .ok (.ireturn, 1) := by decide +kernel
theorem dX7_loosen_0 : decode cX7_loosen 0 = .ok (.aload_n 0, 1) := by decide +kernel
theorem dX7_loosen_1 : decode cX7_loosen 1 = .ok (.getfield 24, 3) := by decide +kernel
theorem dX7_loosen_4 : decode cX7_loosen 4 = .ok (.aload_n 0, 1) := by decide +kernel
theorem dX7_loosen_5 : decode cX7_loosen 5 = .ok (.getfield 20, 3) := by decide +kernel
theorem dX7_loosen_8 : decode cX7_loosen 8 = .ok (.invokevirtual 44, 3) := by decide +kernel
theorem dX7_loosen_11 : decode cX7_loosen 11 = .ok (.aload_n 0, 1) := by decide +kernel
theorem dX7_loosen_12 : decode cX7_loosen 12 = .ok (.iload_n 1, 1) := by decide +kernel
theorem dX7_loosen_13 : decode cX7_loosen 13 = .ok (.iload_n 2, 1) := by decide +kernel
theorem dX7_loosen_14 : decode cX7_loosen 14 = .ok (.invokestatic 110, 3) := by decide +kernel
theorem dX7_loosen_17 : decode cX7_loosen 17 = .ok (.ifCond .eq 12, 3) := by decide +kernel
theorem dX7_loosen_20 : decode cX7_loosen 20 = .ok (.aload_n 0, 1) := by decide +kernel
theorem dX7_loosen_21 : decode cX7_loosen 21 = .ok (.iload_n 1, 1) := by decide +kernel
theorem dX7_loosen_22 : decode cX7_loosen 22 = .ok (.iload_n 2, 1) := by decide +kernel
theorem dX7_loosen_23 : decode cX7_loosen 23 = .ok (.invokevirtual 136, 3) := by decide +kernel
theorem dX7_loosen_26 : decode cX7_loosen 26 = .ok (.goto 6, 3) := by decide +kernel
theorem dX7_loosen_29 : decode cX7_loosen 29 = .ok (.sipush (-10002), 3) := by decide +kernel
theorem dX7_loosen_32 : decode cX7_loosen 32 = .ok (.invokevirtual 60, 3) := by decide +kernel
theorem dX7_loosen_35 : decode cX7_loosen 35 = .ok (.ireturn, 1) := by decide +kernel
theorem dX7_addWish_0 : decode cX7_addWish 0 = .ok (.aload_n 0, 1) := by decide +kernel
theorem dX7_addWish_1 : decode cX7_addWish 1 = .ok (.getfield 24, 3) := by decide +kernel
theorem dX7_addWish_4 : decode cX7_addWish 4 = .ok (.aload_n 0, 1) := by decide +kernel
theorem dX7_addWish_5 : decode cX7_addWish 5 = .ok (.getfield 20, 3) := by decide +kernel
theorem dX7_addWish_8 : decode cX7_addWish 8 = .ok (.invokevirtual 44, 3) := by decide +kernel
theorem dX7_addWish_11 : decode cX7_addWish 11 = .ok (.aload_n 0, 1) := by decide +kernel
theorem dX7_addWish_12 : decode cX7_addWish 12 = .ok (.aload_n 0, 1) := by decide +kernel
theorem dX7_addWish_13 : decode cX7_addWish 13 = .ok (.getfield 20, 3) := by decide +kernel
theorem dX7_addWish_16 : decode cX7_addWish 16 = .ok (.getfield 139, 3) := by decide +kernel
theorem dX7_addWish_19 : decode cX7_addWish 19 = .ok (.iload_n 1, 1) := by decide +kernel
theorem dX7_addWish_20 : decode cX7_addWish 20 = .ok (.iload_n 2, 1) := by decide +kernel
theorem dX7_addWish_21 : decode cX7_addWish 21 = .ok (.invokevirtual 54, 3) := by decide +kernel
theorem dX7_addWish_24 : decode cX7_addWish 24 = .ok (.invokevirtual 60, 3) := by decide +kernel
theorem dX7_addWish_27 : decode cX7_addWish 27 = .ok (.ireturn, 1) := by decide +kernel
theorem dX7_clearWishes_0 : decode cX7_clearWishes 0 = .ok (.aload_n 0, 1) := by decide +kernel
theorem dX7_clearWishes_1 : decode cX7_clearWishes 1 = .ok (.getfield 24, 3) := by decide +kernel
theorem dX7_clearWishes_4 : decode cX7_clearWishes 4 = .ok (.aload_n 0, 1) := by decide +kernel
theorem dX7_clearWishes_5 : decode cX7_clearWishes 5 = .ok (.getfield 20, 3) := by decide +kernel
theorem dX7_clearWishes_8 : decode cX7_clearWishes 8 = .ok (.invokevirtual 44, 3) := by decide +kernel
theorem dX7_clearWishes_11 : decode cX7_clearWishes 11 = .ok (.aload_n 0, 1) := by decide +kernel
theorem dX7_clearWishes_12 : decode cX7_clearWishes 12 = .ok (.aload_n 0, 1) := by decide +kernel
theorem dX7_clearWishes_13 : decode cX7_clearWishes 13 = .ok (.getfield 20, 3) := by decide +kernel
theorem dX7_clearWishes_16 : decode cX7_clearWishes 16 = .ok (.getfield 139, 3) := by decide +kernel
theorem dX7_clearWishes_19 : decode cX7_clearWishes 19 = .ok (.invokevirtual 142, 3) := by decide +kernel
theorem dX7_clearWishes_22 : decode cX7_clearWishes 22 = .ok (.invokevirtual 60, 3) := by decide +kernel
theorem dX7_clearWishes_25 : decode cX7_clearWishes 25 = .ok (.ireturn, 1) := by decide +kernel
theorem dX7_satisfiedWishes_0 : decode cX7_satisfiedWishes 0 = .ok (.aload_n 0, 1) := by decide +kernel
theorem dX7_satisfiedWishes_1 : decode cX7_satisfiedWishes 1 = .ok (.getfield 12, 3) := by decide +kernel
theorem dX7_satisfiedWishes_4 : decode cX7_satisfiedWishes 4 = .ok (.invokevirtual 145, 3) := by decide +kernel
theorem dX7_satisfiedWishes_7 : decode cX7_satisfiedWishes 7 = .ok (.ireturn, 1) := by decide +kernel
theorem dX7_filtersToRemoveForWishes_0 : decode cX7_filtersToRemoveForWishes 0 = .ok (.aload_n 0, 1) := by decide +kernel
theorem dX7_filtersToRemoveForWishes_1 : decode cX7_filtersToRemoveForWishes 1 = .ok (.getfield 12, 3) := by decide +kernel
theorem dX7_filtersToRemoveForWishes_4 : decode cX7_filtersToRemoveForWishes 4 = .ok (.invokevirtual 148, 3) := by decide +kernel
theorem dX7_filtersToRemoveForWishes_7 : decode cX7_filtersToRemoveForWishes 7 = .ok (.ireturn, 1) := by decide +kernel
theorem dX7_append_0 : decode cX7_append 0 = .ok (.aload_n 0, 1) := by decide +kernel
theorem dX7_append_1 : decode cX7_append 1 = .ok (.aload_n 0, 1) := by decide +kernel
theorem dX7_append_2 : decode cX7_append 2 = .ok (.getfield 39, 3) := by decide +kernel
theorem dX7_append_5 : decode cX7_append 5 = .ok (.iload_n 1, 1) := by decide +kernel
theorem dX7_append_6 : decode cX7_append 6 = .ok (.invokevirtual 151, 3) := by decide +kernel
theorem dX7_append_9 : decode cX7_append 9 = .ok (.invokevirtual 73, 3) := by decide +kernel
theorem dX7_append_12 : decode cX7_append 12 = .ok (.ireturn, 1) := by decide +kernel
theorem dX7_clearText_0 : decode cX7_clearText 0 = .ok (.aload_n 0, 1) := by decide +kernel
theorem dX7_clearText_1 : decode cX7_clearText 1 = .ok (.getfield 39, 3) := by decide +kernel
theorem dX7_clearText_4 : decode cX7_clearText 4 = .ok (.invokevirtual 156, 3) := by decide +kernel
theorem dX7_clearText_7 : decode cX7_clearText 7 = .ok (.ireturn, 1) := by decide +kernel
theorem dX7_runScript_0 : decode cX7_runScript 0 = .ok (.aload_n 0, 1) := by decide +kernel
theorem dX7_runScript_1 : decode cX7_runScript 1 = .ok (.getfield 31, 3) := by decide +kernel
theorem dX7_runScript_4 : decode cX7_runScript 4 = .ok (.invokevirtual 159, 3) := by decide +kernel
theorem dX7_runScript_7 : decode cX7_runScript 7 = .ok (.ifCond .ne 14, 3) := by decide +kernel
theorem dX7_runScript_10 : decode cX7_runScript 10 = .ok (.bipush (-10), 2) := by decide +kernel
theorem dX7_runScript_12 : decode cX7_runScript 12 = .ok (.aload_n 0, 1) := by decide +kernel
theorem dX7_runScript_13 : decode cX7_runScript 13 = .ok (.getfield 31, 3) := by decide +kernel
theorem dX7_runScript_16 : decode cX7_runScript 16 = .ok (.getfield 163, 3) := by decide +kernel
theorem dX7_runScript_19 : decode cX7_runScript 19 = .ok (.isub, 1) := by decide +kernel
theorem dX7_runScript_20 : decode cX7_runScript 20 = .ok (.ireturn, 1) := by decide +kernel
theorem dX7_runScript_21 : decode cX7_runScript 21 = .ok (.aload_n 0, 1) := by decide +kernel
theorem dX7_runScript_22 : decode cX7_runScript 22 = .ok (.getfield 24, 3) := by decide +kernel
theorem dX7_runScript_25 : decode cX7_runScript 25 = .ok (.aload_n 0, 1) := by decide +kernel
theorem dX7_runScript_26 : decode cX7_runScript 26 = .ok (.getfield 20, 3) := by decide +kernel
theorem dX7_runScript_29 : decode cX7_runScript 29 = .ok (.invokevirtual 44, 3) := by decide +kernel
theorem dX7_runScript_32 : decode cX7_runScript 32 = .ok (.iconst 0, 1) := by decide +kernel
theorem dX7_runScript_33 : decode cX7_runScript 33 = .ok (.istore_n 1, 1) := by decide +kernel
theorem dX7_runScript_34 : decode cX7_runScript 34 = .ok (.iload_n 1, 1) := by decide +kernel
theorem dX7_runScript_35 : decode cX7_runScript 35 = .ok (.aload_n 0, 1) := by decide +kernel
theorem dX7_runScript_36 : decode cX7_runScript 36 = .ok (.getfield 31, 3) := by decide +kernel
theorem dX7_runScript_39 : decode cX7_runScript 39 = .ok (.getfield 166, 3) := by decide +kernel
theorem dX7_runScript_42 : decode cX7_runScript 42 = .ok (.if_icmp .ge 37, 3) := by decide +kernel
theorem dX7_runScript_45 : decode cX7_runScript 45 = .ok (.aload_n 0, 1) := by decide +kernel
theorem dX7_runScript_46 : decode cX7_runScript 46 = .ok (.iload_n 1, 1) := by decide +kernel
theorem dX7_runScript_47 : decode cX7_runScript 47 = .ok (.invokevirtual 167, 3) := by decide +kernel
theorem dX7_runScript_50 : decode cX7_runScript 50 = .ok (.invokestatic 170, 3) := by decide +kernel
theorem dX7_runScript_53 : decode cX7_runScript 53 = .ok (.ifCond .eq 20, 3) := by decide +kernel
theorem dX7_runScript_56 : decode cX7_runScript 56 = .ok (.aload_n 0, 1) := by decide +kernel
theorem dX7_runScript_57 : decode cX7_runScript 57 = .ok (.getfield 24, 3) := by decide +kernel
theorem dX7_runScript_60 : decode cX7_runScript 60 = .ok (.aload_n 0, 1) := by decide +kernel
theorem dX7_runScript_61 : decode cX7_runScript 61 = .ok (.getfield 20, 3) := by decide +kernel
theorem dX7_runScript_64 : decode cX7_runScript 64 = .ok (.invokevirtual 173, 3) := by decide +kernel
theorem dX7_runScript_67 : decode cX7_runScript 67 = .ok (.sipush (-1000), 3) := by decide +kernel
theorem dX7_runScript_70 : decode cX7_runScript 70 = .ok (.iload_n 1, 1) := by decide +kernel
theorem dX7_runScript_71 : decode cX7_runScript 71 = .ok (.isub, 1) := by decide +kernel
theorem dX7_runScript_72 : decode cX7_runScript 72 = .ok (.ireturn, 1) := by decide +kernel
theorem dX7_runScript_73 : decode cX7_runScript 73 = .ok (.iinc 1 1, 3) := by decide +kernel
theorem dX7_runScript_76 : decode cX7_runScript 76 = .ok (.goto (-42), 3) := by decide +kernel
theorem dX7_runScript_79 : decode cX7_runScript 79 = .ok (.aload_n 0, 1) := by decide +kernel
theorem dX7_runScript_80 : decode cX7_runScript 80 = .ok (.getfield 24, 3) := by decide +kernel
theorem dX7_runScript_83 : decode cX7_runScript 83 = .ok (.invokevirtual 176, 3) := by decide +kernel
theorem dX7_runScript_86 : decode cX7_runScript 86 = .ok (.aload_n 0, 1) := by decide +kernel
theorem dX7_runScript_87 : decode cX7_runScript 87 = .ok (.getfield 31, 3) := by decide +kernel
theorem dX7_runScript_90 : decode cX7_runScript 90 = .ok (.getfield 166, 3) := by decide +kernel
theorem dX7_runScript_93 : decode cX7_runScript 93 = .ok (.ireturn, 1) := by decide +kernel
theorem dX7_undo_0 : decode cX7_undo 0 = .ok (.aload_n 0, 1) := by decide +kernel
theorem dX7_undo_1 : decode cX7_undo 1 = .ok (.aload_n 0, 1) := by decide +kernel
theorem dX7_undo_2 : decode cX7_undo 2 = .ok (.getfield 24, 3) := by decide +kernel
theorem dX7_undo_5 : decode cX7_undo 5 = .ok (.aload_n 0, 1) := by decide +kernel
theorem dX7_undo_6 : decode cX7_undo 6 = .ok (.getfield 20, 3) := by decide +kernel
theorem dX7_undo_9 : decode cX7_undo 9 = .ok (.invokevirtual 179, 3) := by decide +kernel
theorem dX7_undo_12 : decode cX7_undo 12 = .ok (.invokevirtual 73, 3) := by decide +kernel
theorem dX7_undo_15 : decode cX7_undo 15 = .ok (.ireturn, 1) := by decide +kernel
theorem dX7_errorCount_0 : decode cX7_errorCount 0 = .ok (.iload_n 1, 1) := by decide +kernel
theorem dX7_errorCount_1 : decode cX7_errorCount 1 = .ok (.ifCond .lt 8, 3) := by decide +kernel
theorem dX7_errorCount_4 : decode cX7_errorCount 4 = .ok (.iload_n 1, 1) := by decide +kernel
theorem dX7_errorCount_5 : decode cX7_errorCount 5 = .ok (.iconst 3, 1) := by decide +kernel
theorem dX7_errorCount_6 : decode cX7_errorCount 6 = .ok (.if_icmp .lt 11, 3) := by decide +kernel
theorem dX7_errorCount_9 : decode cX7_errorCount 9 = .ok (.aload_n 0, 1) := by decide +kernel
theorem dX7_errorCount_10 : decode cX7_errorCount 10 = .ok (.sipush (-10002), 3) := by decide +kernel
theorem dX7_errorCount_13 : decode cX7_errorCount 13 = .ok (.invokevirtual 73, 3) := by decide +kernel
theorem dX7_errorCount_16 : decode cX7_errorCount 16 = .ok (.ireturn, 1) := by decide +kernel
theorem dX7_errorCount_17 : decode cX7_errorCount 17 = .ok (.aload_n 0, 1) := by decide +kernel
theorem dX7_errorCount_18 : decode cX7_errorCount 18 = .ok (.getfield 40, 3) := by decide +kernel
theorem dX7_errorCount_21 : decode cX7_errorCount 21 = .ok (.iload_n 1, 1) := by decide +kernel
theorem dX7_errorCount_22 : decode cX7_errorCount 22 = .ok (.iaload, 1) := by decide +kernel
theorem dX7_errorCount_23 : decode cX7_errorCount 23 = .ok (.ireturn, 1) := by decide +kernel
theorem dX7_digest_0 : decode cX7_digest 0 = .ok (.ldc2_w 183, 3) := by decide +kernel
theorem dX7_digest_3 : decode cX7_digest 3 = .ok (.lstore_n 1, 1) := by decide +kernel
theorem dX7_digest_4 : decode cX7_digest 4 = .ok (.iconst 0, 1) := by decide +kernel
theorem dX7_digest_5 : decode cX7_digest 5 = .ok (.istore_n 3, 1) := by decide +kernel
theorem dX7_digest_6 : decode cX7_digest 6 = .ok (.iload_n 3, 1) := by decide +kernel
theorem dX7_digest_7 : decode cX7_digest 7 = .ok (.iconst 3, 1) := by decide +kernel
theorem dX7_digest_8 : decode cX7_digest 8 = .ok (.if_icmp .ge 21, 3) := by decide +kernel
theorem dX7_digest_11 : decode cX7_digest 11 = .ok (.lload_n 1, 1) := by decide +kernel
theorem dX7_digest_12 : decode cX7_digest 12 = .ok (.aload_n 0, 1) := by decide +kernel
theorem dX7_digest_13 : decode cX7_digest 13 = .ok (.getfield 40, 3) := by decide +kernel
theorem dX7_digest_16 : decode cX7_digest 16 = .ok (.iload_n 3, 1) := by decide +kernel
theorem dX7_digest_17 : decode cX7_digest 17 = .ok (.iaload, 1) := by decide +kernel
theorem dX7_digest_18 : decode cX7_digest 18 = .ok (.i2l, 1) := by decide +kernel
theorem dX7_digest_19 : decode cX7_digest 19 = .ok (.invokestatic 185, 3) := by decide +kernel
theorem dX7_digest_22 : decode cX7_digest 22 = .ok (.lstore_n 1, 1) := by decide +kernel
theorem dX7_digest_23 : decode cX7_digest 23 = .ok (.iinc 3 1, 3) := by decide +kernel
theorem dX7_digest_26 : decode cX7_digest 26 = .ok (.goto (-20), 3) := by decide +kernel
theorem dX7_digest_29 : decode cX7_digest 29 = .ok (.lload_n 1, 1) := by decide +kernel
theorem dX7_digest_30 : decode cX7_digest 30 = .ok (.aload_n 0, 1) := by decide +kernel
theorem dX7_digest_31 : decode cX7_digest 31 = .ok (.getfield 39, 3) := by decide +kernel
theorem dX7_digest_34 : decode cX7_digest 34 = .ok (.getfield 189, 3) := by decide +kernel
theorem dX7_digest_37 : decode cX7_digest 37 = .ok (.i2l, 1) := by decide +kernel
theorem dX7_digest_38 : decode cX7_digest 38 = .ok (.invokestatic 185, 3) := by decide +kernel
theorem dX7_digest_41 : decode cX7_digest 41 = .ok (.lstore_n 1, 1) := by decide +kernel
theorem dX7_digest_42 : decode cX7_digest 42 = .ok (.lload_n 1, 1) := by decide +kernel
theorem dX7_digest_43 : decode cX7_digest 43 = .ok (.aload_n 0, 1) := by decide +kernel
theorem dX7_digest_44 : decode cX7_digest 44 = .ok (.getfield 24, 3) := by decide +kernel
theorem dX7_digest_47 : decode cX7_digest 47 = .ok (.getfield 192, 3) := by decide +kernel
theorem dX7_digest_50 : decode cX7_digest 50 = .ok (.i2l, 1) := by decide +kernel
theorem dX7_digest_51 : decode cX7_digest 51 = .ok (.invokestatic 185, 3) := by decide +kernel
theorem dX7_digest_54 : decode cX7_digest 54 = .ok (.lstore_n 1, 1) := by decide +kernel
theorem dX7_digest_55 : decode cX7_digest 55 = .ok (.lload_n 1, 1) := by decide +kernel
theorem dX7_digest_56 : decode cX7_digest 56 = .ok (.aload_n 0, 1) := by decide +kernel
theorem dX7_digest_57 : decode cX7_digest 57 = .ok (.getfield 20, 3) := by decide +kernel
theorem dX7_digest_60 : decode cX7_digest 60 = .ok (.getfield 48, 3) := by decide +kernel
theorem dX7_digest_63 : decode cX7_digest 63 = .ok (.invokestatic 195, 3) := by decide +kernel
theorem dX7_digest_66 : decode cX7_digest 66 = .ok (.lstore_n 1, 1) := by decide +kernel
theorem dX7_digest_67 : decode cX7_digest 67 = .ok (.lload_n 1, 1) := by decide +kernel
theorem dX7_digest_68 : decode cX7_digest 68 = .ok (.aload_n 0, 1) := by decide +kernel
theorem dX7_digest_69 : decode cX7_digest 69 = .ok (.getfield 20, 3) := by decide +kernel
theorem dX7_digest_72 : decode cX7_digest 72 = .ok (.getfield 64, 3) := by decide +kernel
theorem dX7_digest_75 : decode cX7_digest 75 = .ok (.invokestatic 195, 3) := by decide +kernel
theorem dX7_digest_78 : decode cX7_digest 78 = .ok (.lstore_n 1, 1) := by decide +kernel
theorem dX7_digest_79 : decode cX7_digest 79 = .ok (.aload_n 0, 1) := by decide +kernel
theorem dX7_digest_80 : decode cX7_digest 80 = .ok (.lload_n 1, 1) := by decide +kernel
theorem dX7_digest_81 : decode cX7_digest 81 = .ok (.invokevirtual 199, 3) := by decide +kernel
theorem dX7_digest_84 : decode cX7_digest 84 = .ok (.lstore_n 1, 1) := by decide +kernel
theorem dX7_digest_85 : decode cX7_digest 85 = .ok (.aload_n 0, 1) := by decide +kernel
theorem dX7_digest_86 : decode cX7_digest 86 = .ok (.lload_n 1, 1) := by decide +kernel
theorem dX7_digest_87 : decode cX7_digest 87 = .ok (.invokevirtual 203, 3) := by decide +kernel
theorem dX7_digest_90 : decode cX7_digest 90 = .ok (.lstore_n 1, 1) := by decide +kernel
theorem dX7_digest_91 : decode cX7_digest 91 = .ok (.aload_n 0, 1) := by decide +kernel
theorem dX7_digest_92 : decode cX7_digest 92 = .ok (.lload_n 1, 1) := by decide +kernel
theorem dX7_digest_93 : decode cX7_digest 93 = .ok (.invokevirtual 206, 3) := by decide +kernel
theorem dX7_digest_96 : decode cX7_digest 96 = .ok (.lstore_n 1, 1) := by decide +kernel
theorem dX7_digest_97 : decode cX7_digest 97 = .ok (.lload_n 1, 1) := by decide +kernel
theorem dX7_digest_98 : decode cX7_digest 98 = .ok (.aload_n 0, 1) := by decide +kernel
theorem dX7_digest_99 : decode cX7_digest 99 = .ok (.getfield 12, 3) := by decide +kernel
theorem dX7_digest_102 : decode cX7_digest 102 = .ok (.invokevirtual 148, 3) := by decide +kernel
theorem dX7_digest_105 : decode cX7_digest 105 = .ok (.i2l, 1) := by decide +kernel
theorem dX7_digest_106 : decode cX7_digest 106 = .ok (.invokestatic 185, 3) := by decide +kernel
theorem dX7_digest_109 : decode cX7_digest 109 = .ok (.lreturn, 1) := by decide +kernel
theorem dX7_mix_0 : decode cX7_mix 0 = .ok (.ldc2_w 209, 3) := by decide +kernel
theorem dX7_mix_3 : decode cX7_mix 3 = .ok (.lload_n 0, 1) := by decide +kernel
theorem dX7_mix_4 : decode cX7_mix 4 = .ok (.lmul, 1) := by decide +kernel
theorem dX7_mix_5 : decode cX7_mix 5 = .ok (.lload_n 2, 1) := by decide +kernel
theorem dX7_mix_6 : decode cX7_mix 6 = .ok (.ladd, 1) := by decide +kernel
theorem dX7_mix_7 : decode cX7_mix 7 = .ok (.lreturn, 1) := by decide +kernel
theorem dX7_mixPairs_0 : decode cX7_mixPairs 0 = .ok (.lload_n 0, 1) := by decide +kernel
theorem dX7_mixPairs_1 : decode cX7_mixPairs 1 = .ok (.aload_n 2, 1) := by decide +kernel
theorem dX7_mixPairs_2 : decode cX7_mixPairs 2 = .ok (.getfield 211, 3) := by decide +kernel
theorem dX7_mixPairs_5 : decode cX7_mixPairs 5 = .ok (.i2l, 1) := by decide +kernel
theorem dX7_mixPairs_6 : decode cX7_mixPairs 6 = .ok (.invokestatic 185, 3) := by decide +kernel
theorem dX7_mixPairs_9 : decode cX7_mixPairs 9 = .ok (.lstore_n 3, 1) := by decide +kernel
theorem dX7_mixPairs_10 : decode cX7_mixPairs 10 = .ok (.iconst 0, 1) := by decide +kernel
theorem dX7_mixPairs_11 : decode cX7_mixPairs 11 = .ok (.istore 5, 2) := by decide +kernel
theorem dX7_mixPairs_13 : decode cX7_mixPairs 13 = .ok (.iload 5, 2) := by decide +kernel
theorem dX7_mixPairs_15 : decode cX7_mixPairs 15 = .ok (.aload_n 2, 1) := by decide +kernel
theorem dX7_mixPairs_16 : decode cX7_mixPairs 16 = .ok (.getfield 211, 3) := by decide +kernel
theorem dX7_mixPairs_19 : decode cX7_mixPairs 19 = .ok (.if_icmp .ge 21, 3) := by decide +kernel
theorem dX7_mixPairs_22 : decode cX7_mixPairs 22 = .ok (.lload_n 3, 1) := by decide +kernel
theorem dX7_mixPairs_23 : decode cX7_mixPairs 23 = .ok (.aload_n 2, 1) := by decide +kernel
theorem dX7_mixPairs_24 : decode cX7_mixPairs 24 = .ok (.iload 5, 2) := by decide +kernel
theorem dX7_mixPairs_26 : decode cX7_mixPairs 26 = .ok (.invokevirtual 70, 3) := by decide +kernel
theorem dX7_mixPairs_29 : decode cX7_mixPairs 29 = .ok (.i2l, 1) := by decide +kernel
theorem dX7_mixPairs_30 : decode cX7_mixPairs 30 = .ok (.invokestatic 185, 3) := by decide +kernel
theorem dX7_mixPairs_33 : decode cX7_mixPairs 33 = .ok (.lstore_n 3, 1) := by decide +kernel
theorem dX7_mixPairs_34 : decode cX7_mixPairs 34 = .ok (.iinc 5 1, 3) := by decide +kernel
theorem dX7_mixPairs_37 : decode cX7_mixPairs 37 = .ok (.goto (-24), 3) := by decide +kernel
theorem dX7_mixPairs_40 : decode cX7_mixPairs 40 = .ok (.lload_n 3, 1) := by decide +kernel
theorem dX7_mixPairs_41 : decode cX7_mixPairs 41 = .ok (.lreturn, 1) := by decide +kernel
theorem dX7_mixFilters_0 : decode cX7_mixFilters 0 = .ok (.aload_n 0, 1) := by decide +kernel
theorem dX7_mixFilters_1 : decode cX7_mixFilters 1 = .ok (.getfield 20, 3) := by decide +kernel
theorem dX7_mixFilters_4 : decode cX7_mixFilters 4 = .ok (.getfield 76, 3) := by decide +kernel
theorem dX7_mixFilters_7 : decode cX7_mixFilters 7 = .ok (.astore_n 3, 1) := by decide +kernel
theorem dX7_mixFilters_8 : decode cX7_mixFilters 8 = .ok (.lload_n 1, 1) := by decide +kernel
theorem dX7_mixFilters_9 : decode cX7_mixFilters 9 = .ok (.aload_n 3, 1) := by decide +kernel
theorem dX7_mixFilters_10 : decode cX7_mixFilters 10 = .ok (.getfield 89, 3) := by decide +kernel
theorem dX7_mixFilters_13 : decode cX7_mixFilters 13 = .ok (.i2l, 1) := by decide +kernel
theorem dX7_mixFilters_14 : decode cX7_mixFilters 14 = .ok (.invokestatic 185, 3) := by decide +kernel
theorem dX7_mixFilters_17 : decode cX7_mixFilters 17 = .ok (.lstore 4, 2) := by decide +kernel
theorem dX7_mixFilters_19 : decode cX7_mixFilters 19 = .ok (.iconst 0, 1) := by decide +kernel
theorem dX7_mixFilters_20 : decode cX7_mixFilters 20 = .ok (.istore 6, 2) := by decide +kernel
theorem dX7_mixFilters_22 : decode cX7_mixFilters 22 = .ok (.iload 6, 2) := by decide +kernel
theorem dX7_mixFilters_24 : decode cX7_mixFilters 24 = .ok (.aload_n 3, 1) := by decide +kernel
theorem dX7_mixFilters_25 : decode cX7_mixFilters 25 = .ok (.getfield 89, 3) := by decide +kernel
theorem dX7_mixFilters_28 : decode cX7_mixFilters 28 = .ok (.if_icmp .ge 93, 3) := by decide +kernel
theorem dX7_mixFilters_31 : decode cX7_mixFilters 31 = .ok (.iload 6, 2) := by decide +kernel
theorem dX7_mixFilters_33 : decode cX7_mixFilters 33 = .ok (.bipush 6, 2) := by decide +kernel
theorem dX7_mixFilters_35 : decode cX7_mixFilters 35 = .ok (.if_icmp .ge 86, 3) := by decide +kernel
theorem dX7_mixFilters_38 : decode cX7_mixFilters 38 = .ok (.lload 4, 2) := by decide +kernel
theorem dX7_mixFilters_40 : decode cX7_mixFilters 40 = .ok (.aload_n 3, 1) := by decide +kernel
theorem dX7_mixFilters_41 : decode cX7_mixFilters 41 = .ok (.getfield 212, 3) := by decide +kernel
theorem dX7_mixFilters_44 : decode cX7_mixFilters 44 = .ok (.iload 6, 2) := by decide +kernel
theorem dX7_mixFilters_46 : decode cX7_mixFilters 46 = .ok (.iaload, 1) := by decide +kernel
theorem dX7_mixFilters_47 : decode cX7_mixFilters 47 = .ok (.i2l, 1) := by decide +kernel
theorem dX7_mixFilters_48 : decode cX7_mixFilters 48 = .ok (.invokestatic 185, 3) := by decide +kernel
theorem dX7_mixFilters_51 : decode cX7_mixFilters 51 = .ok (.lstore 4, 2) := by decide +kernel
theorem dX7_mixFilters_53 : decode cX7_mixFilters 53 = .ok (.lload 4, 2) := by decide +kernel
theorem dX7_mixFilters_55 : decode cX7_mixFilters 55 = .ok (.aload_n 3, 1) := by decide +kernel
theorem dX7_mixFilters_56 : decode cX7_mixFilters 56 = .ok (.getfield 215, 3) := by decide +kernel
theorem dX7_mixFilters_59 : decode cX7_mixFilters 59 = .ok (.iload 6, 2) := by decide +kernel
theorem dX7_mixFilters_61 : decode cX7_mixFilters 61 = .ok (.iaload, 1) := by decide +kernel
theorem dX7_mixFilters_62 : decode cX7_mixFilters 62 = .ok (.i2l, 1) := by decide +kernel
theorem dX7_mixFilters_63 : decode cX7_mixFilters 63 = .ok (.invokestatic 185, 3) := by decide +kernel
theorem dX7_mixFilters_66 : decode cX7_mixFilters 66 = .ok (.lstore 4, 2) := by decide +kernel
theorem dX7_mixFilters_68 : decode cX7_mixFilters 68 = .ok (.lload 4, 2) := by decide +kernel
theorem dX7_mixFilters_70 : decode cX7_mixFilters 70 = .ok (.aload_n 3, 1) := by decide +kernel
theorem dX7_mixFilters_71 : decode cX7_mixFilters 71 = .ok (.getfield 218, 3) := by decide +kernel
theorem dX7_mixFilters_74 : decode cX7_mixFilters 74 = .ok (.iload 6, 2) := by decide +kernel
theorem dX7_mixFilters_76 : decode cX7_mixFilters 76 = .ok (.iaload, 1) := by decide +kernel
theorem dX7_mixFilters_77 : decode cX7_mixFilters 77 = .ok (.i2l, 1) := by decide +kernel
theorem dX7_mixFilters_78 : decode cX7_mixFilters 78 = .ok (.invokestatic 185, 3) := by decide +kernel
theorem dX7_mixFilters_81 : decode cX7_mixFilters 81 = .ok (.lstore 4, 2) := by decide +kernel
theorem dX7_mixFilters_83 : decode cX7_mixFilters 83 = .ok (.lload 4, 2) := by decide +kernel
theorem dX7_mixFilters_85 : decode cX7_mixFilters 85 = .ok (.aload_n 3, 1) := by decide +kernel
theorem dX7_mixFilters_86 : decode cX7_mixFilters 86 = .ok (.getfield 221, 3) := by decide +kernel
theorem dX7_mixFilters_89 : decode cX7_mixFilters 89 = .ok (.iload 6, 2) := by decide +kernel
theorem dX7_mixFilters_91 : decode cX7_mixFilters 91 = .ok (.iaload, 1) := by decide +kernel
theorem dX7_mixFilters_92 : decode cX7_mixFilters 92 = .ok (.i2l, 1) := by decide +kernel
theorem dX7_mixFilters_93 : decode cX7_mixFilters 93 = .ok (.invokestatic 185, 3) := by decide +kernel
theorem dX7_mixFilters_96 : decode cX7_mixFilters 96 = .ok (.lstore 4, 2) := by decide +kernel
theorem dX7_mixFilters_98 : decode cX7_mixFilters 98 = .ok (.lload 4, 2) := by decide +kernel
theorem dX7_mixFilters_100 : decode cX7_mixFilters 100 = .ok (.aload_n 0, 1) := by decide +kernel
theorem dX7_mixFilters_101 : decode cX7_mixFilters 101 = .ok (.getfield 12, 3) := by decide +kernel
theorem dX7_mixFilters_104 : decode cX7_mixFilters 104 = .ok (.iload 6, 2) := by decide +kernel
theorem dX7_mixFilters_106 : decode cX7_mixFilters 106 = .ok (.invokevirtual 100, 3) := by decide +kernel
theorem dX7_mixFilters_109 : decode cX7_mixFilters 109 = .ok (.i2l, 1) := by decide +kernel
theorem dX7_mixFilters_110 : decode cX7_mixFilters 110 = .ok (.invokestatic 185, 3) := by decide +kernel
theorem dX7_mixFilters_113 : decode cX7_mixFilters 113 = .ok (.lstore 4, 2) := by decide +kernel
theorem dX7_mixFilters_115 : decode cX7_mixFilters 115 = .ok (.iinc 6 1, 3) := by decide +kernel
theorem dX7_mixFilters_118 : decode cX7_mixFilters 118 = .ok (.goto (-96), 3) := by decide +kernel
theorem dX7_mixFilters_121 : decode cX7_mixFilters 121 = .ok (.lload 4, 2) := by decide +kernel
theorem dX7_mixFilters_123 : decode cX7_mixFilters 123 = .ok (.lreturn, 1) := by decide +kernel
theorem dX7_mixAnswers_0 : decode cX7_mixAnswers 0 = .ok (.lload_n 1, 1) := by decide +kernel
theorem dX7_mixAnswers_1 : decode cX7_mixAnswers 1 = .ok (.aload_n 0, 1) := by decide +kernel
theorem dX7_mixAnswers_2 : decode cX7_mixAnswers 2 = .ok (.getfield 12, 3) := by decide +kernel
theorem dX7_mixAnswers_5 : decode cX7_mixAnswers 5 = .ok (.invokevirtual 103, 3) := by decide +kernel
theorem dX7_mixAnswers_8 : decode cX7_mixAnswers 8 = .ok (.i2l, 1) := by decide +kernel
theorem dX7_mixAnswers_9 : decode cX7_mixAnswers 9 = .ok (.invokestatic 185, 3) := by decide +kernel
theorem dX7_mixAnswers_12 : decode cX7_mixAnswers 12 = .ok (.lstore_n 3, 1) := by decide +kernel
theorem dX7_mixAnswers_13 : decode cX7_mixAnswers 13 = .ok (.iconst 0, 1) := by decide +kernel
theorem dX7_mixAnswers_14 : decode cX7_mixAnswers 14 = .ok (.istore 5, 2) := by decide +kernel
theorem dX7_mixAnswers_16 : decode cX7_mixAnswers 16 = .ok (.iload 5, 2) := by decide +kernel
theorem dX7_mixAnswers_18 : decode cX7_mixAnswers 18 = .ok (.bipush 100, 2) := by decide +kernel
theorem dX7_mixAnswers_20 : decode cX7_mixAnswers 20 = .ok (.if_icmp .ge 30, 3) := by decide +kernel
theorem dX7_mixAnswers_23 : decode cX7_mixAnswers 23 = .ok (.aload_n 0, 1) := by decide +kernel
theorem dX7_mixAnswers_24 : decode cX7_mixAnswers 24 = .ok (.getfield 12, 3) := by decide +kernel
theorem dX7_mixAnswers_27 : decode cX7_mixAnswers 27 = .ok (.getfield 224, 3) := by decide +kernel
theorem dX7_mixAnswers_30 : decode cX7_mixAnswers 30 = .ok (.iload 5, 2) := by decide +kernel
theorem dX7_mixAnswers_32 : decode cX7_mixAnswers 32 = .ok (.iaload, 1) := by decide +kernel
theorem dX7_mixAnswers_33 : decode cX7_mixAnswers 33 = .ok (.ifCond .le 11, 3) := by decide +kernel
theorem dX7_mixAnswers_36 : decode cX7_mixAnswers 36 = .ok (.lload_n 3, 1) := by decide +kernel
theorem dX7_mixAnswers_37 : decode cX7_mixAnswers 37 = .ok (.iload 5, 2) := by decide +kernel
theorem dX7_mixAnswers_39 : decode cX7_mixAnswers 39 = .ok (.i2l, 1) := by decide +kernel
theorem dX7_mixAnswers_40 : decode cX7_mixAnswers 40 = .ok (.invokestatic 185, 3) := by decide +kernel
theorem dX7_mixAnswers_43 : decode cX7_mixAnswers 43 = .ok (.lstore_n 3, 1) := by decide +kernel
theorem dX7_mixAnswers_44 : decode cX7_mixAnswers 44 = .ok (.iinc 5 1, 3) := by decide +kernel
theorem dX7_mixAnswers_47 : decode cX7_mixAnswers 47 = .ok (.goto (-31), 3) := by decide +kernel
theorem dX7_mixAnswers_50 : decode cX7_mixAnswers 50 = .ok (.lload_n 3, 1) := by decide +kernel
theorem dX7_mixAnswers_51 : decode cX7_mixAnswers 51 = .ok (.lreturn, 1) := by decide +kernel
theorem dX7_mixWishes_0 : decode cX7_mixWishes 0 = .ok (.aload_n 0, 1) := by decide +kernel
theorem dX7_mixWishes_1 : decode cX7_mixWishes 1 = .ok (.getfield 20, 3) := by decide +kernel
theorem dX7_mixWishes_4 : decode cX7_mixWishes 4 = .ok (.getfield 139, 3) := by decide +kernel
theorem dX7_mixWishes_7 : decode cX7_mixWishes 7 = .ok (.astore_n 3, 1) := by decide +kernel
theorem dX7_mixWishes_8 : decode cX7_mixWishes 8 = .ok (.lload_n 1, 1) := by decide +kernel
theorem dX7_mixWishes_9 : decode cX7_mixWishes 9 = .ok (.aload_n 3, 1) := by decide +kernel
theorem dX7_mixWishes_10 : decode cX7_mixWishes 10 = .ok (.getfield 211, 3) := by decide +kernel
theorem dX7_mixWishes_13 : decode cX7_mixWishes 13 = .ok (.i2l, 1) := by decide +kernel
theorem dX7_mixWishes_14 : decode cX7_mixWishes 14 = .ok (.invokestatic 185, 3) := by decide +kernel
theorem dX7_mixWishes_17 : decode cX7_mixWishes 17 = .ok (.lstore 4, 2) := by decide +kernel
theorem dX7_mixWishes_19 : decode cX7_mixWishes 19 = .ok (.iconst 0, 1) := by decide +kernel
theorem dX7_mixWishes_20 : decode cX7_mixWishes 20 = .ok (.istore 6, 2) := by decide +kernel
theorem dX7_mixWishes_22 : decode cX7_mixWishes 22 = .ok (.iload 6, 2) := by decide +kernel
theorem dX7_mixWishes_24 : decode cX7_mixWishes 24 = .ok (.aload_n 3, 1) := by decide +kernel
theorem dX7_mixWishes_25 : decode cX7_mixWishes 25 = .ok (.getfield 211, 3) := by decide +kernel
theorem dX7_mixWishes_28 : decode cX7_mixWishes 28 = .ok (.if_icmp .ge 117, 3) := by decide +kernel
theorem dX7_mixWishes_31 : decode cX7_mixWishes 31 = .ok (.aload_n 3, 1) := by decide +kernel
theorem dX7_mixWishes_32 : decode cX7_mixWishes 32 = .ok (.iload 6, 2) := by decide +kernel
theorem dX7_mixWishes_34 : decode cX7_mixWishes 34 = .ok (.invokevirtual 70, 3) := by decide +kernel
theorem dX7_mixWishes_37 : decode cX7_mixWishes 37 = .ok (.istore 7, 2) := by decide +kernel
theorem dX7_mixWishes_39 : decode cX7_mixWishes 39 = .ok (.iload 7, 2) := by decide +kernel
theorem dX7_mixWishes_41 : decode cX7_mixWishes 41 = .ok (.bipush 10, 2) := by decide +kernel
theorem dX7_mixWishes_43 : decode cX7_mixWishes 43 = .ok (.idiv, 1) := by decide +kernel
theorem dX7_mixWishes_44 : decode cX7_mixWishes 44 = .ok (.istore 8, 2) := by decide +kernel
theorem dX7_mixWishes_46 : decode cX7_mixWishes 46 = .ok (.iload 7, 2) := by decide +kernel
theorem dX7_mixWishes_48 : decode cX7_mixWishes 48 = .ok (.bipush 10, 2) := by decide +kernel
theorem dX7_mixWishes_50 : decode cX7_mixWishes 50 = .ok (.irem, 1) := by decide +kernel
theorem dX7_mixWishes_51 : decode cX7_mixWishes 51 = .ok (.istore 9, 2) := by decide +kernel
theorem dX7_mixWishes_53 : decode cX7_mixWishes 53 = .ok (.lload 4, 2) := by decide +kernel
theorem dX7_mixWishes_55 : decode cX7_mixWishes 55 = .ok (.iload 7, 2) := by decide +kernel
theorem dX7_mixWishes_57 : decode cX7_mixWishes 57 = .ok (.i2l, 1) := by decide +kernel
theorem dX7_mixWishes_58 : decode cX7_mixWishes 58 = .ok (.invokestatic 185, 3) := by decide +kernel
theorem dX7_mixWishes_61 : decode cX7_mixWishes 61 = .ok (.lstore 4, 2) := by decide +kernel
theorem dX7_mixWishes_63 : decode cX7_mixWishes 63 = .ok (.lload 4, 2) := by decide +kernel
theorem dX7_mixWishes_65 : decode cX7_mixWishes 65 = .ok (.aload_n 0, 1) := by decide +kernel
theorem dX7_mixWishes_66 : decode cX7_mixWishes 66 = .ok (.getfield 12, 3) := by decide +kernel
theorem dX7_mixWishes_69 : decode cX7_mixWishes 69 = .ok (.iload 8, 2) := by decide +kernel
theorem dX7_mixWishes_71 : decode cX7_mixWishes 71 = .ok (.iload 9, 2) := by decide +kernel
theorem dX7_mixWishes_73 : decode cX7_mixWishes 73 = .ok (.invokevirtual 117, 3) := by decide +kernel
theorem dX7_mixWishes_76 : decode cX7_mixWishes 76 = .ok (.i2l, 1) := by decide +kernel
theorem dX7_mixWishes_77 : decode cX7_mixWishes 77 = .ok (.invokestatic 185, 3) := by decide +kernel
theorem dX7_mixWishes_80 : decode cX7_mixWishes 80 = .ok (.lstore 4, 2) := by decide +kernel
theorem dX7_mixWishes_82 : decode cX7_mixWishes 82 = .ok (.lload 4, 2) := by decide +kernel
theorem dX7_mixWishes_84 : decode cX7_mixWishes 84 = .ok (.aload_n 0, 1) := by decide +kernel
theorem dX7_mixWishes_85 : decode cX7_mixWishes 85 = .ok (.getfield 12, 3) := by decide +kernel
theorem dX7_mixWishes_88 : decode cX7_mixWishes 88 = .ok (.iload 8, 2) := by decide +kernel
theorem dX7_mixWishes_90 : decode cX7_mixWishes 90 = .ok (.iload 9, 2) := by decide +kernel
theorem dX7_mixWishes_92 : decode cX7_mixWishes 92 = .ok (.invokevirtual 120, 3) := by decide +kernel
theorem dX7_mixWishes_95 : decode cX7_mixWishes 95 = .ok (.i2l, 1) := by decide +kernel
theorem dX7_mixWishes_96 : decode cX7_mixWishes 96 = .ok (.invokestatic 185, 3) := by decide +kernel
theorem dX7_mixWishes_99 : decode cX7_mixWishes 99 = .ok (.lstore 4, 2) := by decide +kernel
theorem dX7_mixWishes_101 : decode cX7_mixWishes 101 = .ok (.lload 4, 2) := by decide +kernel
theorem dX7_mixWishes_103 : decode cX7_mixWishes 103 = .ok (.aload_n 0, 1) := by decide +kernel
theorem dX7_mixWishes_104 : decode cX7_mixWishes 104 = .ok (.getfield 12, 3) := by decide +kernel
theorem dX7_mixWishes_107 : decode cX7_mixWishes 107 = .ok (.iload 8, 2) := by decide +kernel
theorem dX7_mixWishes_109 : decode cX7_mixWishes 109 = .ok (.iload 9, 2) := by decide +kernel
theorem dX7_mixWishes_111 : decode cX7_mixWishes 111 = .ok (.invokevirtual 127, 3) := by decide +kernel
theorem dX7_mixWishes_114 : decode cX7_mixWishes 114 = .ok (.i2l, 1) := by decide +kernel
theorem dX7_mixWishes_115 : decode cX7_mixWishes 115 = .ok (.invokestatic 185, 3) := by decide +kernel
