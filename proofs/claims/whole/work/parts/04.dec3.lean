theorem dX14_greatest_23 : decode cX14_greatest 23 = .ok (.iaload, 1) := by decide +kernel
theorem dX14_greatest_24 : decode cX14_greatest 24 = .ok (.invokestatic 345, 3) := by decide +kernel
theorem dX14_greatest_27 : decode cX14_greatest 27 = .ok (.istore_n 2, 1) := by decide +kernel
theorem dX14_greatest_28 : decode cX14_greatest 28 = .ok (.iinc 3 1, 3) := by decide +kernel
theorem dX14_greatest_31 : decode cX14_greatest 31 = .ok (.goto (-22), 3) := by decide +kernel
theorem dX14_greatest_34 : decode cX14_greatest 34 = .ok (.iload_n 2, 1) := by decide +kernel
theorem dX14_greatest_35 : decode cX14_greatest 35 = .ok (.ireturn, 1) := by decide +kernel
theorem dX14_greatestGroup_0 : decode cX14_greatestGroup 0 = .ok (.aload_n 0, 1) := by decide +kernel
theorem dX14_greatestGroup_1 : decode cX14_greatestGroup 1 = .ok (.iconst 0, 1) := by decide +kernel
theorem dX14_greatestGroup_2 : decode cX14_greatestGroup 2 = .ok (.putfield 73, 3) := by decide +kernel
theorem dX14_greatestGroup_5 : decode cX14_greatestGroup 5 = .ok (.iload_n 1, 1) := by decide +kernel
theorem dX14_greatestGroup_6 : decode cX14_greatestGroup 6 = .ok (.invokestatic 380, 3) := by decide +kernel
theorem dX14_greatestGroup_9 : decode cX14_greatestGroup 9 = .ok (.ifCond .eq 11, 3) := by decide +kernel
theorem dX14_greatestGroup_12 : decode cX14_greatestGroup 12 = .ok (.aload_n 0, 1) := by decide +kernel
theorem dX14_greatestGroup_13 : decode cX14_greatestGroup 13 = .ok (.iload_n 1, 1) := by decide +kernel
theorem dX14_greatestGroup_14 : decode cX14_greatestGroup 14 = .ok (.invokevirtual 398, 3) := by decide +kernel
theorem dX14_greatestGroup_17 : decode cX14_greatestGroup 17 = .ok (.goto 8, 3) := by decide +kernel
theorem dX14_greatestGroup_20 : decode cX14_greatestGroup 20 = .ok (.aload_n 0, 1) := by decide +kernel
theorem dX14_greatestGroup_21 : decode cX14_greatestGroup 21 = .ok (.iconst 1, 1) := by decide +kernel
theorem dX14_greatestGroup_22 : decode cX14_greatestGroup 22 = .ok (.invokevirtual 250, 3) := by decide +kernel
theorem dX14_greatestGroup_25 : decode cX14_greatestGroup 25 = .ok (.ireturn, 1) := by decide +kernel
theorem dX14_isBridge_0 : decode cX14_isBridge 0 = .ok (.aload_n 0, 1) := by decide +kernel
theorem dX14_isBridge_1 : decode cX14_isBridge 1 = .ok (.iconst 0, 1) := by decide +kernel
theorem dX14_isBridge_2 : decode cX14_isBridge 2 = .ok (.putfield 73, 3) := by decide +kernel
theorem dX14_isBridge_5 : decode cX14_isBridge 5 = .ok (.aload_n 0, 1) := by decide +kernel
theorem dX14_isBridge_6 : decode cX14_isBridge 6 = .ok (.iload_n 1, 1) := by decide +kernel
theorem dX14_isBridge_7 : decode cX14_isBridge 7 = .ok (.invokevirtual 401, 3) := by decide +kernel
theorem dX14_isBridge_10 : decode cX14_isBridge 10 = .ok (.ifCond .eq 11, 3) := by decide +kernel
theorem dX14_isBridge_13 : decode cX14_isBridge 13 = .ok (.aload_n 0, 1) := by decide +kernel
theorem dX14_isBridge_14 : decode cX14_isBridge 14 = .ok (.iload_n 2, 1) := by decide +kernel
theorem dX14_isBridge_15 : decode cX14_isBridge 15 = .ok (.invokevirtual 401, 3) := by decide +kernel
theorem dX14_isBridge_18 : decode cX14_isBridge 18 = .ok (.ifCond .ne 9, 3) := by decide +kernel
theorem dX14_isBridge_21 : decode cX14_isBridge 21 = .ok (.aload_n 0, 1) := by decide +kernel
theorem dX14_isBridge_22 : decode cX14_isBridge 22 = .ok (.iconst 1, 1) := by decide +kernel
theorem dX14_isBridge_23 : decode cX14_isBridge 23 = .ok (.invokevirtual 383, 3) := by decide +kernel
theorem dX14_isBridge_26 : decode cX14_isBridge 26 = .ok (.ireturn, 1) := by decide +kernel
theorem dX14_isBridge_27 : decode cX14_isBridge 27 = .ok (.aload_n 0, 1) := by decide +kernel
theorem dX14_isBridge_28 : decode cX14_isBridge 28 = .ok (.iload_n 1, 1) := by decide +kernel
theorem dX14_isBridge_29 : decode cX14_isBridge 29 = .ok (.iload_n 2, 1) := by decide +kernel
theorem dX14_isBridge_30 : decode cX14_isBridge 30 = .ok (.iconst 0, 1) := by decide +kernel
theorem dX14_isBridge_31 : decode cX14_isBridge 31 = .ok (.invokevirtual 314, 3) := by decide +kernel
theorem dX14_isBridge_34 : decode cX14_isBridge 34 = .ok (.iconst 1, 1) := by decide +kernel
theorem dX14_isBridge_35 : decode cX14_isBridge 35 = .ok (.if_icmp .eq 14, 3) := by decide +kernel
theorem dX14_isBridge_38 : decode cX14_isBridge 38 = .ok (.aload_n 0, 1) := by decide +kernel
theorem dX14_isBridge_39 : decode cX14_isBridge 39 = .ok (.iload_n 1, 1) := by decide +kernel
theorem dX14_isBridge_40 : decode cX14_isBridge 40 = .ok (.iload_n 2, 1) := by decide +kernel
theorem dX14_isBridge_41 : decode cX14_isBridge 41 = .ok (.iconst 1, 1) := by decide +kernel
theorem dX14_isBridge_42 : decode cX14_isBridge 42 = .ok (.invokevirtual 314, 3) := by decide +kernel
theorem dX14_isBridge_45 : decode cX14_isBridge 45 = .ok (.iconst 1, 1) := by decide +kernel
theorem dX14_isBridge_46 : decode cX14_isBridge 46 = .ok (.if_icmp .ne 7, 3) := by decide +kernel
theorem dX14_isBridge_49 : decode cX14_isBridge 49 = .ok (.iconst 1, 1) := by decide +kernel
theorem dX14_isBridge_50 : decode cX14_isBridge 50 = .ok (.goto 4, 3) := by decide +kernel
theorem dX14_isBridge_53 : decode cX14_isBridge 53 = .ok (.iconst 0, 1) := by decide +kernel
theorem dX14_isBridge_54 : decode cX14_isBridge 54 = .ok (.ireturn, 1) := by decide +kernel
theorem dX14_bridgesOf_0 : decode cX14_bridgesOf 0 = .ok (.aload_n 0, 1) := by decide +kernel
theorem dX14_bridgesOf_1 : decode cX14_bridgesOf 1 = .ok (.iconst 0, 1) := by decide +kernel
theorem dX14_bridgesOf_2 : decode cX14_bridgesOf 2 = .ok (.putfield 73, 3) := by decide +kernel
theorem dX14_bridgesOf_5 : decode cX14_bridgesOf 5 = .ok (.iload_n 1, 1) := by decide +kernel
theorem dX14_bridgesOf_6 : decode cX14_bridgesOf 6 = .ok (.invokestatic 380, 3) := by decide +kernel
theorem dX14_bridgesOf_9 : decode cX14_bridgesOf 9 = .ok (.ifCond .eq 12, 3) := by decide +kernel
theorem dX14_bridgesOf_12 : decode cX14_bridgesOf 12 = .ok (.aload_n 0, 1) := by decide +kernel
theorem dX14_bridgesOf_13 : decode cX14_bridgesOf 13 = .ok (.iload_n 1, 1) := by decide +kernel
theorem dX14_bridgesOf_14 : decode cX14_bridgesOf 14 = .ok (.iconst 1, 1) := by decide +kernel
theorem dX14_bridgesOf_15 : decode cX14_bridgesOf 15 = .ok (.invokevirtual 339, 3) := by decide +kernel
theorem dX14_bridgesOf_18 : decode cX14_bridgesOf 18 = .ok (.goto 8, 3) := by decide +kernel
theorem dX14_bridgesOf_21 : decode cX14_bridgesOf 21 = .ok (.aload_n 0, 1) := by decide +kernel
theorem dX14_bridgesOf_22 : decode cX14_bridgesOf 22 = .ok (.iconst 1, 1) := by decide +kernel
theorem dX14_bridgesOf_23 : decode cX14_bridgesOf 23 = .ok (.invokevirtual 250, 3) := by decide +kernel
theorem dX14_bridgesOf_26 : decode cX14_bridgesOf 26 = .ok (.ireturn, 1) := by decide +kernel
theorem dX14_brokenBridgesOf_0 : decode cX14_brokenBridgesOf 0 = .ok (.aload_n 0, 1) := by decide +kernel
theorem dX14_brokenBridgesOf_1 : decode cX14_brokenBridgesOf 1 = .ok (.iconst 0, 1) := by decide +kernel
theorem dX14_brokenBridgesOf_2 : decode cX14_brokenBridgesOf 2 = .ok (.putfield 73, 3) := by decide +kernel
theorem dX14_brokenBridgesOf_5 : decode cX14_brokenBridgesOf 5 = .ok (.iload_n 1, 1) := by decide +kernel
theorem dX14_brokenBridgesOf_6 : decode cX14_brokenBridgesOf 6 = .ok (.invokestatic 380, 3) := by decide +kernel
theorem dX14_brokenBridgesOf_9 : decode cX14_brokenBridgesOf 9 = .ok (.ifCond .eq 12, 3) := by decide +kernel
theorem dX14_brokenBridgesOf_12 : decode cX14_brokenBridgesOf 12 = .ok (.aload_n 0, 1) := by decide +kernel
theorem dX14_brokenBridgesOf_13 : decode cX14_brokenBridgesOf 13 = .ok (.iload_n 1, 1) := by decide +kernel
theorem dX14_brokenBridgesOf_14 : decode cX14_brokenBridgesOf 14 = .ok (.iconst 2, 1) := by decide +kernel
theorem dX14_brokenBridgesOf_15 : decode cX14_brokenBridgesOf 15 = .ok (.invokevirtual 339, 3) := by decide +kernel
theorem dX14_brokenBridgesOf_18 : decode cX14_brokenBridgesOf 18 = .ok (.goto 8, 3) := by decide +kernel
theorem dX14_brokenBridgesOf_21 : decode cX14_brokenBridgesOf 21 = .ok (.aload_n 0, 1) := by decide +kernel
theorem dX14_brokenBridgesOf_22 : decode cX14_brokenBridgesOf 22 = .ok (.iconst 1, 1) := by decide +kernel
theorem dX14_brokenBridgesOf_23 : decode cX14_brokenBridgesOf 23 = .ok (.invokevirtual 250, 3) := by decide +kernel
theorem dX14_brokenBridgesOf_26 : decode cX14_brokenBridgesOf 26 = .ok (.ireturn, 1) := by decide +kernel
theorem dX14_isFrozen_0 : decode cX14_isFrozen 0 = .ok (.aload_n 0, 1) := by decide +kernel
theorem dX14_isFrozen_1 : decode cX14_isFrozen 1 = .ok (.iconst 0, 1) := by decide +kernel
theorem dX14_isFrozen_2 : decode cX14_isFrozen 2 = .ok (.putfield 73, 3) := by decide +kernel
theorem dX14_isFrozen_5 : decode cX14_isFrozen 5 = .ok (.aload_n 0, 1) := by decide +kernel
theorem dX14_isFrozen_6 : decode cX14_isFrozen 6 = .ok (.iload_n 1, 1) := by decide +kernel
theorem dX14_isFrozen_7 : decode cX14_isFrozen 7 = .ok (.iload_n 2, 1) := by decide +kernel
theorem dX14_isFrozen_8 : decode cX14_isFrozen 8 = .ok (.invokevirtual 284, 3) := by decide +kernel
theorem dX14_isFrozen_11 : decode cX14_isFrozen 11 = .ok (.ifCond .eq 16, 3) := by decide +kernel
theorem dX14_isFrozen_14 : decode cX14_isFrozen 14 = .ok (.aload_n 0, 1) := by decide +kernel
theorem dX14_isFrozen_15 : decode cX14_isFrozen 15 = .ok (.aload_n 0, 1) := by decide +kernel
theorem dX14_isFrozen_16 : decode cX14_isFrozen 16 = .ok (.iload_n 1, 1) := by decide +kernel
theorem dX14_isFrozen_17 : decode cX14_isFrozen 17 = .ok (.iload_n 2, 1) := by decide +kernel
theorem dX14_isFrozen_18 : decode cX14_isFrozen 18 = .ok (.invokevirtual 288, 3) := by decide +kernel
theorem dX14_isFrozen_21 : decode cX14_isFrozen 21 = .ok (.invokevirtual 320, 3) := by decide +kernel
theorem dX14_isFrozen_24 : decode cX14_isFrozen 24 = .ok (.goto 8, 3) := by decide +kernel
theorem dX14_isFrozen_27 : decode cX14_isFrozen 27 = .ok (.aload_n 0, 1) := by decide +kernel
theorem dX14_isFrozen_28 : decode cX14_isFrozen 28 = .ok (.iconst 1, 1) := by decide +kernel
theorem dX14_isFrozen_29 : decode cX14_isFrozen 29 = .ok (.invokevirtual 383, 3) := by decide +kernel
theorem dX14_isFrozen_32 : decode cX14_isFrozen 32 = .ok (.ireturn, 1) := by decide +kernel
theorem dX14_frozenCells_0 : decode cX14_frozenCells 0 = .ok (.aload_n 0, 1) := by decide +kernel
theorem dX14_frozenCells_1 : decode cX14_frozenCells 1 = .ok (.aload_n 0, 1) := by decide +kernel
theorem dX14_frozenCells_2 : decode cX14_frozenCells 2 = .ok (.invokevirtual 404, 3) := by decide +kernel
theorem dX14_frozenCells_5 : decode cX14_frozenCells 5 = .ok (.invokevirtual 272, 3) := by decide +kernel
theorem dX14_frozenCells_8 : decode cX14_frozenCells 8 = .ok (.ireturn, 1) := by decide +kernel
theorem dX14_orNone_0 : decode cX14_orNone 0 = .ok (.iload_n 1, 1) := by decide +kernel
theorem dX14_orNone_1 : decode cX14_orNone 1 = .ok (.bipush 99, 2) := by decide +kernel
theorem dX14_orNone_3 : decode cX14_orNone 3 = .ok (.if_icmp .lt 11, 3) := by decide +kernel
theorem dX14_orNone_6 : decode cX14_orNone 6 = .ok (.aload_n 0, 1) := by decide +kernel
theorem dX14_orNone_7 : decode cX14_orNone 7 = .ok (.iconst 2, 1) := by decide +kernel
theorem dX14_orNone_8 : decode cX14_orNone 8 = .ok (.invokevirtual 250, 3) := by decide +kernel
theorem dX14_orNone_11 : decode cX14_orNone 11 = .ok (.goto 4, 3) := by decide +kernel
theorem dX14_orNone_14 : decode cX14_orNone 14 = .ok (.iload_n 1, 1) := by decide +kernel
theorem dX14_orNone_15 : decode cX14_orNone 15 = .ok (.ireturn, 1) := by decide +kernel
theorem dX14_stonesNeeded_0 : decode cX14_stonesNeeded 0 = .ok (.aload_n 0, 1) := by decide +kernel
theorem dX14_stonesNeeded_1 : decode cX14_stonesNeeded 1 = .ok (.iconst 0, 1) := by decide +kernel
theorem dX14_stonesNeeded_2 : decode cX14_stonesNeeded 2 = .ok (.putfield 73, 3) := by decide +kernel
theorem dX14_stonesNeeded_5 : decode cX14_stonesNeeded 5 = .ok (.iload_n 1, 1) := by decide +kernel
theorem dX14_stonesNeeded_6 : decode cX14_stonesNeeded 6 = .ok (.invokestatic 380, 3) := by decide +kernel
theorem dX14_stonesNeeded_9 : decode cX14_stonesNeeded 9 = .ok (.ifCond .eq 15, 3) := by decide +kernel
theorem dX14_stonesNeeded_12 : decode cX14_stonesNeeded 12 = .ok (.aload_n 0, 1) := by decide +kernel
theorem dX14_stonesNeeded_13 : decode cX14_stonesNeeded 13 = .ok (.aload_n 0, 1) := by decide +kernel
theorem dX14_stonesNeeded_14 : decode cX14_stonesNeeded 14 = .ok (.iload_n 1, 1) := by decide +kernel
theorem dX14_stonesNeeded_15 : decode cX14_stonesNeeded 15 = .ok (.invokevirtual 342, 3) := by decide +kernel
theorem dX14_stonesNeeded_18 : decode cX14_stonesNeeded 18 = .ok (.invokevirtual 407, 3) := by decide +kernel
theorem dX14_stonesNeeded_21 : decode cX14_stonesNeeded 21 = .ok (.goto 8, 3) := by decide +kernel
theorem dX14_stonesNeeded_24 : decode cX14_stonesNeeded 24 = .ok (.aload_n 0, 1) := by decide +kernel
theorem dX14_stonesNeeded_25 : decode cX14_stonesNeeded 25 = .ok (.iconst 1, 1) := by decide +kernel
theorem dX14_stonesNeeded_26 : decode cX14_stonesNeeded 26 = .ok (.invokevirtual 250, 3) := by decide +kernel
theorem dX14_stonesNeeded_29 : decode cX14_stonesNeeded 29 = .ok (.ireturn, 1) := by decide +kernel
theorem dX14_stonesNeededThrough_0 : decode cX14_stonesNeededThrough 0 = .ok (.aload_n 0, 1) := by decide +kernel
theorem dX14_stonesNeededThrough_1 : decode cX14_stonesNeededThrough 1 = .ok (.iconst 0, 1) := by decide +kernel
theorem dX14_stonesNeededThrough_2 : decode cX14_stonesNeededThrough 2 = .ok (.putfield 73, 3) := by decide +kernel
theorem dX14_stonesNeededThrough_5 : decode cX14_stonesNeededThrough 5 = .ok (.iload_n 1, 1) := by decide +kernel
theorem dX14_stonesNeededThrough_6 : decode cX14_stonesNeededThrough 6 = .ok (.invokestatic 380, 3) := by decide +kernel
theorem dX14_stonesNeededThrough_9 : decode cX14_stonesNeededThrough 9 = .ok (.ifCond .eq 12, 3) := by decide +kernel
theorem dX14_stonesNeededThrough_12 : decode cX14_stonesNeededThrough 12 = .ok (.aload_n 0, 1) := by decide +kernel
theorem dX14_stonesNeededThrough_13 : decode cX14_stonesNeededThrough 13 = .ok (.iload_n 2, 1) := by decide +kernel
theorem dX14_stonesNeededThrough_14 : decode cX14_stonesNeededThrough 14 = .ok (.iload_n 3, 1) := by decide +kernel
theorem dX14_stonesNeededThrough_15 : decode cX14_stonesNeededThrough 15 = .ok (.invokevirtual 284, 3) := by decide +kernel
theorem dX14_stonesNeededThrough_18 : decode cX14_stonesNeededThrough 18 = .ok (.ifCond .ne 9, 3) := by decide +kernel
theorem dX14_stonesNeededThrough_21 : decode cX14_stonesNeededThrough 21 = .ok (.aload_n 0, 1) := by decide +kernel
theorem dX14_stonesNeededThrough_22 : decode cX14_stonesNeededThrough 22 = .ok (.iconst 1, 1) := by decide +kernel
theorem dX14_stonesNeededThrough_23 : decode cX14_stonesNeededThrough 23 = .ok (.invokevirtual 250, 3) := by decide +kernel
theorem dX14_stonesNeededThrough_26 : decode cX14_stonesNeededThrough 26 = .ok (.ireturn, 1) := by decide +kernel
theorem dX14_stonesNeededThrough_27 : decode cX14_stonesNeededThrough 27 = .ok (.aload_n 0, 1) := by decide +kernel
theorem dX14_stonesNeededThrough_28 : decode cX14_stonesNeededThrough 28 = .ok (.iload_n 1, 1) := by decide +kernel
theorem dX14_stonesNeededThrough_29 : decode cX14_stonesNeededThrough 29 = .ok (.aload_n 0, 1) := by decide +kernel
theorem dX14_stonesNeededThrough_30 : decode cX14_stonesNeededThrough 30 = .ok (.iload_n 2, 1) := by decide +kernel
theorem dX14_stonesNeededThrough_31 : decode cX14_stonesNeededThrough 31 = .ok (.iload_n 3, 1) := by decide +kernel
theorem dX14_stonesNeededThrough_32 : decode cX14_stonesNeededThrough 32 = .ok (.invokevirtual 288, 3) := by decide +kernel
theorem dX14_stonesNeededThrough_35 : decode cX14_stonesNeededThrough 35 = .ok (.invokevirtual 410, 3) := by decide +kernel
theorem dX14_stonesNeededThrough_38 : decode cX14_stonesNeededThrough 38 = .ok (.istore 4, 2) := by decide +kernel
theorem dX14_stonesNeededThrough_40 : decode cX14_stonesNeededThrough 40 = .ok (.iload 4, 2) := by decide +kernel
theorem dX14_stonesNeededThrough_42 : decode cX14_stonesNeededThrough 42 = .ok (.sipush 9999, 3) := by decide +kernel
theorem dX14_stonesNeededThrough_45 : decode cX14_stonesNeededThrough 45 = .ok (.if_icmp .ne 11, 3) := by decide +kernel
theorem dX14_stonesNeededThrough_48 : decode cX14_stonesNeededThrough 48 = .ok (.aload_n 0, 1) := by decide +kernel
theorem dX14_stonesNeededThrough_49 : decode cX14_stonesNeededThrough 49 = .ok (.iconst 2, 1) := by decide +kernel
theorem dX14_stonesNeededThrough_50 : decode cX14_stonesNeededThrough 50 = .ok (.invokevirtual 250, 3) := by decide +kernel
theorem dX14_stonesNeededThrough_53 : decode cX14_stonesNeededThrough 53 = .ok (.goto 5, 3) := by decide +kernel
theorem dX14_stonesNeededThrough_56 : decode cX14_stonesNeededThrough 56 = .ok (.iload 4, 2) := by decide +kernel
theorem dX14_stonesNeededThrough_58 : decode cX14_stonesNeededThrough 58 = .ok (.ireturn, 1) := by decide +kernel
theorem dX14_isWinningCell_0 : decode cX14_isWinningCell 0 = .ok (.aload_n 0, 1) := by decide +kernel
theorem dX14_isWinningCell_1 : decode cX14_isWinningCell 1 = .ok (.iconst 0, 1) := by decide +kernel
theorem dX14_isWinningCell_2 : decode cX14_isWinningCell 2 = .ok (.putfield 73, 3) := by decide +kernel
theorem dX14_isWinningCell_5 : decode cX14_isWinningCell 5 = .ok (.iload_n 1, 1) := by decide +kernel
theorem dX14_isWinningCell_6 : decode cX14_isWinningCell 6 = .ok (.invokestatic 380, 3) := by decide +kernel
theorem dX14_isWinningCell_9 : decode cX14_isWinningCell 9 = .ok (.ifCond .eq 26, 3) := by decide +kernel
theorem dX14_isWinningCell_12 : decode cX14_isWinningCell 12 = .ok (.aload_n 0, 1) := by decide +kernel
theorem dX14_isWinningCell_13 : decode cX14_isWinningCell 13 = .ok (.iload_n 2, 1) := by decide +kernel
theorem dX14_isWinningCell_14 : decode cX14_isWinningCell 14 = .ok (.iload_n 3, 1) := by decide +kernel
theorem dX14_isWinningCell_15 : decode cX14_isWinningCell 15 = .ok (.invokevirtual 284, 3) := by decide +kernel
theorem dX14_isWinningCell_18 : decode cX14_isWinningCell 18 = .ok (.ifCond .eq 17, 3) := by decide +kernel
theorem dX14_isWinningCell_21 : decode cX14_isWinningCell 21 = .ok (.aload_n 0, 1) := by decide +kernel
theorem dX14_isWinningCell_22 : decode cX14_isWinningCell 22 = .ok (.iload_n 1, 1) := by decide +kernel
theorem dX14_isWinningCell_23 : decode cX14_isWinningCell 23 = .ok (.aload_n 0, 1) := by decide +kernel
theorem dX14_isWinningCell_24 : decode cX14_isWinningCell 24 = .ok (.iload_n 2, 1) := by decide +kernel
theorem dX14_isWinningCell_25 : decode cX14_isWinningCell 25 = .ok (.iload_n 3, 1) := by decide +kernel
theorem dX14_isWinningCell_26 : decode cX14_isWinningCell 26 = .ok (.invokevirtual 288, 3) := by decide +kernel
theorem dX14_isWinningCell_29 : decode cX14_isWinningCell 29 = .ok (.invokevirtual 336, 3) := by decide +kernel
theorem dX14_isWinningCell_32 : decode cX14_isWinningCell 32 = .ok (.goto 8, 3) := by decide +kernel
theorem dX14_isWinningCell_35 : decode cX14_isWinningCell 35 = .ok (.aload_n 0, 1) := by decide +kernel
theorem dX14_isWinningCell_36 : decode cX14_isWinningCell 36 = .ok (.iconst 1, 1) := by decide +kernel
theorem dX14_isWinningCell_37 : decode cX14_isWinningCell 37 = .ok (.invokevirtual 383, 3) := by decide +kernel
theorem dX14_isWinningCell_40 : decode cX14_isWinningCell 40 = .ok (.ireturn, 1) := by decide +kernel
theorem dX14_winningCells_0 : decode cX14_winningCells 0 = .ok (.aload_n 0, 1) := by decide +kernel
theorem dX14_winningCells_1 : decode cX14_winningCells 1 = .ok (.iconst 0, 1) := by decide +kernel
theorem dX14_winningCells_2 : decode cX14_winningCells 2 = .ok (.putfield 73, 3) := by decide +kernel
theorem dX14_winningCells_5 : decode cX14_winningCells 5 = .ok (.iload_n 1, 1) := by decide +kernel
theorem dX14_winningCells_6 : decode cX14_winningCells 6 = .ok (.invokestatic 380, 3) := by decide +kernel
theorem dX14_winningCells_9 : decode cX14_winningCells 9 = .ok (.ifCond .eq 12, 3) := by decide +kernel
theorem dX14_winningCells_12 : decode cX14_winningCells 12 = .ok (.aload_n 0, 1) := by decide +kernel
theorem dX14_winningCells_13 : decode cX14_winningCells 13 = .ok (.iload_n 1, 1) := by decide +kernel
theorem dX14_winningCells_14 : decode cX14_winningCells 14 = .ok (.iconst 0, 1) := by decide +kernel
theorem dX14_winningCells_15 : decode cX14_winningCells 15 = .ok (.invokevirtual 351, 3) := by decide +kernel
theorem dX14_winningCells_18 : decode cX14_winningCells 18 = .ok (.goto 8, 3) := by decide +kernel
theorem dX14_winningCells_21 : decode cX14_winningCells 21 = .ok (.aload_n 0, 1) := by decide +kernel
theorem dX14_winningCells_22 : decode cX14_winningCells 22 = .ok (.iconst 1, 1) := by decide +kernel
theorem dX14_winningCells_23 : decode cX14_winningCells 23 = .ok (.invokevirtual 250, 3) := by decide +kernel
theorem dX14_winningCells_26 : decode cX14_winningCells 26 = .ok (.ireturn, 1) := by decide +kernel
theorem dX14_lay_0 : decode cX14_lay 0 = .ok (.aload_n 0, 1) := by decide +kernel
theorem dX14_lay_1 : decode cX14_lay 1 = .ok (.invokevirtual 374, 3) := by decide +kernel
theorem dX14_lay_4 : decode cX14_lay 4 = .ok (.istore_n 2, 1) := by decide +kernel
theorem dX14_lay_5 : decode cX14_lay 5 = .ok (.aload_n 0, 1) := by decide +kernel
theorem dX14_lay_6 : decode cX14_lay 6 = .ok (.getfield 39, 3) := by decide +kernel
theorem dX14_lay_9 : decode cX14_lay 9 = .ok (.iload_n 1, 1) := by decide +kernel
theorem dX14_lay_10 : decode cX14_lay 10 = .ok (.iload_n 2, 1) := by decide +kernel
theorem dX14_lay_11 : decode cX14_lay 11 = .ok (.iastore, 1) := by decide +kernel
theorem dX14_lay_12 : decode cX14_lay 12 = .ok (.aload_n 0, 1) := by decide +kernel
theorem dX14_lay_13 : decode cX14_lay 13 = .ok (.getfield 42, 3) := by decide +kernel
theorem dX14_lay_16 : decode cX14_lay 16 = .ok (.aload_n 0, 1) := by decide +kernel
theorem dX14_lay_17 : decode cX14_lay 17 = .ok (.getfield 269, 3) := by decide +kernel
theorem dX14_lay_20 : decode cX14_lay 20 = .ok (.iload_n 1, 1) := by decide +kernel
theorem dX14_lay_21 : decode cX14_lay 21 = .ok (.iastore, 1) := by decide +kernel
theorem dX14_lay_22 : decode cX14_lay 22 = .ok (.aload_n 0, 1) := by decide +kernel
theorem dX14_lay_23 : decode cX14_lay 23 = .ok (.dup, 1) := by decide +kernel
theorem dX14_lay_24 : decode cX14_lay 24 = .ok (.getfield 269, 3) := by decide +kernel
theorem dX14_lay_27 : decode cX14_lay 27 = .ok (.iconst 1, 1) := by decide +kernel
theorem dX14_lay_28 : decode cX14_lay 28 = .ok (.iadd, 1) := by decide +kernel
theorem dX14_lay_29 : decode cX14_lay 29 = .ok (.putfield 269, 3) := by decide +kernel
theorem dX14_lay_32 : decode cX14_lay 32 = .ok (.iload_n 2, 1) := by decide +kernel
theorem dX14_lay_33 : decode cX14_lay 33 = .ok (.ireturn, 1) := by decide +kernel
theorem dX14_layStone_0 : decode cX14_layStone 0 = .ok (.aload_n 0, 1) := by decide +kernel
theorem dX14_layStone_1 : decode cX14_layStone 1 = .ok (.iconst 0, 1) := by decide +kernel
theorem dX14_layStone_2 : decode cX14_layStone 2 = .ok (.putfield 73, 3) := by decide +kernel
theorem dX14_layStone_5 : decode cX14_layStone 5 = .ok (.aload_n 0, 1) := by decide +kernel
theorem dX14_layStone_6 : decode cX14_layStone 6 = .ok (.iload_n 1, 1) := by decide +kernel
theorem dX14_layStone_7 : decode cX14_layStone 7 = .ok (.iload_n 2, 1) := by decide +kernel
theorem dX14_layStone_8 : decode cX14_layStone 8 = .ok (.invokevirtual 284, 3) := by decide +kernel
theorem dX14_layStone_11 : decode cX14_layStone 11 = .ok (.ifCond .ne 9, 3) := by decide +kernel
theorem dX14_layStone_14 : decode cX14_layStone 14 = .ok (.aload_n 0, 1) := by decide +kernel
theorem dX14_layStone_15 : decode cX14_layStone 15 = .ok (.iconst 1, 1) := by decide +kernel
theorem dX14_layStone_16 : decode cX14_layStone 16 = .ok (.invokevirtual 250, 3) := by decide +kernel
theorem dX14_layStone_19 : decode cX14_layStone 19 = .ok (.ireturn, 1) := by decide +kernel
theorem dX14_layStone_20 : decode cX14_layStone 20 = .ok (.aload_n 0, 1) := by decide +kernel
theorem dX14_layStone_21 : decode cX14_layStone 21 = .ok (.invokevirtual 370, 3) := by decide +kernel
theorem dX14_layStone_24 : decode cX14_layStone 24 = .ok (.ifCond .ne 18, 3) := by decide +kernel
theorem dX14_layStone_27 : decode cX14_layStone 27 = .ok (.aload_n 0, 1) := by decide +kernel
theorem dX14_layStone_28 : decode cX14_layStone 28 = .ok (.getfield 39, 3) := by decide +kernel
theorem dX14_layStone_31 : decode cX14_layStone 31 = .ok (.aload_n 0, 1) := by decide +kernel
theorem dX14_layStone_32 : decode cX14_layStone 32 = .ok (.iload_n 1, 1) := by decide +kernel
theorem dX14_layStone_33 : decode cX14_layStone 33 = .ok (.iload_n 2, 1) := by decide +kernel
theorem dX14_layStone_34 : decode cX14_layStone 34 = .ok (.invokevirtual 288, 3) := by decide +kernel
theorem dX14_layStone_37 : decode cX14_layStone 37 = .ok (.iaload, 1) := by decide +kernel
theorem dX14_layStone_38 : decode cX14_layStone 38 = .ok (.iconst (-1), 1) := by decide +kernel
theorem dX14_layStone_39 : decode cX14_layStone 39 = .ok (.if_icmp .eq 11, 3) := by decide +kernel
theorem dX14_layStone_42 : decode cX14_layStone 42 = .ok (.aload_n 0, 1) := by decide +kernel
theorem dX14_layStone_43 : decode cX14_layStone 43 = .ok (.iconst 2, 1) := by decide +kernel
theorem dX14_layStone_44 : decode cX14_layStone 44 = .ok (.invokevirtual 250, 3) := by decide +kernel
theorem dX14_layStone_47 : decode cX14_layStone 47 = .ok (.goto 13, 3) := by decide +kernel
theorem dX14_layStone_50 : decode cX14_layStone 50 = .ok (.aload_n 0, 1) := by decide +kernel
theorem dX14_layStone_51 : decode cX14_layStone 51 = .ok (.aload_n 0, 1) := by decide +kernel
theorem dX14_layStone_52 : decode cX14_layStone 52 = .ok (.iload_n 1, 1) := by decide +kernel
theorem dX14_layStone_53 : decode cX14_layStone 53 = .ok (.iload_n 2, 1) := by decide +kernel
theorem dX14_layStone_54 : decode cX14_layStone 54 = .ok (.invokevirtual 288, 3) := by decide +kernel
theorem dX14_layStone_57 : decode cX14_layStone 57 = .ok (.invokevirtual 413, 3) := by decide +kernel
theorem dX14_layStone_60 : decode cX14_layStone 60 = .ok (.ireturn, 1) := by decide +kernel
theorem dX14_takeBack_0 : decode cX14_takeBack 0 = .ok (.aload_n 0, 1) := by decide +kernel
theorem dX14_takeBack_1 : decode cX14_takeBack 1 = .ok (.iconst 0, 1) := by decide +kernel
theorem dX14_takeBack_2 : decode cX14_takeBack 2 = .ok (.putfield 73, 3) := by decide +kernel
theorem dX14_takeBack_5 : decode cX14_takeBack 5 = .ok (.aload_n 0, 1) := by decide +kernel
theorem dX14_takeBack_6 : decode cX14_takeBack 6 = .ok (.getfield 269, 3) := by decide +kernel
theorem dX14_takeBack_9 : decode cX14_takeBack 9 = .ok (.ifCond .ne 9, 3) := by decide +kernel
theorem dX14_takeBack_12 : decode cX14_takeBack 12 = .ok (.aload_n 0, 1) := by decide +kernel
theorem dX14_takeBack_13 : decode cX14_takeBack 13 = .ok (.iconst 1, 1) := by decide +kernel
theorem dX14_takeBack_14 : decode cX14_takeBack 14 = .ok (.invokevirtual 250, 3) := by decide +kernel
theorem dX14_takeBack_17 : decode cX14_takeBack 17 = .ok (.ireturn, 1) := by decide +kernel
theorem dX14_takeBack_18 : decode cX14_takeBack 18 = .ok (.aload_n 0, 1) := by decide +kernel
theorem dX14_takeBack_19 : decode cX14_takeBack 19 = .ok (.dup, 1) := by decide +kernel
theorem dX14_takeBack_20 : decode cX14_takeBack 20 = .ok (.getfield 269, 3) := by decide +kernel
theorem dX14_takeBack_23 : decode cX14_takeBack 23 = .ok (.iconst 1, 1) := by decide +kernel
theorem dX14_takeBack_24 : decode cX14_takeBack 24 = .ok (.isub, 1) := by decide +kernel
theorem dX14_takeBack_25 : decode cX14_takeBack 25 = .ok (.putfield 269, 3) := by decide +kernel
theorem dX14_takeBack_28 : decode cX14_takeBack 28 = .ok (.aload_n 0, 1) := by decide +kernel
theorem dX14_takeBack_29 : decode cX14_takeBack 29 = .ok (.getfield 39, 3) := by decide +kernel
theorem dX14_takeBack_32 : decode cX14_takeBack 32 = .ok (.aload_n 0, 1) := by decide +kernel
theorem dX14_takeBack_33 : decode cX14_takeBack 33 = .ok (.getfield 42, 3) := by decide +kernel
theorem dX14_takeBack_36 : decode cX14_takeBack 36 = .ok (.aload_n 0, 1) := by decide +kernel
theorem dX14_takeBack_37 : decode cX14_takeBack 37 = .ok (.getfield 269, 3) := by decide +kernel
theorem dX14_takeBack_40 : decode cX14_takeBack 40 = .ok (.iaload, 1) := by decide +kernel
theorem dX14_takeBack_41 : decode cX14_takeBack 41 = .ok (.iconst (-1), 1) := by decide +kernel
theorem dX14_takeBack_42 : decode cX14_takeBack 42 = .ok (.iastore, 1) := by decide +kernel
theorem dX14_takeBack_43 : decode cX14_takeBack 43 = .ok (.aload_n 0, 1) := by decide +kernel
theorem dX14_takeBack_44 : decode cX14_takeBack 44 = .ok (.getfield 42, 3) := by decide +kernel
theorem dX14_takeBack_47 : decode cX14_takeBack 47 = .ok (.aload_n 0, 1) := by decide +kernel
theorem dX14_takeBack_48 : decode cX14_takeBack 48 = .ok (.getfield 269, 3) := by decide +kernel
theorem dX14_takeBack_51 : decode cX14_takeBack 51 = .ok (.iaload, 1) := by decide +kernel
theorem dX14_takeBack_52 : decode cX14_takeBack 52 = .ok (.ireturn, 1) := by decide +kernel
theorem dX14_plannedCell_0 : decode cX14_plannedCell 0 = .ok (.aload_n 0, 1) := by decide +kernel
theorem dX14_plannedCell_1 : decode cX14_plannedCell 1 = .ok (.iconst 0, 1) := by decide +kernel
theorem dX14_plannedCell_2 : decode cX14_plannedCell 2 = .ok (.putfield 73, 3) := by decide +kernel
theorem dX14_plannedCell_5 : decode cX14_plannedCell 5 = .ok (.aload_n 0, 1) := by decide +kernel
theorem dX14_plannedCell_6 : decode cX14_plannedCell 6 = .ok (.invokevirtual 370, 3) := by decide +kernel
theorem dX14_plannedCell_9 : decode cX14_plannedCell 9 = .ok (.ifCond .eq 11, 3) := by decide +kernel
theorem dX14_plannedCell_12 : decode cX14_plannedCell 12 = .ok (.aload_n 0, 1) := by decide +kernel
theorem dX14_plannedCell_13 : decode cX14_plannedCell 13 = .ok (.iconst 1, 1) := by decide +kernel
theorem dX14_plannedCell_14 : decode cX14_plannedCell 14 = .ok (.invokevirtual 250, 3) := by decide +kernel
theorem dX14_plannedCell_17 : decode cX14_plannedCell 17 = .ok (.goto 11, 3) := by decide +kernel
theorem dX14_plannedCell_20 : decode cX14_plannedCell 20 = .ok (.aload_n 0, 1) := by decide +kernel
theorem dX14_plannedCell_21 : decode cX14_plannedCell 21 = .ok (.aload_n 0, 1) := by decide +kernel
theorem dX14_plannedCell_22 : decode cX14_plannedCell 22 = .ok (.invokevirtual 374, 3) := by decide +kernel
theorem dX14_plannedCell_25 : decode cX14_plannedCell 25 = .ok (.invokevirtual 377, 3) := by decide +kernel
theorem dX14_plannedCell_28 : decode cX14_plannedCell 28 = .ok (.ireturn, 1) := by decide +kernel
theorem dX14_playByPlans_0 : decode cX14_playByPlans 0 = .ok (.aload_n 0, 1) := by decide +kernel
theorem dX14_playByPlans_1 : decode cX14_playByPlans 1 = .ok (.iconst 0, 1) := by decide +kernel
theorem dX14_playByPlans_2 : decode cX14_playByPlans 2 = .ok (.putfield 73, 3) := by decide +kernel
theorem dX14_playByPlans_5 : decode cX14_playByPlans 5 = .ok (.iload_n 1, 1) := by decide +kernel
theorem dX14_playByPlans_6 : decode cX14_playByPlans 6 = .ok (.iconst 1, 1) := by decide +kernel
theorem dX14_playByPlans_7 : decode cX14_playByPlans 7 = .ok (.bipush 81, 2) := by decide +kernel
theorem dX14_playByPlans_9 : decode cX14_playByPlans 9 = .ok (.invokestatic 76, 3) := by decide +kernel
theorem dX14_playByPlans_12 : decode cX14_playByPlans 12 = .ok (.ifCond .eq 12, 3) := by decide +kernel
theorem dX14_playByPlans_15 : decode cX14_playByPlans 15 = .ok (.aload_n 0, 1) := by decide +kernel
theorem dX14_playByPlans_16 : decode cX14_playByPlans 16 = .ok (.iload_n 1, 1) := by decide +kernel
theorem dX14_playByPlans_17 : decode cX14_playByPlans 17 = .ok (.iconst 1, 1) := by decide +kernel
theorem dX14_playByPlans_18 : decode cX14_playByPlans 18 = .ok (.invokevirtual 416, 3) := by decide +kernel
theorem dX14_playByPlans_21 : decode cX14_playByPlans 21 = .ok (.goto 8, 3) := by decide +kernel
theorem dX14_playByPlans_24 : decode cX14_playByPlans 24 = .ok (.aload_n 0, 1) := by decide +kernel
theorem dX14_playByPlans_25 : decode cX14_playByPlans 25 = .ok (.iconst 1, 1) := by decide +kernel
theorem dX14_playByPlans_26 : decode cX14_playByPlans 26 = .ok (.invokevirtual 250, 3) := by decide +kernel
theorem dX14_playByPlans_29 : decode cX14_playByPlans 29 = .ok (.ireturn, 1) := by decide +kernel
theorem dX14_stonesByPlans_0 : decode cX14_stonesByPlans 0 = .ok (.aload_n 0, 1) := by decide +kernel
theorem dX14_stonesByPlans_1 : decode cX14_stonesByPlans 1 = .ok (.iconst 0, 1) := by decide +kernel
theorem dX14_stonesByPlans_2 : decode cX14_stonesByPlans 2 = .ok (.putfield 73, 3) := by decide +kernel
theorem dX14_stonesByPlans_5 : decode cX14_stonesByPlans 5 = .ok (.aload_n 0, 1) := by decide +kernel
theorem dX14_stonesByPlans_6 : decode cX14_stonesByPlans 6 = .ok (.invokevirtual 419, 3) := by decide +kernel
theorem dX14_stonesByPlans_9 : decode cX14_stonesByPlans 9 = .ok (.aload_n 0, 1) := by decide +kernel
theorem dX14_stonesByPlans_10 : decode cX14_stonesByPlans 10 = .ok (.bipush 81, 2) := by decide +kernel
theorem dX14_stonesByPlans_12 : decode cX14_stonesByPlans 12 = .ok (.iconst 0, 1) := by decide +kernel
theorem dX14_stonesByPlans_13 : decode cX14_stonesByPlans 13 = .ok (.invokevirtual 416, 3) := by decide +kernel
theorem dX14_stonesByPlans_16 : decode cX14_stonesByPlans 16 = .ok (.istore_n 1, 1) := by decide +kernel
theorem dX14_stonesByPlans_17 : decode cX14_stonesByPlans 17 = .ok (.aload_n 0, 1) := by decide +kernel
theorem dX14_stonesByPlans_18 : decode cX14_stonesByPlans 18 = .ok (.invokevirtual 422, 3) := by decide +kernel
theorem dX14_stonesByPlans_21 : decode cX14_stonesByPlans 21 = .ok (.iload_n 1, 1) := by decide +kernel
theorem dX14_stonesByPlans_22 : decode cX14_stonesByPlans 22 = .ok (.ireturn, 1) := by decide +kernel
theorem dX14_winnerByPlans_0 : decode cX14_winnerByPlans 0 = .ok (.aload_n 0, 1) := by decide +kernel
theorem dX14_winnerByPlans_1 : decode cX14_winnerByPlans 1 = .ok (.iconst 0, 1) := by decide +kernel
theorem dX14_winnerByPlans_2 : decode cX14_winnerByPlans 2 = .ok (.putfield 73, 3) := by decide +kernel
theorem dX14_winnerByPlans_5 : decode cX14_winnerByPlans 5 = .ok (.aload_n 0, 1) := by decide +kernel
theorem dX14_winnerByPlans_6 : decode cX14_winnerByPlans 6 = .ok (.invokevirtual 419, 3) := by decide +kernel
theorem dX14_winnerByPlans_9 : decode cX14_winnerByPlans 9 = .ok (.aload_n 0, 1) := by decide +kernel
theorem dX14_winnerByPlans_10 : decode cX14_winnerByPlans 10 = .ok (.bipush 81, 2) := by decide +kernel
theorem dX14_winnerByPlans_12 : decode cX14_winnerByPlans 12 = .ok (.iconst 0, 1) := by decide +kernel
theorem dX14_winnerByPlans_13 : decode cX14_winnerByPlans 13 = .ok (.invokevirtual 416, 3) := by decide +kernel
theorem dX14_winnerByPlans_16 : decode cX14_winnerByPlans 16 = .ok (.pop, 1) := by decide +kernel
theorem dX14_winnerByPlans_17 : decode cX14_winnerByPlans 17 = .ok (.aload_n 0, 1) := by decide +kernel
theorem dX14_winnerByPlans_18 : decode cX14_winnerByPlans 18 = .ok (.iconst 0, 1) := by decide +kernel
theorem dX14_winnerByPlans_19 : decode cX14_winnerByPlans 19 = .ok (.invokevirtual 304, 3) := by decide +kernel
theorem dX14_winnerByPlans_22 : decode cX14_winnerByPlans 22 = .ok (.ifCond .eq 7, 3) := by decide +kernel
theorem dX14_winnerByPlans_25 : decode cX14_winnerByPlans 25 = .ok (.iconst 0, 1) := by decide +kernel
theorem dX14_winnerByPlans_26 : decode cX14_winnerByPlans 26 = .ok (.goto 16, 3) := by decide +kernel
theorem dX14_winnerByPlans_29 : decode cX14_winnerByPlans 29 = .ok (.aload_n 0, 1) := by decide +kernel
theorem dX14_winnerByPlans_30 : decode cX14_winnerByPlans 30 = .ok (.iconst 1, 1) := by decide +kernel
theorem dX14_winnerByPlans_31 : decode cX14_winnerByPlans 31 = .ok (.invokevirtual 304, 3) := by decide +kernel
theorem dX14_winnerByPlans_34 : decode cX14_winnerByPlans 34 = .ok (.ifCond .eq 7, 3) := by decide +kernel
theorem dX14_winnerByPlans_37 : decode cX14_winnerByPlans 37 = .ok (.iconst 1, 1) := by decide +kernel
theorem dX14_winnerByPlans_38 : decode cX14_winnerByPlans 38 = .ok (.goto 4, 3) := by decide +kernel
theorem dX14_winnerByPlans_41 : decode cX14_winnerByPlans 41 = .ok (.iconst (-1), 1) := by decide +kernel
theorem dX14_winnerByPlans_42 : decode cX14_winnerByPlans 42 = .ok (.istore_n 1, 1) := by decide +kernel
theorem dX14_winnerByPlans_43 : decode cX14_winnerByPlans 43 = .ok (.aload_n 0, 1) := by decide +kernel
theorem dX14_winnerByPlans_44 : decode cX14_winnerByPlans 44 = .ok (.invokevirtual 422, 3) := by decide +kernel
theorem dX14_winnerByPlans_47 : decode cX14_winnerByPlans 47 = .ok (.iload_n 1, 1) := by decide +kernel
theorem dX14_winnerByPlans_48 : decode cX14_winnerByPlans 48 = .ok (.ireturn, 1) := by decide +kernel
theorem dX14_mustPlay_0 : decode cX14_mustPlay 0 = .ok (.aload_n 0, 1) := by decide +kernel
theorem dX14_mustPlay_1 : decode cX14_mustPlay 1 = .ok (.iconst 0, 1) := by decide +kernel
theorem dX14_mustPlay_2 : decode cX14_mustPlay 2 = .ok (.putfield 73, 3) := by decide +kernel
theorem dX14_mustPlay_5 : decode cX14_mustPlay 5 = .ok (.aload_n 0, 1) := by decide +kernel
theorem dX14_mustPlay_6 : decode cX14_mustPlay 6 = .ok (.invokevirtual 370, 3) := by decide +kernel
theorem dX14_mustPlay_9 : decode cX14_mustPlay 9 = .ok (.ifCond .eq 9, 3) := by decide +kernel
theorem dX14_mustPlay_12 : decode cX14_mustPlay 12 = .ok (.aload_n 0, 1) := by decide +kernel
theorem dX14_mustPlay_13 : decode cX14_mustPlay 13 = .ok (.iconst 1, 1) := by decide +kernel
theorem dX14_mustPlay_14 : decode cX14_mustPlay 14 = .ok (.invokevirtual 250, 3) := by decide +kernel
theorem dX14_mustPlay_17 : decode cX14_mustPlay 17 = .ok (.ireturn, 1) := by decide +kernel
theorem dX14_mustPlay_18 : decode cX14_mustPlay 18 = .ok (.aload_n 0, 1) := by decide +kernel
theorem dX14_mustPlay_19 : decode cX14_mustPlay 19 = .ok (.invokevirtual 374, 3) := by decide +kernel
theorem dX14_mustPlay_22 : decode cX14_mustPlay 22 = .ok (.istore_n 1, 1) := by decide +kernel
theorem dX14_mustPlay_23 : decode cX14_mustPlay 23 = .ok (.aload_n 0, 1) := by decide +kernel
theorem dX14_mustPlay_24 : decode cX14_mustPlay 24 = .ok (.iload_n 1, 1) := by decide +kernel
theorem dX14_mustPlay_25 : decode cX14_mustPlay 25 = .ok (.iconst 0, 1) := by decide +kernel
theorem dX14_mustPlay_26 : decode cX14_mustPlay 26 = .ok (.invokevirtual 351, 3) := by decide +kernel
theorem dX14_mustPlay_29 : decode cX14_mustPlay 29 = .ok (.ifCond .gt 15, 3) := by decide +kernel
theorem dX14_mustPlay_32 : decode cX14_mustPlay 32 = .ok (.aload_n 0, 1) := by decide +kernel
theorem dX14_mustPlay_33 : decode cX14_mustPlay 33 = .ok (.iconst 1, 1) := by decide +kernel
theorem dX14_mustPlay_34 : decode cX14_mustPlay 34 = .ok (.iload_n 1, 1) := by decide +kernel
theorem dX14_mustPlay_35 : decode cX14_mustPlay 35 = .ok (.isub, 1) := by decide +kernel
theorem dX14_mustPlay_36 : decode cX14_mustPlay 36 = .ok (.iconst 0, 1) := by decide +kernel
theorem dX14_mustPlay_37 : decode cX14_mustPlay 37 = .ok (.invokevirtual 351, 3) := by decide +kernel
theorem dX14_mustPlay_40 : decode cX14_mustPlay 40 = .ok (.iconst 1, 1) := by decide +kernel
theorem dX14_mustPlay_41 : decode cX14_mustPlay 41 = .ok (.if_icmp .eq 11, 3) := by decide +kernel
theorem dX14_mustPlay_44 : decode cX14_mustPlay 44 = .ok (.aload_n 0, 1) := by decide +kernel
theorem dX14_mustPlay_45 : decode cX14_mustPlay 45 = .ok (.iconst 1, 1) := by decide +kernel
theorem dX14_mustPlay_46 : decode cX14_mustPlay 46 = .ok (.invokevirtual 250, 3) := by decide +kernel
theorem dX14_mustPlay_49 : decode cX14_mustPlay 49 = .ok (.goto 11, 3) := by decide +kernel
theorem dX14_mustPlay_52 : decode cX14_mustPlay 52 = .ok (.aload_n 0, 1) := by decide +kernel
theorem dX14_mustPlay_53 : decode cX14_mustPlay 53 = .ok (.iconst 1, 1) := by decide +kernel
theorem dX14_mustPlay_54 : decode cX14_mustPlay 54 = .ok (.iload_n 1, 1) := by decide +kernel
theorem dX14_mustPlay_55 : decode cX14_mustPlay 55 = .ok (.isub, 1) := by decide +kernel
theorem dX14_mustPlay_56 : decode cX14_mustPlay 56 = .ok (.iconst 1, 1) := by decide +kernel
theorem dX14_mustPlay_57 : decode cX14_mustPlay 57 = .ok (.invokevirtual 351, 3) := by decide +kernel
theorem dX14_mustPlay_60 : decode cX14_mustPlay 60 = .ok (.ireturn, 1) := by decide +kernel
theorem dX14_best_0 : decode cX14_best 0 = .ok (.iconst (-1), 1) := by decide +kernel
theorem dX14_best_1 : decode cX14_best 1 = .ok (.istore_n 2, 1) := by decide +kernel
theorem dX14_best_2 : decode cX14_best 2 = .ok (.iconst 0, 1) := by decide +kernel
theorem dX14_best_3 : decode cX14_best 3 = .ok (.istore_n 3, 1) := by decide +kernel
theorem dX14_best_4 : decode cX14_best 4 = .ok (.iconst 0, 1) := by decide +kernel
theorem dX14_best_5 : decode cX14_best 5 = .ok (.istore 4, 2) := by decide +kernel
theorem dX14_best_7 : decode cX14_best 7 = .ok (.iload 4, 2) := by decide +kernel
theorem dX14_best_9 : decode cX14_best 9 = .ok (.aload_n 0, 1) := by decide +kernel
theorem dX14_best_10 : decode cX14_best 10 = .ok (.invokevirtual 275, 3) := by decide +kernel
theorem dX14_best_13 : decode cX14_best 13 = .ok (.if_icmp .ge 74, 3) := by decide +kernel
theorem dX14_best_16 : decode cX14_best 16 = .ok (.aload_n 0, 1) := by decide +kernel
theorem dX14_best_17 : decode cX14_best 17 = .ok (.getfield 39, 3) := by decide +kernel
theorem dX14_best_20 : decode cX14_best 20 = .ok (.iload 4, 2) := by decide +kernel
theorem dX14_best_22 : decode cX14_best 22 = .ok (.iaload, 1) := by decide +kernel
theorem dX14_best_23 : decode cX14_best 23 = .ok (.iconst (-1), 1) := by decide +kernel
theorem dX14_best_24 : decode cX14_best 24 = .ok (.if_icmp .eq 6, 3) := by decide +kernel
theorem dX14_best_27 : decode cX14_best 27 = .ok (.goto 54, 3) := by decide +kernel
theorem dX14_best_30 : decode cX14_best 30 = .ok (.aload_n 0, 1) := by decide +kernel
theorem dX14_best_31 : decode cX14_best 31 = .ok (.getfield 39, 3) := by decide +kernel
theorem dX14_best_34 : decode cX14_best 34 = .ok (.iload 4, 2) := by decide +kernel
theorem dX14_best_36 : decode cX14_best 36 = .ok (.iload_n 1, 1) := by decide +kernel
theorem dX14_best_37 : decode cX14_best 37 = .ok (.iastore, 1) := by decide +kernel
theorem dX14_best_38 : decode cX14_best 38 = .ok (.aload_n 0, 1) := by decide +kernel
theorem dX14_best_39 : decode cX14_best 39 = .ok (.iconst 1, 1) := by decide +kernel
theorem dX14_best_40 : decode cX14_best 40 = .ok (.iload_n 1, 1) := by decide +kernel
theorem dX14_best_41 : decode cX14_best 41 = .ok (.isub, 1) := by decide +kernel
theorem dX14_best_42 : decode cX14_best 42 = .ok (.invokevirtual 342, 3) := by decide +kernel
theorem dX14_best_45 : decode cX14_best 45 = .ok (.aload_n 0, 1) := by decide +kernel
theorem dX14_best_46 : decode cX14_best 46 = .ok (.iload_n 1, 1) := by decide +kernel
theorem dX14_best_47 : decode cX14_best 47 = .ok (.invokevirtual 342, 3) := by decide +kernel
theorem dX14_best_50 : decode cX14_best 50 = .ok (.isub, 1) := by decide +kernel
theorem dX14_best_51 : decode cX14_best 51 = .ok (.istore 5, 2) := by decide +kernel
theorem dX14_best_53 : decode cX14_best 53 = .ok (.aload_n 0, 1) := by decide +kernel
theorem dX14_best_54 : decode cX14_best 54 = .ok (.getfield 39, 3) := by decide +kernel
theorem dX14_best_57 : decode cX14_best 57 = .ok (.iload 4, 2) := by decide +kernel
theorem dX14_best_59 : decode cX14_best 59 = .ok (.iconst (-1), 1) := by decide +kernel
theorem dX14_best_60 : decode cX14_best 60 = .ok (.iastore, 1) := by decide +kernel
theorem dX14_best_61 : decode cX14_best 61 = .ok (.iload_n 2, 1) := by decide +kernel
theorem dX14_best_62 : decode cX14_best 62 = .ok (.iconst (-1), 1) := by decide +kernel
theorem dX14_best_63 : decode cX14_best 63 = .ok (.if_icmp .eq 12, 3) := by decide +kernel
theorem dX14_best_66 : decode cX14_best 66 = .ok (.iload 5, 2) := by decide +kernel
theorem dX14_best_68 : decode cX14_best 68 = .ok (.iload_n 3, 1) := by decide +kernel
theorem dX14_best_69 : decode cX14_best 69 = .ok (.if_icmp .gt 6, 3) := by decide +kernel
theorem dX14_best_72 : decode cX14_best 72 = .ok (.goto 9, 3) := by decide +kernel
theorem dX14_best_75 : decode cX14_best 75 = .ok (.iload 4, 2) := by decide +kernel
theorem dX14_best_77 : decode cX14_best 77 = .ok (.istore_n 2, 1) := by decide +kernel
theorem dX14_best_78 : decode cX14_best 78 = .ok (.iload 5, 2) := by decide +kernel
theorem dX14_best_80 : decode cX14_best 80 = .ok (.istore_n 3, 1) := by decide +kernel
theorem dX14_best_81 : decode cX14_best 81 = .ok (.iinc 4 1, 3) := by decide +kernel
theorem dX14_best_84 : decode cX14_best 84 = .ok (.goto (-77), 3) := by decide +kernel
theorem dX14_best_87 : decode cX14_best 87 = .ok (.iload_n 2, 1) := by decide +kernel
theorem dX14_best_88 : decode cX14_best 88 = .ok (.ireturn, 1) := by decide +kernel
theorem dX14_bestCell_0 : decode cX14_bestCell 0 = .ok (.aload_n 0, 1) := by decide +kernel
theorem dX14_bestCell_1 : decode cX14_bestCell 1 = .ok (.iconst 0, 1) := by decide +kernel
theorem dX14_bestCell_2 : decode cX14_bestCell 2 = .ok (.putfield 73, 3) := by decide +kernel
theorem dX14_bestCell_5 : decode cX14_bestCell 5 = .ok (.aload_n 0, 1) := by decide +kernel
theorem dX14_bestCell_6 : decode cX14_bestCell 6 = .ok (.invokevirtual 370, 3) := by decide +kernel
theorem dX14_bestCell_9 : decode cX14_bestCell 9 = .ok (.ifCond .eq 11, 3) := by decide +kernel
theorem dX14_bestCell_12 : decode cX14_bestCell 12 = .ok (.aload_n 0, 1) := by decide +kernel
theorem dX14_bestCell_13 : decode cX14_bestCell 13 = .ok (.iconst 1, 1) := by decide +kernel
theorem dX14_bestCell_14 : decode cX14_bestCell 14 = .ok (.invokevirtual 250, 3) := by decide +kernel
theorem dX14_bestCell_17 : decode cX14_bestCell 17 = .ok (.goto 11, 3) := by decide +kernel
theorem dX14_bestCell_20 : decode cX14_bestCell 20 = .ok (.aload_n 0, 1) := by decide +kernel
theorem dX14_bestCell_21 : decode cX14_bestCell 21 = .ok (.aload_n 0, 1) := by decide +kernel
theorem dX14_bestCell_22 : decode cX14_bestCell 22 = .ok (.invokevirtual 374, 3) := by decide +kernel
theorem dX14_bestCell_25 : decode cX14_bestCell 25 = .ok (.invokevirtual 425, 3) := by decide +kernel
theorem dX14_bestCell_28 : decode cX14_bestCell 28 = .ok (.ireturn, 1) := by decide +kernel
theorem dX14_meanGroup_0 : decode cX14_meanGroup 0 = .ok (.aload_n 0, 1) := by decide +kernel
theorem dX14_meanGroup_1 : decode cX14_meanGroup 1 = .ok (.iconst 0, 1) := by decide +kernel
theorem dX14_meanGroup_2 : decode cX14_meanGroup 2 = .ok (.putfield 73, 3) := by decide +kernel
theorem dX14_meanGroup_5 : decode cX14_meanGroup 5 = .ok (.aload_n 0, 1) := by decide +kernel
theorem dX14_meanGroup_6 : decode cX14_meanGroup 6 = .ok (.iconst 0, 1) := by decide +kernel
theorem dX14_meanGroup_7 : decode cX14_meanGroup 7 = .ok (.invokevirtual 395, 3) := by decide +kernel
theorem dX14_meanGroup_10 : decode cX14_meanGroup 10 = .ok (.aload_n 0, 1) := by decide +kernel
theorem dX14_meanGroup_11 : decode cX14_meanGroup 11 = .ok (.iconst 1, 1) := by decide +kernel
theorem dX14_meanGroup_12 : decode cX14_meanGroup 12 = .ok (.invokevirtual 395, 3) := by decide +kernel
theorem dX14_meanGroup_15 : decode cX14_meanGroup 15 = .ok (.iadd, 1) := by decide +kernel
theorem dX14_meanGroup_16 : decode cX14_meanGroup 16 = .ok (.istore_n 1, 1) := by decide +kernel
theorem dX14_meanGroup_17 : decode cX14_meanGroup 17 = .ok (.iload_n 1, 1) := by decide +kernel
theorem dX14_meanGroup_18 : decode cX14_meanGroup 18 = .ok (.ifCond .ne 7, 3) := by decide +kernel
theorem dX14_meanGroup_21 : decode cX14_meanGroup 21 = .ok (.dconst 0, 1) := by decide +kernel
theorem dX14_meanGroup_22 : decode cX14_meanGroup 22 = .ok (.goto 18, 3) := by decide +kernel
theorem dX14_meanGroup_25 : decode cX14_meanGroup 25 = .ok (.aload_n 0, 1) := by decide +kernel
theorem dX14_meanGroup_26 : decode cX14_meanGroup 26 = .ok (.iconst 0, 1) := by decide +kernel
theorem dX14_meanGroup_27 : decode cX14_meanGroup 27 = .ok (.invokevirtual 307, 3) := by decide +kernel
theorem dX14_meanGroup_30 : decode cX14_meanGroup 30 = .ok (.aload_n 0, 1) := by decide +kernel
theorem dX14_meanGroup_31 : decode cX14_meanGroup 31 = .ok (.iconst 1, 1) := by decide +kernel
theorem dX14_meanGroup_32 : decode cX14_meanGroup 32 = .ok (.invokevirtual 307, 3) := by decide +kernel
theorem dX14_meanGroup_35 : decode cX14_meanGroup 35 = .ok (.iadd, 1) := by decide +kernel
theorem dX14_meanGroup_36 : decode cX14_meanGroup 36 = .ok (.i2d, 1) := by decide +kernel
theorem dX14_meanGroup_37 : decode cX14_meanGroup 37 = .ok (.iload_n 1, 1) := by decide +kernel
theorem dX14_meanGroup_38 : decode cX14_meanGroup 38 = .ok (.i2d, 1) := by decide +kernel
theorem dX14_meanGroup_39 : decode cX14_meanGroup 39 = .ok (.ddiv, 1) := by decide +kernel
theorem dX14_meanGroup_40 : decode cX14_meanGroup 40 = .ok (.dreturn, 1) := by decide +kernel
theorem dX14_digestPlayer_0 : decode cX14_digestPlayer 0 = .ok (.lload_n 1, 1) := by decide +kernel
theorem dX14_digestPlayer_1 : decode cX14_digestPlayer 1 = .ok (.ldc2_w 428, 3) := by decide +kernel
theorem dX14_digestPlayer_4 : decode cX14_digestPlayer 4 = .ok (.lmul, 1) := by decide +kernel
theorem dX14_digestPlayer_5 : decode cX14_digestPlayer 5 = .ok (.aload_n 0, 1) := by decide +kernel
theorem dX14_digestPlayer_6 : decode cX14_digestPlayer 6 = .ok (.iload_n 3, 1) := by decide +kernel
theorem dX14_digestPlayer_7 : decode cX14_digestPlayer 7 = .ok (.invokevirtual 307, 3) := by decide +kernel
theorem dX14_digestPlayer_10 : decode cX14_digestPlayer 10 = .ok (.i2l, 1) := by decide +kernel
theorem dX14_digestPlayer_11 : decode cX14_digestPlayer 11 = .ok (.ladd, 1) := by decide +kernel
theorem dX14_digestPlayer_12 : decode cX14_digestPlayer 12 = .ok (.ldc2_w 428, 3) := by decide +kernel
theorem dX14_digestPlayer_15 : decode cX14_digestPlayer 15 = .ok (.lmul, 1) := by decide +kernel
theorem dX14_digestPlayer_16 : decode cX14_digestPlayer 16 = .ok (.aload_n 0, 1) := by decide +kernel
theorem dX14_digestPlayer_17 : decode cX14_digestPlayer 17 = .ok (.iload_n 3, 1) := by decide +kernel
theorem dX14_digestPlayer_18 : decode cX14_digestPlayer 18 = .ok (.invokevirtual 304, 3) := by decide +kernel
theorem dX14_digestPlayer_21 : decode cX14_digestPlayer 21 = .ok (.ifCond .eq 7, 3) := by decide +kernel
theorem dX14_digestPlayer_24 : decode cX14_digestPlayer 24 = .ok (.iconst 1, 1) := by decide +kernel
theorem dX14_digestPlayer_25 : decode cX14_digestPlayer 25 = .ok (.goto 4, 3) := by decide +kernel
theorem dX14_digestPlayer_28 : decode cX14_digestPlayer 28 = .ok (.iconst 0, 1) := by decide +kernel
theorem dX14_digestPlayer_29 : decode cX14_digestPlayer 29 = .ok (.i2l, 1) := by decide +kernel
theorem dX14_digestPlayer_30 : decode cX14_digestPlayer 30 = .ok (.ladd, 1) := by decide +kernel
theorem dX14_digestPlayer_31 : decode cX14_digestPlayer 31 = .ok (.lstore 4, 2) := by decide +kernel
theorem dX14_digestPlayer_33 : decode cX14_digestPlayer 33 = .ok (.lload 4, 2) := by decide +kernel
theorem dX14_digestPlayer_35 : decode cX14_digestPlayer 35 = .ok (.ldc2_w 428, 3) := by decide +kernel
theorem dX14_digestPlayer_38 : decode cX14_digestPlayer 38 = .ok (.lmul, 1) := by decide +kernel
theorem dX14_digestPlayer_39 : decode cX14_digestPlayer 39 = .ok (.aload_n 0, 1) := by decide +kernel
theorem dX14_digestPlayer_40 : decode cX14_digestPlayer 40 = .ok (.iload_n 3, 1) := by decide +kernel
theorem dX14_digestPlayer_41 : decode cX14_digestPlayer 41 = .ok (.invokevirtual 395, 3) := by decide +kernel
theorem dX14_digestPlayer_44 : decode cX14_digestPlayer 44 = .ok (.i2l, 1) := by decide +kernel
theorem dX14_digestPlayer_45 : decode cX14_digestPlayer 45 = .ok (.ladd, 1) := by decide +kernel
theorem dX14_digestPlayer_46 : decode cX14_digestPlayer 46 = .ok (.ldc2_w 428, 3) := by decide +kernel
theorem dX14_digestPlayer_49 : decode cX14_digestPlayer 49 = .ok (.lmul, 1) := by decide +kernel
theorem dX14_digestPlayer_50 : decode cX14_digestPlayer 50 = .ok (.aload_n 0, 1) := by decide +kernel
theorem dX14_digestPlayer_51 : decode cX14_digestPlayer 51 = .ok (.iload_n 3, 1) := by decide +kernel
theorem dX14_digestPlayer_52 : decode cX14_digestPlayer 52 = .ok (.invokevirtual 398, 3) := by decide +kernel
theorem dX14_digestPlayer_55 : decode cX14_digestPlayer 55 = .ok (.i2l, 1) := by decide +kernel
theorem dX14_digestPlayer_56 : decode cX14_digestPlayer 56 = .ok (.ladd, 1) := by decide +kernel
theorem dX14_digestPlayer_57 : decode cX14_digestPlayer 57 = .ok (.lstore 4, 2) := by decide +kernel
theorem dX14_digestPlayer_59 : decode cX14_digestPlayer 59 = .ok (.lload 4, 2) := by decide +kernel
theorem dX14_digestPlayer_61 : decode cX14_digestPlayer 61 = .ok (.ldc2_w 428, 3) := by decide +kernel
theorem dX14_digestPlayer_64 : decode cX14_digestPlayer 64 = .ok (.lmul, 1) := by decide +kernel
theorem dX14_digestPlayer_65 : decode cX14_digestPlayer 65 = .ok (.aload_n 0, 1) := by decide +kernel
theorem dX14_digestPlayer_66 : decode cX14_digestPlayer 66 = .ok (.iload_n 3, 1) := by decide +kernel
theorem dX14_digestPlayer_67 : decode cX14_digestPlayer 67 = .ok (.iconst 1, 1) := by decide +kernel
theorem dX14_digestPlayer_68 : decode cX14_digestPlayer 68 = .ok (.invokevirtual 339, 3) := by decide +kernel
theorem dX14_digestPlayer_71 : decode cX14_digestPlayer 71 = .ok (.i2l, 1) := by decide +kernel
theorem dX14_digestPlayer_72 : decode cX14_digestPlayer 72 = .ok (.ladd, 1) := by decide +kernel
theorem dX14_digestPlayer_73 : decode cX14_digestPlayer 73 = .ok (.ldc2_w 428, 3) := by decide +kernel
theorem dX14_digestPlayer_76 : decode cX14_digestPlayer 76 = .ok (.lmul, 1) := by decide +kernel
theorem dX14_digestPlayer_77 : decode cX14_digestPlayer 77 = .ok (.aload_n 0, 1) := by decide +kernel
theorem dX14_digestPlayer_78 : decode cX14_digestPlayer 78 = .ok (.iload_n 3, 1) := by decide +kernel
theorem dX14_digestPlayer_79 : decode cX14_digestPlayer 79 = .ok (.iconst 2, 1) := by decide +kernel
theorem dX14_digestPlayer_80 : decode cX14_digestPlayer 80 = .ok (.invokevirtual 339, 3) := by decide +kernel
theorem dX14_digestPlayer_83 : decode cX14_digestPlayer 83 = .ok (.i2l, 1) := by decide +kernel
theorem dX14_digestPlayer_84 : decode cX14_digestPlayer 84 = .ok (.ladd, 1) := by decide +kernel
theorem dX14_digestPlayer_85 : decode cX14_digestPlayer 85 = .ok (.lstore 4, 2) := by decide +kernel
theorem dX14_digestPlayer_87 : decode cX14_digestPlayer 87 = .ok (.lload 4, 2) := by decide +kernel
theorem dX14_digestPlayer_89 : decode cX14_digestPlayer 89 = .ok (.ldc2_w 428, 3) := by decide +kernel
theorem dX14_digestPlayer_92 : decode cX14_digestPlayer 92 = .ok (.lmul, 1) := by decide +kernel
theorem dX14_digestPlayer_93 : decode cX14_digestPlayer 93 = .ok (.aload_n 0, 1) := by decide +kernel
theorem dX14_digestPlayer_94 : decode cX14_digestPlayer 94 = .ok (.iload_n 3, 1) := by decide +kernel
theorem dX14_digestPlayer_95 : decode cX14_digestPlayer 95 = .ok (.iconst 0, 1) := by decide +kernel
theorem dX14_digestPlayer_96 : decode cX14_digestPlayer 96 = .ok (.invokevirtual 351, 3) := by decide +kernel
theorem dX14_digestPlayer_99 : decode cX14_digestPlayer 99 = .ok (.i2l, 1) := by decide +kernel
theorem dX14_digestPlayer_100 : decode cX14_digestPlayer 100 = .ok (.ladd, 1) := by decide +kernel
theorem dX14_digestPlayer_101 : decode cX14_digestPlayer 101 = .ok (.ldc2_w 428, 3) := by decide +kernel
theorem dX14_digestPlayer_104 : decode cX14_digestPlayer 104 = .ok (.lmul, 1) := by decide +kernel
theorem dX14_digestPlayer_105 : decode cX14_digestPlayer 105 = .ok (.aload_n 0, 1) := by decide +kernel
theorem dX14_digestPlayer_106 : decode cX14_digestPlayer 106 = .ok (.iload_n 3, 1) := by decide +kernel
theorem dX14_digestPlayer_107 : decode cX14_digestPlayer 107 = .ok (.invokevirtual 342, 3) := by decide +kernel
theorem dX14_digestPlayer_110 : decode cX14_digestPlayer 110 = .ok (.i2l, 1) := by decide +kernel
theorem dX14_digestPlayer_111 : decode cX14_digestPlayer 111 = .ok (.ladd, 1) := by decide +kernel
theorem dX14_digestPlayer_112 : decode cX14_digestPlayer 112 = .ok (.lreturn, 1) := by decide +kernel
theorem dX14_digest_0 : decode cX14_digest 0 = .ok (.aload_n 0, 1) := by decide +kernel
theorem dX14_digest_1 : decode cX14_digest 1 = .ok (.iconst 0, 1) := by decide +kernel
theorem dX14_digest_2 : decode cX14_digest 2 = .ok (.putfield 73, 3) := by decide +kernel
theorem dX14_digest_5 : decode cX14_digest 5 = .ok (.bipush 8, 2) := by decide +kernel
theorem dX14_digest_7 : decode cX14_digest 7 = .ok (.newarray .int, 2) := by decide +kernel
theorem dX14_digest_9 : decode cX14_digest 9 = .ok (.dup, 1) := by decide +kernel
theorem dX14_digest_10 : decode cX14_digest 10 = .ok (.iconst 0, 1) := by decide +kernel
theorem dX14_digest_11 : decode cX14_digest 11 = .ok (.aload_n 0, 1) := by decide +kernel
theorem dX14_digest_12 : decode cX14_digest 12 = .ok (.getfield 29, 3) := by decide +kernel
theorem dX14_digest_15 : decode cX14_digest 15 = .ok (.getfield 208, 3) := by decide +kernel
theorem dX14_digest_18 : decode cX14_digest 18 = .ok (.iastore, 1) := by decide +kernel
theorem dX14_digest_19 : decode cX14_digest 19 = .ok (.dup, 1) := by decide +kernel
theorem dX14_digest_20 : decode cX14_digest 20 = .ok (.iconst 1, 1) := by decide +kernel
theorem dX14_digest_21 : decode cX14_digest 21 = .ok (.aload_n 0, 1) := by decide +kernel
theorem dX14_digest_22 : decode cX14_digest 22 = .ok (.getfield 29, 3) := by decide +kernel
theorem dX14_digest_25 : decode cX14_digest 25 = .ok (.getfield 211, 3) := by decide +kernel
theorem dX14_digest_28 : decode cX14_digest 28 = .ok (.iastore, 1) := by decide +kernel
theorem dX14_digest_29 : decode cX14_digest 29 = .ok (.dup, 1) := by decide +kernel
theorem dX14_digest_30 : decode cX14_digest 30 = .ok (.iconst 2, 1) := by decide +kernel
theorem dX14_digest_31 : decode cX14_digest 31 = .ok (.aload_n 0, 1) := by decide +kernel
theorem dX14_digest_32 : decode cX14_digest 32 = .ok (.getfield 29, 3) := by decide +kernel
theorem dX14_digest_35 : decode cX14_digest 35 = .ok (.getfield 215, 3) := by decide +kernel
theorem dX14_digest_38 : decode cX14_digest 38 = .ok (.iastore, 1) := by decide +kernel
theorem dX14_digest_39 : decode cX14_digest 39 = .ok (.dup, 1) := by decide +kernel
theorem dX14_digest_40 : decode cX14_digest 40 = .ok (.iconst 3, 1) := by decide +kernel
theorem dX14_digest_41 : decode cX14_digest 41 = .ok (.aload_n 0, 1) := by decide +kernel
theorem dX14_digest_42 : decode cX14_digest 42 = .ok (.getfield 269, 3) := by decide +kernel
theorem dX14_digest_45 : decode cX14_digest 45 = .ok (.iastore, 1) := by decide +kernel
theorem dX14_digest_46 : decode cX14_digest 46 = .ok (.dup, 1) := by decide +kernel
theorem dX14_digest_47 : decode cX14_digest 47 = .ok (.iconst 4, 1) := by decide +kernel
theorem dX14_digest_48 : decode cX14_digest 48 = .ok (.aload_n 0, 1) := by decide +kernel
theorem dX14_digest_49 : decode cX14_digest 49 = .ok (.getfield 80, 3) := by decide +kernel
theorem dX14_digest_52 : decode cX14_digest 52 = .ok (.iastore, 1) := by decide +kernel
theorem dX14_digest_53 : decode cX14_digest 53 = .ok (.dup, 1) := by decide +kernel
theorem dX14_digest_54 : decode cX14_digest 54 = .ok (.iconst 5, 1) := by decide +kernel
theorem dX14_digest_55 : decode cX14_digest 55 = .ok (.aload_n 0, 1) := by decide +kernel
theorem dX14_digest_56 : decode cX14_digest 56 = .ok (.iconst (-1), 1) := by decide +kernel
theorem dX14_digest_57 : decode cX14_digest 57 = .ok (.invokevirtual 307, 3) := by decide +kernel
theorem dX14_digest_60 : decode cX14_digest 60 = .ok (.iastore, 1) := by decide +kernel
theorem dX14_digest_61 : decode cX14_digest 61 = .ok (.dup, 1) := by decide +kernel
theorem dX14_digest_62 : decode cX14_digest 62 = .ok (.bipush 6, 2) := by decide +kernel
theorem dX14_digest_64 : decode cX14_digest 64 = .ok (.aload_n 0, 1) := by decide +kernel
theorem dX14_digest_65 : decode cX14_digest 65 = .ok (.invokevirtual 404, 3) := by decide +kernel
theorem dX14_digest_68 : decode cX14_digest 68 = .ok (.iastore, 1) := by decide +kernel
theorem dX14_digest_69 : decode cX14_digest 69 = .ok (.dup, 1) := by decide +kernel
theorem dX14_digest_70 : decode cX14_digest 70 = .ok (.bipush 7, 2) := by decide +kernel
theorem dX14_digest_72 : decode cX14_digest 72 = .ok (.aload_n 0, 1) := by decide +kernel
theorem dX14_digest_73 : decode cX14_digest 73 = .ok (.invokevirtual 370, 3) := by decide +kernel
theorem dX14_digest_76 : decode cX14_digest 76 = .ok (.ifCond .eq 7, 3) := by decide +kernel
theorem dX14_digest_79 : decode cX14_digest 79 = .ok (.iconst 1, 1) := by decide +kernel
theorem dX14_digest_80 : decode cX14_digest 80 = .ok (.goto 4, 3) := by decide +kernel
theorem dX14_digest_83 : decode cX14_digest 83 = .ok (.iconst 0, 1) := by decide +kernel
theorem dX14_digest_84 : decode cX14_digest 84 = .ok (.iastore, 1) := by decide +kernel
theorem dX14_digest_85 : decode cX14_digest 85 = .ok (.astore_n 1, 1) := by decide +kernel
theorem dX14_digest_86 : decode cX14_digest 86 = .ok (.ldc2_w 430, 3) := by decide +kernel
theorem dX14_digest_89 : decode cX14_digest 89 = .ok (.lstore_n 2, 1) := by decide +kernel
theorem dX14_digest_90 : decode cX14_digest 90 = .ok (.aload_n 1, 1) := by decide +kernel
theorem dX14_digest_91 : decode cX14_digest 91 = .ok (.astore 4, 2) := by decide +kernel
theorem dX14_digest_93 : decode cX14_digest 93 = .ok (.aload 4, 2) := by decide +kernel
theorem dX14_digest_95 : decode cX14_digest 95 = .ok (.arraylength, 1) := by decide +kernel
theorem dX14_digest_96 : decode cX14_digest 96 = .ok (.istore 5, 2) := by decide +kernel
theorem dX14_digest_98 : decode cX14_digest 98 = .ok (.iconst 0, 1) := by decide +kernel
theorem dX14_digest_99 : decode cX14_digest 99 = .ok (.istore 6, 2) := by decide +kernel
theorem dX14_digest_101 : decode cX14_digest 101 = .ok (.iload 6, 2) := by decide +kernel
theorem dX14_digest_103 : decode cX14_digest 103 = .ok (.iload 5, 2) := by decide +kernel
theorem dX14_digest_105 : decode cX14_digest 105 = .ok (.if_icmp .ge 26, 3) := by decide +kernel
theorem dX14_digest_108 : decode cX14_digest 108 = .ok (.aload 4, 2) := by decide +kernel
theorem dX14_digest_110 : decode cX14_digest 110 = .ok (.iload 6, 2) := by decide +kernel
theorem dX14_digest_112 : decode cX14_digest 112 = .ok (.iaload, 1) := by decide +kernel
theorem dX14_digest_113 : decode cX14_digest 113 = .ok (.istore 7, 2) := by decide +kernel
theorem dX14_digest_115 : decode cX14_digest 115 = .ok (.lload_n 2, 1) := by decide +kernel
theorem dX14_digest_116 : decode cX14_digest 116 = .ok (.ldc2_w 428, 3) := by decide +kernel
theorem dX14_digest_119 : decode cX14_digest 119 = .ok (.lmul, 1) := by decide +kernel
theorem dX14_digest_120 : decode cX14_digest 120 = .ok (.iload 7, 2) := by decide +kernel
theorem dX14_digest_122 : decode cX14_digest 122 = .ok (.i2l, 1) := by decide +kernel
theorem dX14_digest_123 : decode cX14_digest 123 = .ok (.ladd, 1) := by decide +kernel
theorem dX14_digest_124 : decode cX14_digest 124 = .ok (.lstore_n 2, 1) := by decide +kernel
theorem dX14_digest_125 : decode cX14_digest 125 = .ok (.iinc 6 1, 3) := by decide +kernel
theorem dX14_digest_128 : decode cX14_digest 128 = .ok (.goto (-27), 3) := by decide +kernel
theorem dX14_digest_131 : decode cX14_digest 131 = .ok (.aload_n 0, 1) := by decide +kernel
theorem dX14_digest_132 : decode cX14_digest 132 = .ok (.aload_n 0, 1) := by decide +kernel
theorem dX14_digest_133 : decode cX14_digest 133 = .ok (.lload_n 2, 1) := by decide +kernel
theorem dX14_digest_134 : decode cX14_digest 134 = .ok (.iconst 0, 1) := by decide +kernel
theorem dX14_digest_135 : decode cX14_digest 135 = .ok (.invokevirtual 432, 3) := by decide +kernel
theorem dX14_digest_138 : decode cX14_digest 138 = .ok (.iconst 1, 1) := by decide +kernel
theorem dX14_digest_139 : decode cX14_digest 139 = .ok (.invokevirtual 432, 3) := by decide +kernel
theorem dX14_digest_142 : decode cX14_digest 142 = .ok (.lstore_n 2, 1) := by decide +kernel
theorem dX14_digest_143 : decode cX14_digest 143 = .ok (.iconst 0, 1) := by decide +kernel
theorem dX14_digest_144 : decode cX14_digest 144 = .ok (.istore 4, 2) := by decide +kernel
theorem dX14_digest_146 : decode cX14_digest 146 = .ok (.iload 4, 2) := by decide +kernel
theorem dX14_digest_148 : decode cX14_digest 148 = .ok (.aload_n 0, 1) := by decide +kernel
theorem dX14_digest_149 : decode cX14_digest 149 = .ok (.invokevirtual 275, 3) := by decide +kernel
theorem dX14_digest_152 : decode cX14_digest 152 = .ok (.if_icmp .ge 26, 3) := by decide +kernel
theorem dX14_digest_155 : decode cX14_digest 155 = .ok (.lload_n 2, 1) := by decide +kernel
theorem dX14_digest_156 : decode cX14_digest 156 = .ok (.ldc2_w 428, 3) := by decide +kernel
theorem dX14_digest_159 : decode cX14_digest 159 = .ok (.lmul, 1) := by decide +kernel
theorem dX14_digest_160 : decode cX14_digest 160 = .ok (.aload_n 0, 1) := by decide +kernel
theorem dX14_digest_161 : decode cX14_digest 161 = .ok (.getfield 39, 3) := by decide +kernel
theorem dX14_digest_164 : decode cX14_digest 164 = .ok (.iload 4, 2) := by decide +kernel
theorem dX14_digest_166 : decode cX14_digest 166 = .ok (.iaload, 1) := by decide +kernel
theorem dX14_digest_167 : decode cX14_digest 167 = .ok (.iconst 1, 1) := by decide +kernel
theorem dX14_digest_168 : decode cX14_digest 168 = .ok (.iadd, 1) := by decide +kernel
theorem dX14_digest_169 : decode cX14_digest 169 = .ok (.i2l, 1) := by decide +kernel
theorem dX14_digest_170 : decode cX14_digest 170 = .ok (.ladd, 1) := by decide +kernel
theorem dX14_digest_171 : decode cX14_digest 171 = .ok (.lstore_n 2, 1) := by decide +kernel
theorem dX14_digest_172 : decode cX14_digest 172 = .ok (.iinc 4 1, 3) := by decide +kernel
theorem dX14_digest_175 : decode cX14_digest 175 = .ok (.goto (-29), 3) := by decide +kernel
theorem dX14_digest_178 : decode cX14_digest 178 = .ok (.lload_n 2, 1) := by decide +kernel
theorem dX14_digest_179 : decode cX14_digest 179 = .ok (.lreturn, 1) := by decide +kernel
theorem dJx29ce0_ordinal_8abf5_0 : decode cJx29ce0_ordinal_8abf5 0 = .ok (.aload_n 0, 1) := by decide +kernel
theorem dJx29ce0_ordinal_8abf5_1 : decode cJx29ce0_ordinal_8abf5 1 = .ok (.getfield 7, 3) := by decide +kernel
theorem dJx29ce0_ordinal_8abf5_4 : decode cJx29ce0_ordinal_8abf5 4 = .ok (.ireturn, 1) := by decide +kernel
theorem dJ9_floorMod_7cf53_0 : decode cJ9_floorMod_7cf53 0 = .ok (.iload_n 0, 1) := by decide +kernel
theorem dJ9_floorMod_7cf53_1 : decode cJ9_floorMod_7cf53 1 = .ok (.iload_n 1, 1) := by decide +kernel
theorem dJ9_floorMod_7cf53_2 : decode cJ9_floorMod_7cf53 2 = .ok (.irem, 1) := by decide +kernel
theorem dJ9_floorMod_7cf53_3 : decode cJ9_floorMod_7cf53 3 = .ok (.istore_n 2, 1) := by decide +kernel
theorem dJ9_floorMod_7cf53_4 : decode cJ9_floorMod_7cf53 4 = .ok (.iload_n 0, 1) := by decide +kernel
theorem dJ9_floorMod_7cf53_5 : decode cJ9_floorMod_7cf53 5 = .ok (.iload_n 1, 1) := by decide +kernel
theorem dJ9_floorMod_7cf53_6 : decode cJ9_floorMod_7cf53 6 = .ok (.ixor, 1) := by decide +kernel
theorem dJ9_floorMod_7cf53_7 : decode cJ9_floorMod_7cf53 7 = .ok (.ifCond .ge 11, 3) := by decide +kernel
theorem dJ9_floorMod_7cf53_10 : decode cJ9_floorMod_7cf53 10 = .ok (.iload_n 2, 1) := by decide +kernel
theorem dJ9_floorMod_7cf53_11 : decode cJ9_floorMod_7cf53 11 = .ok (.ifCond .eq 7, 3) := by decide +kernel
theorem dJ9_floorMod_7cf53_14 : decode cJ9_floorMod_7cf53 14 = .ok (.iload_n 2, 1) := by decide +kernel
theorem dJ9_floorMod_7cf53_15 : decode cJ9_floorMod_7cf53 15 = .ok (.iload_n 1, 1) := by decide +kernel
theorem dJ9_floorMod_7cf53_16 : decode cJ9_floorMod_7cf53 16 = .ok (.iadd, 1) := by decide +kernel
theorem dJ9_floorMod_7cf53_17 : decode cJ9_floorMod_7cf53 17 = .ok (.ireturn, 1) := by decide +kernel
theorem dJ9_floorMod_7cf53_18 : decode cJ9_floorMod_7cf53 18 = .ok (.iload_n 2, 1) := by decide +kernel
theorem dJ9_floorMod_7cf53_19 : decode cJ9_floorMod_7cf53 19 = .ok (.ireturn, 1) := by decide +kernel
theorem dJ9_max_7cf53_0 : decode cJ9_max_7cf53 0 = .ok (.iload_n 0, 1) := by decide +kernel
theorem dJ9_max_7cf53_1 : decode cJ9_max_7cf53 1 = .ok (.iload_n 1, 1) := by decide +kernel
theorem dJ9_max_7cf53_2 : decode cJ9_max_7cf53 2 = .ok (.if_icmp .lt 7, 3) := by decide +kernel
theorem dJ9_max_7cf53_5 : decode cJ9_max_7cf53 5 = .ok (.iload_n 0, 1) := by decide +kernel
theorem dJ9_max_7cf53_6 : decode cJ9_max_7cf53 6 = .ok (.goto 4, 3) := by decide +kernel
theorem dJ9_max_7cf53_9 : decode cJ9_max_7cf53 9 = .ok (.iload_n 1, 1) := by decide +kernel
theorem dJ9_max_7cf53_10 : decode cJ9_max_7cf53 10 = .ok (.ireturn, 1) := by decide +kernel
theorem dJ9_min_7cf53_0 : decode cJ9_min_7cf53 0 = .ok (.iload_n 0, 1) := by decide +kernel
theorem dJ9_min_7cf53_1 : decode cJ9_min_7cf53 1 = .ok (.iload_n 1, 1) := by decide +kernel
theorem dJ9_min_7cf53_2 : decode cJ9_min_7cf53 2 = .ok (.if_icmp .gt 7, 3) := by decide +kernel
theorem dJ9_min_7cf53_5 : decode cJ9_min_7cf53 5 = .ok (.iload_n 0, 1) := by decide +kernel
theorem dJ9_min_7cf53_6 : decode cJ9_min_7cf53 6 = .ok (.goto 4, 3) := by decide +kernel
theorem dJ9_min_7cf53_9 : decode cJ9_min_7cf53 9 = .ok (.iload_n 1, 1) := by decide +kernel
theorem dJ9_min_7cf53_10 : decode cJ9_min_7cf53 10 = .ok (.ireturn, 1) := by decide +kernel
theorem dJ0_length_8abf5_0 : decode cJ0_length_8abf5 0 = .ok (.aload_n 0, 1) := by decide +kernel
theorem dJ0_length_8abf5_1 : decode cJ0_length_8abf5 1 = .ok (.getfield 9, 3) := by decide +kernel
theorem dJ0_length_8abf5_4 : decode cJ0_length_8abf5 4 = .ok (.arraylength, 1) := by decide +kernel
theorem dJ0_length_8abf5_5 : decode cJ0_length_8abf5 5 = .ok (.aload_n 0, 1) := by decide +kernel
theorem dJ0_length_8abf5_6 : decode cJ0_length_8abf5 6 = .ok (.invokevirtual 335, 3) := by decide +kernel
theorem dJ0_length_8abf5_9 : decode cJ0_length_8abf5 9 = .ok (.ishr, 1) := by decide +kernel
theorem dJ0_length_8abf5_10 : decode cJ0_length_8abf5 10 = .ok (.ireturn, 1) := by decide +kernel
theorem dJ0_charAt_5068e_0 : decode cJ0_charAt_5068e 0 = .ok (.aload_n 0, 1) := by decide +kernel
theorem dJ0_charAt_5068e_1 : decode cJ0_charAt_5068e 1 = .ok (.invokevirtual 492, 3) := by decide +kernel
theorem dJ0_charAt_5068e_4 : decode cJ0_charAt_5068e 4 = .ok (.ifCond .eq 12, 3) := by decide +kernel
theorem dJ0_charAt_5068e_7 : decode cJ0_charAt_5068e 7 = .ok (.aload_n 0, 1) := by decide +kernel
theorem dJ0_charAt_5068e_8 : decode cJ0_charAt_5068e 8 = .ok (.getfield 9, 3) := by decide +kernel
theorem dJ0_charAt_5068e_11 : decode cJ0_charAt_5068e 11 = .ok (.iload_n 1, 1) := by decide +kernel
theorem dJ0_charAt_5068e_12 : decode cJ0_charAt_5068e 12 = .ok (.invokestatic 495, 3) := by decide +kernel
theorem dJ0_charAt_5068e_15 : decode cJ0_charAt_5068e 15 = .ok (.ireturn, 1) := by decide +kernel
theorem dJ0_charAt_5068e_16 : decode cJ0_charAt_5068e 16 = .ok (.aload_n 0, 1) := by decide +kernel
theorem dJ0_charAt_5068e_17 : decode cJ0_charAt_5068e 17 = .ok (.getfield 9, 3) := by decide +kernel
theorem dJ0_charAt_5068e_20 : decode cJ0_charAt_5068e 20 = .ok (.iload_n 1, 1) := by decide +kernel
theorem dJ0_charAt_5068e_21 : decode cJ0_charAt_5068e 21 = .ok (.invokestatic 498, 3) := by decide +kernel
theorem dJ0_charAt_5068e_24 : decode cJ0_charAt_5068e 24 = .ok (.ireturn, 1) := by decide +kernel
theorem dJ0_coder_7d493_0 : decode cJ0_coder_7d493 0 = .ok (.getstatic 38, 3) := by decide +kernel
theorem dJ0_coder_7d493_3 : decode cJ0_coder_7d493 3 = .ok (.ifCond .eq 10, 3) := by decide +kernel
theorem dJ0_coder_7d493_6 : decode cJ0_coder_7d493 6 = .ok (.aload_n 0, 1) := by decide +kernel
theorem dJ0_coder_7d493_7 : decode cJ0_coder_7d493 7 = .ok (.getfield 15, 3) := by decide +kernel
theorem dJ0_coder_7d493_10 : decode cJ0_coder_7d493 10 = .ok (.goto 4, 3) := by decide +kernel
theorem dJ0_coder_7d493_13 : decode cJ0_coder_7d493 13 = .ok (.iconst 1, 1) := by decide +kernel
theorem dJ0_coder_7d493_14 : decode cJ0_coder_7d493 14 = .ok (.ireturn, 1) := by decide +kernel
theorem dJ0_isLatin1_aae02_0 : decode cJ0_isLatin1_aae02 0 = .ok (.getstatic 38, 3) := by decide +kernel
theorem dJ0_isLatin1_aae02_3 : decode cJ0_isLatin1_aae02 3 = .ok (.ifCond .eq 14, 3) := by decide +kernel
theorem dJ0_isLatin1_aae02_6 : decode cJ0_isLatin1_aae02 6 = .ok (.aload_n 0, 1) := by decide +kernel
theorem dJ0_isLatin1_aae02_7 : decode cJ0_isLatin1_aae02 7 = .ok (.getfield 15, 3) := by decide +kernel
theorem dJ0_isLatin1_aae02_10 : decode cJ0_isLatin1_aae02 10 = .ok (.ifCond .ne 7, 3) := by decide +kernel
theorem dJ0_isLatin1_aae02_13 : decode cJ0_isLatin1_aae02 13 = .ok (.iconst 1, 1) := by decide +kernel
theorem dJ0_isLatin1_aae02_14 : decode cJ0_isLatin1_aae02 14 = .ok (.goto 4, 3) := by decide +kernel
theorem dJ0_isLatin1_aae02_17 : decode cJ0_isLatin1_aae02 17 = .ok (.iconst 0, 1) := by decide +kernel
theorem dJ0_isLatin1_aae02_18 : decode cJ0_isLatin1_aae02 18 = .ok (.ireturn, 1) := by decide +kernel
theorem dJ0_checkIndex_df160_0 : decode cJ0_checkIndex_df160 0 = .ok (.iload_n 0, 1) := by decide +kernel
theorem dJ0_checkIndex_df160_1 : decode cJ0_checkIndex_df160 1 = .ok (.iload_n 1, 1) := by decide +kernel
theorem dJ0_checkIndex_df160_2 : decode cJ0_checkIndex_df160 2 = .ok (.getstatic 1053, 3) := by decide +kernel
theorem dJ0_checkIndex_df160_5 : decode cJ0_checkIndex_df160 5 = .ok (.invokestatic 1059, 3) := by decide +kernel
theorem dJ0_checkIndex_df160_8 : decode cJ0_checkIndex_df160 8 = .ok (.pop, 1) := by decide +kernel
theorem dJ0_checkIndex_df160_9 : decode cJ0_checkIndex_df160 9 = .ok (.return_, 1) := by decide +kernel
theorem dJ1_charAt_3b067_0 : decode cJ1_charAt_3b067 0 = .ok (.iload_n 1, 1) := by decide +kernel
theorem dJ1_charAt_3b067_1 : decode cJ1_charAt_3b067 1 = .ok (.aload_n 0, 1) := by decide +kernel
theorem dJ1_charAt_3b067_2 : decode cJ1_charAt_3b067 2 = .ok (.arraylength, 1) := by decide +kernel
theorem dJ1_charAt_3b067_3 : decode cJ1_charAt_3b067 3 = .ok (.invokestatic 9, 3) := by decide +kernel
theorem dJ1_charAt_3b067_6 : decode cJ1_charAt_3b067 6 = .ok (.aload_n 0, 1) := by decide +kernel
theorem dJ1_charAt_3b067_7 : decode cJ1_charAt_3b067 7 = .ok (.iload_n 1, 1) := by decide +kernel
theorem dJ1_charAt_3b067_8 : decode cJ1_charAt_3b067 8 = .ok (.baload, 1) := by decide +kernel
theorem dJ1_charAt_3b067_9 : decode cJ1_charAt_3b067 9 = .ok (.sipush 255, 3) := by decide +kernel
theorem dJ1_charAt_3b067_12 : decode cJ1_charAt_3b067 12 = .ok (.iand, 1) := by decide +kernel
theorem dJ1_charAt_3b067_13 : decode cJ1_charAt_3b067 13 = .ok (.i2c, 1) := by decide +kernel
theorem dJ1_charAt_3b067_14 : decode cJ1_charAt_3b067 14 = .ok (.ireturn, 1) := by decide +kernel
theorem dJ2_getChar_3b067_0 : decode cJ2_getChar_3b067 0 = .ok (.getstatic 44, 3) := by decide +kernel
theorem dJ2_getChar_3b067_3 : decode cJ2_getChar_3b067 3 = .ok (.ifCond .ne 25, 3) := by decide +kernel
theorem dJ2_getChar_3b067_6 : decode cJ2_getChar_3b067 6 = .ok (.iload_n 1, 1) := by decide +kernel
theorem dJ2_getChar_3b067_7 : decode cJ2_getChar_3b067 7 = .ok (.ifCond .lt 11, 3) := by decide +kernel
theorem dJ2_getChar_3b067_10 : decode cJ2_getChar_3b067 10 = .ok (.iload_n 1, 1) := by decide +kernel
theorem dJ2_getChar_3b067_11 : decode cJ2_getChar_3b067 11 = .ok (.aload_n 0, 1) := by decide +kernel
theorem dJ2_getChar_3b067_12 : decode cJ2_getChar_3b067 12 = .ok (.invokestatic 48, 3) := by decide +kernel
theorem dJ2_getChar_3b067_15 : decode cJ2_getChar_3b067 15 = .ok (.if_icmp .lt 13, 3) := by decide +kernel
theorem dJ2_getChar_3b067_18 : decode cJ2_getChar_3b067 18 = .ok (.new 52, 3) := by decide +kernel
theorem dJ2_getChar_3b067_21 : decode cJ2_getChar_3b067 21 = .ok (.dup, 1) := by decide +kernel
theorem dJ2_getChar_3b067_22 : decode cJ2_getChar_3b067 22 = .ok (.ldc 54, 2) := by decide +kernel
theorem dJ2_getChar_3b067_24 : decode cJ2_getChar_3b067 24 = .ok (.invokespecial 56, 3) := by decide +kernel
theorem dJ2_getChar_3b067_27 : decode cJ2_getChar_3b067 27 = .ok (.athrow, 1) := by decide +kernel
theorem dJ2_getChar_3b067_28 : decode cJ2_getChar_3b067 28 = .ok (.iload_n 1, 1) := by decide +kernel
theorem dJ2_getChar_3b067_29 : decode cJ2_getChar_3b067 29 = .ok (.iconst 1, 1) := by decide +kernel
theorem dJ2_getChar_3b067_30 : decode cJ2_getChar_3b067 30 = .ok (.ishl, 1) := by decide +kernel
theorem dJ2_getChar_3b067_31 : decode cJ2_getChar_3b067 31 = .ok (.istore_n 1, 1) := by decide +kernel
theorem dJ2_getChar_3b067_32 : decode cJ2_getChar_3b067 32 = .ok (.aload_n 0, 1) := by decide +kernel
theorem dJ2_getChar_3b067_33 : decode cJ2_getChar_3b067 33 = .ok (.iload_n 1, 1) := by decide +kernel
theorem dJ2_getChar_3b067_34 : decode cJ2_getChar_3b067 34 = .ok (.iinc 1 1, 3) := by decide +kernel
theorem dJ2_getChar_3b067_37 : decode cJ2_getChar_3b067 37 = .ok (.baload, 1) := by decide +kernel
theorem dJ2_getChar_3b067_38 : decode cJ2_getChar_3b067 38 = .ok (.sipush 255, 3) := by decide +kernel
theorem dJ2_getChar_3b067_41 : decode cJ2_getChar_3b067 41 = .ok (.iand, 1) := by decide +kernel
theorem dJ2_getChar_3b067_42 : decode cJ2_getChar_3b067 42 = .ok (.getstatic 59, 3) := by decide +kernel
theorem dJ2_getChar_3b067_45 : decode cJ2_getChar_3b067 45 = .ok (.ishl, 1) := by decide +kernel
theorem dJ2_getChar_3b067_46 : decode cJ2_getChar_3b067 46 = .ok (.aload_n 0, 1) := by decide +kernel
theorem dJ2_getChar_3b067_47 : decode cJ2_getChar_3b067 47 = .ok (.iload_n 1, 1) := by decide +kernel
theorem dJ2_getChar_3b067_48 : decode cJ2_getChar_3b067 48 = .ok (.baload, 1) := by decide +kernel
theorem dJ2_getChar_3b067_49 : decode cJ2_getChar_3b067 49 = .ok (.sipush 255, 3) := by decide +kernel
theorem dJ2_getChar_3b067_52 : decode cJ2_getChar_3b067 52 = .ok (.iand, 1) := by decide +kernel
theorem dJ2_getChar_3b067_53 : decode cJ2_getChar_3b067 53 = .ok (.getstatic 63, 3) := by decide +kernel
theorem dJ2_getChar_3b067_56 : decode cJ2_getChar_3b067 56 = .ok (.ishl, 1) := by decide +kernel
theorem dJ2_getChar_3b067_57 : decode cJ2_getChar_3b067 57 = .ok (.ior, 1) := by decide +kernel
theorem dJ2_getChar_3b067_58 : decode cJ2_getChar_3b067 58 = .ok (.i2c, 1) := by decide +kernel
theorem dJ2_getChar_3b067_59 : decode cJ2_getChar_3b067 59 = .ok (.ireturn, 1) := by decide +kernel
theorem dJ2_length_9d52b_0 : decode cJ2_length_9d52b 0 = .ok (.aload_n 0, 1) := by decide +kernel
theorem dJ2_length_9d52b_1 : decode cJ2_length_9d52b 1 = .ok (.arraylength, 1) := by decide +kernel
theorem dJ2_length_9d52b_2 : decode cJ2_length_9d52b 2 = .ok (.iconst 1, 1) := by decide +kernel
theorem dJ2_length_9d52b_3 : decode cJ2_length_9d52b 3 = .ok (.ishr, 1) := by decide +kernel
theorem dJ2_length_9d52b_4 : decode cJ2_length_9d52b 4 = .ok (.ireturn, 1) := by decide +kernel
theorem dJ2_charAt_3b067_0 : decode cJ2_charAt_3b067 0 = .ok (.iload_n 1, 1) := by decide +kernel
theorem dJ2_charAt_3b067_1 : decode cJ2_charAt_3b067 1 = .ok (.aload_n 0, 1) := by decide +kernel
theorem dJ2_charAt_3b067_2 : decode cJ2_charAt_3b067 2 = .ok (.invokestatic 67, 3) := by decide +kernel
theorem dJ2_charAt_3b067_5 : decode cJ2_charAt_3b067 5 = .ok (.aload_n 0, 1) := by decide +kernel
theorem dJ2_charAt_3b067_6 : decode cJ2_charAt_3b067 6 = .ok (.iload_n 1, 1) := by decide +kernel
theorem dJ2_charAt_3b067_7 : decode cJ2_charAt_3b067 7 = .ok (.invokestatic 71, 3) := by decide +kernel
theorem dJ2_charAt_3b067_10 : decode cJ2_charAt_3b067 10 = .ok (.ireturn, 1) := by decide +kernel
theorem dJ2_checkIndex_2214a_0 : decode cJ2_checkIndex_2214a 0 = .ok (.iload_n 0, 1) := by decide +kernel
theorem dJ2_checkIndex_2214a_1 : decode cJ2_checkIndex_2214a 1 = .ok (.aload_n 1, 1) := by decide +kernel
theorem dJ2_checkIndex_2214a_2 : decode cJ2_checkIndex_2214a 2 = .ok (.invokestatic 48, 3) := by decide +kernel
theorem dJ2_checkIndex_2214a_5 : decode cJ2_checkIndex_2214a 5 = .ok (.invokestatic 414, 3) := by decide +kernel
theorem dJ2_checkIndex_2214a_8 : decode cJ2_checkIndex_2214a 8 = .ok (.return_, 1) := by decide +kernel
theorem dJ7_fill_53178_0 : decode cJ7_fill_53178 0 = .ok (.iconst 0, 1) := by decide +kernel
theorem dJ7_fill_53178_1 : decode cJ7_fill_53178 1 = .ok (.istore_n 2, 1) := by decide +kernel
theorem dJ7_fill_53178_2 : decode cJ7_fill_53178 2 = .ok (.aload_n 0, 1) := by decide +kernel
theorem dJ7_fill_53178_3 : decode cJ7_fill_53178 3 = .ok (.arraylength, 1) := by decide +kernel
theorem dJ7_fill_53178_4 : decode cJ7_fill_53178 4 = .ok (.istore_n 3, 1) := by decide +kernel
theorem dJ7_fill_53178_5 : decode cJ7_fill_53178 5 = .ok (.iload_n 2, 1) := by decide +kernel
theorem dJ7_fill_53178_6 : decode cJ7_fill_53178 6 = .ok (.iload_n 3, 1) := by decide +kernel
theorem dJ7_fill_53178_7 : decode cJ7_fill_53178 7 = .ok (.if_icmp .ge 13, 3) := by decide +kernel
theorem dJ7_fill_53178_10 : decode cJ7_fill_53178 10 = .ok (.aload_n 0, 1) := by decide +kernel
theorem dJ7_fill_53178_11 : decode cJ7_fill_53178 11 = .ok (.iload_n 2, 1) := by decide +kernel
theorem dJ7_fill_53178_12 : decode cJ7_fill_53178 12 = .ok (.iload_n 1, 1) := by decide +kernel
theorem dJ7_fill_53178_13 : decode cJ7_fill_53178 13 = .ok (.iastore, 1) := by decide +kernel
theorem dJ7_fill_53178_14 : decode cJ7_fill_53178 14 = .ok (.iinc 2 1, 3) := by decide +kernel
theorem dJ7_fill_53178_17 : decode cJ7_fill_53178 17 = .ok (.goto (-12), 3) := by decide +kernel
theorem dJ7_fill_53178_20 : decode cJ7_fill_53178 20 = .ok (.return_, 1) := by decide +kernel
theorem dJ3_checkIndex_8e157_0 : decode cJ3_checkIndex_8e157 0 = .ok (.iload_n 0, 1) := by decide +kernel
theorem dJ3_checkIndex_8e157_1 : decode cJ3_checkIndex_8e157 1 = .ok (.ifCond .lt 8, 3) := by decide +kernel
theorem dJ3_checkIndex_8e157_4 : decode cJ3_checkIndex_8e157 4 = .ok (.iload_n 0, 1) := by decide +kernel
theorem dJ3_checkIndex_8e157_5 : decode cJ3_checkIndex_8e157 5 = .ok (.iload_n 1, 1) := by decide +kernel
theorem dJ3_checkIndex_8e157_6 : decode cJ3_checkIndex_8e157 6 = .ok (.if_icmp .lt 10, 3) := by decide +kernel
theorem dJ3_checkIndex_8e157_9 : decode cJ3_checkIndex_8e157 9 = .ok (.aload_n 2, 1) := by decide +kernel
theorem dJ3_checkIndex_8e157_10 : decode cJ3_checkIndex_8e157 10 = .ok (.iload_n 0, 1) := by decide +kernel
theorem dJ3_checkIndex_8e157_11 : decode cJ3_checkIndex_8e157 11 = .ok (.iload_n 1, 1) := by decide +kernel
theorem dJ3_checkIndex_8e157_12 : decode cJ3_checkIndex_8e157 12 = .ok (.invokestatic 95, 3) := by decide +kernel
theorem dJ3_checkIndex_8e157_15 : decode cJ3_checkIndex_8e157 15 = .ok (.athrow, 1) := by decide +kernel
theorem dJ3_checkIndex_8e157_16 : decode cJ3_checkIndex_8e157 16 = .ok (.iload_n 0, 1) := by decide +kernel
theorem dJ3_checkIndex_8e157_17 : decode cJ3_checkIndex_8e157 17 = .ok (.ireturn, 1) := by decide +kernel
theorem dL_feed_0 : decode cL_feed 0 = .ok (.aload 6, 2) := by decide +kernel
theorem dL_feed_2 : decode cL_feed 2 = .ok (.iconst 0, 1) := by decide +kernel
theorem dL_feed_3 : decode cL_feed 3 = .ok (.aload_n 0, 1) := by decide +kernel
theorem dL_feed_4 : decode cL_feed 4 = .ok (.iload_n 1, 1) := by decide +kernel
theorem dL_feed_5 : decode cL_feed 5 = .ok (.iload_n 2, 1) := by decide +kernel
theorem dL_feed_6 : decode cL_feed 6 = .ok (.iload_n 3, 1) := by decide +kernel
theorem dL_feed_7 : decode cL_feed 7 = .ok (.iload 4, 2) := by decide +kernel
theorem dL_feed_9 : decode cL_feed 9 = .ok (.iload 5, 2) := by decide +kernel
theorem dL_feed_11 : decode cL_feed 11 = .ok (.invokevirtual 7, 3) := by decide +kernel
theorem dL_feed_14 : decode cL_feed 14 = .ok (.i2l, 1) := by decide +kernel
theorem dL_feed_15 : decode cL_feed 15 = .ok (.lastore, 1) := by decide +kernel
theorem dL_feed_16 : decode cL_feed 16 = .ok (.goto 7, 3) := by decide +kernel
theorem dL_feed_19 : decode cL_feed 19 = .ok (.astore 7, 2) := by decide +kernel
theorem dL_feed_21 : decode cL_feed 21 = .ok (.iconst 1, 1) := by decide +kernel
theorem dL_feed_22 : decode cL_feed 22 = .ok (.ireturn, 1) := by decide +kernel
theorem dL_feed_23 : decode cL_feed 23 = .ok (.iconst 0, 1) := by decide +kernel
theorem dL_feed_24 : decode cL_feed 24 = .ok (.ireturn, 1) := by decide +kernel
theorem dL_trim_0 : decode cL_trim 0 = .ok (.aload_n 2, 1) := by decide +kernel
theorem dL_trim_1 : decode cL_trim 1 = .ok (.iconst 0, 1) := by decide +kernel
theorem dL_trim_2 : decode cL_trim 2 = .ok (.aload_n 0, 1) := by decide +kernel
theorem dL_trim_3 : decode cL_trim 3 = .ok (.iload_n 1, 1) := by decide +kernel
theorem dL_trim_4 : decode cL_trim 4 = .ok (.invokevirtual 15, 3) := by decide +kernel
theorem dL_trim_7 : decode cL_trim 7 = .ok (.i2l, 1) := by decide +kernel
theorem dL_trim_8 : decode cL_trim 8 = .ok (.lastore, 1) := by decide +kernel
theorem dL_trim_9 : decode cL_trim 9 = .ok (.goto 6, 3) := by decide +kernel
theorem dL_trim_12 : decode cL_trim 12 = .ok (.astore_n 3, 1) := by decide +kernel
theorem dL_trim_13 : decode cL_trim 13 = .ok (.iconst 1, 1) := by decide +kernel
theorem dL_trim_14 : decode cL_trim 14 = .ok (.ireturn, 1) := by decide +kernel
theorem dL_trim_15 : decode cL_trim 15 = .ok (.iconst 0, 1) := by decide +kernel
theorem dL_trim_16 : decode cL_trim 16 = .ok (.ireturn, 1) := by decide +kernel
theorem dL_stonesOf_0 : decode cL_stonesOf 0 = .ok (.aload_n 2, 1) := by decide +kernel
theorem dL_stonesOf_1 : decode cL_stonesOf 1 = .ok (.iconst 0, 1) := by decide +kernel
theorem dL_stonesOf_2 : decode cL_stonesOf 2 = .ok (.aload_n 0, 1) := by decide +kernel
theorem dL_stonesOf_3 : decode cL_stonesOf 3 = .ok (.iload_n 1, 1) := by decide +kernel
theorem dL_stonesOf_4 : decode cL_stonesOf 4 = .ok (.invokevirtual 21, 3) := by decide +kernel
theorem dL_stonesOf_7 : decode cL_stonesOf 7 = .ok (.i2l, 1) := by decide +kernel
theorem dL_stonesOf_8 : decode cL_stonesOf 8 = .ok (.lastore, 1) := by decide +kernel
theorem dL_stonesOf_9 : decode cL_stonesOf 9 = .ok (.goto 6, 3) := by decide +kernel
theorem dL_stonesOf_12 : decode cL_stonesOf 12 = .ok (.astore_n 3, 1) := by decide +kernel
theorem dL_stonesOf_13 : decode cL_stonesOf 13 = .ok (.iconst 1, 1) := by decide +kernel
theorem dL_stonesOf_14 : decode cL_stonesOf 14 = .ok (.ireturn, 1) := by decide +kernel
theorem dL_stonesOf_15 : decode cL_stonesOf 15 = .ok (.iconst 0, 1) := by decide +kernel
theorem dL_stonesOf_16 : decode cL_stonesOf 16 = .ok (.ireturn, 1) := by decide +kernel
theorem dL_isEmpty_0 : decode cL_isEmpty 0 = .ok (.aload_n 3, 1) := by decide +kernel
theorem dL_isEmpty_1 : decode cL_isEmpty 1 = .ok (.iconst 0, 1) := by decide +kernel
theorem dL_isEmpty_2 : decode cL_isEmpty 2 = .ok (.aload_n 0, 1) := by decide +kernel
theorem dL_isEmpty_3 : decode cL_isEmpty 3 = .ok (.iload_n 1, 1) := by decide +kernel
theorem dL_isEmpty_4 : decode cL_isEmpty 4 = .ok (.iload_n 2, 1) := by decide +kernel
theorem dL_isEmpty_5 : decode cL_isEmpty 5 = .ok (.invokevirtual 26, 3) := by decide +kernel
theorem dL_isEmpty_8 : decode cL_isEmpty 8 = .ok (.ifCond .eq 7, 3) := by decide +kernel
theorem dL_isEmpty_11 : decode cL_isEmpty 11 = .ok (.lconst 1, 1) := by decide +kernel
theorem dL_isEmpty_12 : decode cL_isEmpty 12 = .ok (.goto 4, 3) := by decide +kernel
theorem dL_isEmpty_15 : decode cL_isEmpty 15 = .ok (.lconst 0, 1) := by decide +kernel
theorem dL_isEmpty_16 : decode cL_isEmpty 16 = .ok (.lastore, 1) := by decide +kernel
theorem dL_isEmpty_17 : decode cL_isEmpty 17 = .ok (.goto 7, 3) := by decide +kernel
theorem dL_isEmpty_20 : decode cL_isEmpty 20 = .ok (.astore 4, 2) := by decide +kernel
theorem dL_isEmpty_22 : decode cL_isEmpty 22 = .ok (.iconst 1, 1) := by decide +kernel
theorem dL_isEmpty_23 : decode cL_isEmpty 23 = .ok (.ireturn, 1) := by decide +kernel
theorem dL_isEmpty_24 : decode cL_isEmpty 24 = .ok (.iconst 0, 1) := by decide +kernel
theorem dL_isEmpty_25 : decode cL_isEmpty 25 = .ok (.ireturn, 1) := by decide +kernel
theorem dL_ownerOf_0 : decode cL_ownerOf 0 = .ok (.aload_n 3, 1) := by decide +kernel
theorem dL_ownerOf_1 : decode cL_ownerOf 1 = .ok (.iconst 0, 1) := by decide +kernel
theorem dL_ownerOf_2 : decode cL_ownerOf 2 = .ok (.aload_n 0, 1) := by decide +kernel
theorem dL_ownerOf_3 : decode cL_ownerOf 3 = .ok (.iload_n 1, 1) := by decide +kernel
theorem dL_ownerOf_4 : decode cL_ownerOf 4 = .ok (.iload_n 2, 1) := by decide +kernel
theorem dL_ownerOf_5 : decode cL_ownerOf 5 = .ok (.invokevirtual 30, 3) := by decide +kernel
theorem dL_ownerOf_8 : decode cL_ownerOf 8 = .ok (.i2l, 1) := by decide +kernel
theorem dL_ownerOf_9 : decode cL_ownerOf 9 = .ok (.lastore, 1) := by decide +kernel
theorem dL_ownerOf_10 : decode cL_ownerOf 10 = .ok (.goto 11, 3) := by decide +kernel
theorem dL_ownerOf_13 : decode cL_ownerOf 13 = .ok (.astore 4, 2) := by decide +kernel
theorem dL_ownerOf_15 : decode cL_ownerOf 15 = .ok (.iconst 1, 1) := by decide +kernel
theorem dL_ownerOf_16 : decode cL_ownerOf 16 = .ok (.ireturn, 1) := by decide +kernel
theorem dL_ownerOf_17 : decode cL_ownerOf 17 = .ok (.astore 4, 2) := by decide +kernel
theorem dL_ownerOf_19 : decode cL_ownerOf 19 = .ok (.iconst 2, 1) := by decide +kernel
theorem dL_ownerOf_20 : decode cL_ownerOf 20 = .ok (.ireturn, 1) := by decide +kernel
theorem dL_ownerOf_21 : decode cL_ownerOf 21 = .ok (.iconst 0, 1) := by decide +kernel
theorem dL_ownerOf_22 : decode cL_ownerOf 22 = .ok (.ireturn, 1) := by decide +kernel
theorem dL_hasWon_0 : decode cL_hasWon 0 = .ok (.aload_n 2, 1) := by decide +kernel
theorem dL_hasWon_1 : decode cL_hasWon 1 = .ok (.iconst 0, 1) := by decide +kernel
theorem dL_hasWon_2 : decode cL_hasWon 2 = .ok (.aload_n 0, 1) := by decide +kernel
theorem dL_hasWon_3 : decode cL_hasWon 3 = .ok (.iload_n 1, 1) := by decide +kernel
theorem dL_hasWon_4 : decode cL_hasWon 4 = .ok (.invokevirtual 34, 3) := by decide +kernel
theorem dL_hasWon_7 : decode cL_hasWon 7 = .ok (.ifCond .eq 7, 3) := by decide +kernel
theorem dL_hasWon_10 : decode cL_hasWon 10 = .ok (.lconst 1, 1) := by decide +kernel
theorem dL_hasWon_11 : decode cL_hasWon 11 = .ok (.goto 4, 3) := by decide +kernel
theorem dL_hasWon_14 : decode cL_hasWon 14 = .ok (.lconst 0, 1) := by decide +kernel
theorem dL_hasWon_15 : decode cL_hasWon 15 = .ok (.lastore, 1) := by decide +kernel
theorem dL_hasWon_16 : decode cL_hasWon 16 = .ok (.goto 6, 3) := by decide +kernel
theorem dL_hasWon_19 : decode cL_hasWon 19 = .ok (.astore_n 3, 1) := by decide +kernel
theorem dL_hasWon_20 : decode cL_hasWon 20 = .ok (.iconst 1, 1) := by decide +kernel
theorem dL_hasWon_21 : decode cL_hasWon 21 = .ok (.ireturn, 1) := by decide +kernel
theorem dL_hasWon_22 : decode cL_hasWon 22 = .ok (.iconst 0, 1) := by decide +kernel
theorem dL_hasWon_23 : decode cL_hasWon 23 = .ok (.ireturn, 1) := by decide +kernel
theorem dL_playerInTurn_0 : decode cL_playerInTurn 0 = .ok (.aload_n 1, 1) := by decide +kernel
theorem dL_playerInTurn_1 : decode cL_playerInTurn 1 = .ok (.iconst 0, 1) := by decide +kernel
theorem dL_playerInTurn_2 : decode cL_playerInTurn 2 = .ok (.aload_n 0, 1) := by decide +kernel
theorem dL_playerInTurn_3 : decode cL_playerInTurn 3 = .ok (.invokevirtual 38, 3) := by decide +kernel
theorem dL_playerInTurn_6 : decode cL_playerInTurn 6 = .ok (.i2l, 1) := by decide +kernel
theorem dL_playerInTurn_7 : decode cL_playerInTurn 7 = .ok (.lastore, 1) := by decide +kernel
theorem dL_playerInTurn_8 : decode cL_playerInTurn 8 = .ok (.goto 6, 3) := by decide +kernel
theorem dL_playerInTurn_11 : decode cL_playerInTurn 11 = .ok (.astore_n 2, 1) := by decide +kernel
theorem dL_playerInTurn_12 : decode cL_playerInTurn 12 = .ok (.iconst 1, 1) := by decide +kernel
theorem dL_playerInTurn_13 : decode cL_playerInTurn 13 = .ok (.ireturn, 1) := by decide +kernel
theorem dL_playerInTurn_14 : decode cL_playerInTurn 14 = .ok (.iconst 0, 1) := by decide +kernel
theorem dL_playerInTurn_15 : decode cL_playerInTurn 15 = .ok (.ireturn, 1) := by decide +kernel
theorem dL_stonesBeside_0 : decode cL_stonesBeside 0 = .ok (.aload 4, 2) := by decide +kernel
theorem dL_stonesBeside_2 : decode cL_stonesBeside 2 = .ok (.iconst 0, 1) := by decide +kernel
theorem dL_stonesBeside_3 : decode cL_stonesBeside 3 = .ok (.aload_n 0, 1) := by decide +kernel
theorem dL_stonesBeside_4 : decode cL_stonesBeside 4 = .ok (.iload_n 1, 1) := by decide +kernel
theorem dL_stonesBeside_5 : decode cL_stonesBeside 5 = .ok (.iload_n 2, 1) := by decide +kernel
theorem dL_stonesBeside_6 : decode cL_stonesBeside 6 = .ok (.iload_n 3, 1) := by decide +kernel
theorem dL_stonesBeside_7 : decode cL_stonesBeside 7 = .ok (.invokevirtual 42, 3) := by decide +kernel
theorem dL_stonesBeside_10 : decode cL_stonesBeside 10 = .ok (.i2l, 1) := by decide +kernel
theorem dL_stonesBeside_11 : decode cL_stonesBeside 11 = .ok (.lastore, 1) := by decide +kernel
theorem dL_stonesBeside_12 : decode cL_stonesBeside 12 = .ok (.goto 7, 3) := by decide +kernel
theorem dL_stonesBeside_15 : decode cL_stonesBeside 15 = .ok (.astore 5, 2) := by decide +kernel
theorem dL_stonesBeside_17 : decode cL_stonesBeside 17 = .ok (.iconst 1, 1) := by decide +kernel
theorem dL_stonesBeside_18 : decode cL_stonesBeside 18 = .ok (.ireturn, 1) := by decide +kernel
theorem dL_stonesBeside_19 : decode cL_stonesBeside 19 = .ok (.iconst 0, 1) := by decide +kernel
theorem dL_stonesBeside_20 : decode cL_stonesBeside 20 = .ok (.ireturn, 1) := by decide +kernel
theorem dL_groupSize_0 : decode cL_groupSize 0 = .ok (.aload_n 3, 1) := by decide +kernel
theorem dL_groupSize_1 : decode cL_groupSize 1 = .ok (.iconst 0, 1) := by decide +kernel
theorem dL_groupSize_2 : decode cL_groupSize 2 = .ok (.aload_n 0, 1) := by decide +kernel
theorem dL_groupSize_3 : decode cL_groupSize 3 = .ok (.iload_n 1, 1) := by decide +kernel
theorem dL_groupSize_4 : decode cL_groupSize 4 = .ok (.iload_n 2, 1) := by decide +kernel
theorem dL_groupSize_5 : decode cL_groupSize 5 = .ok (.invokevirtual 46, 3) := by decide +kernel
theorem dL_groupSize_8 : decode cL_groupSize 8 = .ok (.i2l, 1) := by decide +kernel
theorem dL_groupSize_9 : decode cL_groupSize 9 = .ok (.lastore, 1) := by decide +kernel
theorem dL_groupSize_10 : decode cL_groupSize 10 = .ok (.goto 11, 3) := by decide +kernel
theorem dL_groupSize_13 : decode cL_groupSize 13 = .ok (.astore 4, 2) := by decide +kernel
theorem dL_groupSize_15 : decode cL_groupSize 15 = .ok (.iconst 1, 1) := by decide +kernel
theorem dL_groupSize_16 : decode cL_groupSize 16 = .ok (.ireturn, 1) := by decide +kernel
theorem dL_groupSize_17 : decode cL_groupSize 17 = .ok (.astore 4, 2) := by decide +kernel
theorem dL_groupSize_19 : decode cL_groupSize 19 = .ok (.iconst 2, 1) := by decide +kernel
theorem dL_groupSize_20 : decode cL_groupSize 20 = .ok (.ireturn, 1) := by decide +kernel
theorem dL_groupSize_21 : decode cL_groupSize 21 = .ok (.iconst 0, 1) := by decide +kernel
theorem dL_groupSize_22 : decode cL_groupSize 22 = .ok (.ireturn, 1) := by decide +kernel
theorem dL_shoresOf_0 : decode cL_shoresOf 0 = .ok (.aload_n 3, 1) := by decide +kernel
theorem dL_shoresOf_1 : decode cL_shoresOf 1 = .ok (.iconst 0, 1) := by decide +kernel
theorem dL_shoresOf_2 : decode cL_shoresOf 2 = .ok (.aload_n 0, 1) := by decide +kernel
theorem dL_shoresOf_3 : decode cL_shoresOf 3 = .ok (.iload_n 1, 1) := by decide +kernel
theorem dL_shoresOf_4 : decode cL_shoresOf 4 = .ok (.iload_n 2, 1) := by decide +kernel
theorem dL_shoresOf_5 : decode cL_shoresOf 5 = .ok (.invokevirtual 49, 3) := by decide +kernel
theorem dL_shoresOf_8 : decode cL_shoresOf 8 = .ok (.i2l, 1) := by decide +kernel
theorem dL_shoresOf_9 : decode cL_shoresOf 9 = .ok (.lastore, 1) := by decide +kernel
theorem dL_shoresOf_10 : decode cL_shoresOf 10 = .ok (.goto 11, 3) := by decide +kernel
theorem dL_shoresOf_13 : decode cL_shoresOf 13 = .ok (.astore 4, 2) := by decide +kernel
theorem dL_shoresOf_15 : decode cL_shoresOf 15 = .ok (.iconst 1, 1) := by decide +kernel
theorem dL_shoresOf_16 : decode cL_shoresOf 16 = .ok (.ireturn, 1) := by decide +kernel
theorem dL_shoresOf_17 : decode cL_shoresOf 17 = .ok (.astore 4, 2) := by decide +kernel
theorem dL_shoresOf_19 : decode cL_shoresOf 19 = .ok (.iconst 2, 1) := by decide +kernel
theorem dL_shoresOf_20 : decode cL_shoresOf 20 = .ok (.ireturn, 1) := by decide +kernel
theorem dL_shoresOf_21 : decode cL_shoresOf 21 = .ok (.iconst 0, 1) := by decide +kernel
theorem dL_shoresOf_22 : decode cL_shoresOf 22 = .ok (.ireturn, 1) := by decide +kernel
theorem dL_groupsOf_0 : decode cL_groupsOf 0 = .ok (.aload_n 2, 1) := by decide +kernel
theorem dL_groupsOf_1 : decode cL_groupsOf 1 = .ok (.iconst 0, 1) := by decide +kernel
theorem dL_groupsOf_2 : decode cL_groupsOf 2 = .ok (.aload_n 0, 1) := by decide +kernel
theorem dL_groupsOf_3 : decode cL_groupsOf 3 = .ok (.iload_n 1, 1) := by decide +kernel
theorem dL_groupsOf_4 : decode cL_groupsOf 4 = .ok (.invokevirtual 52, 3) := by decide +kernel
theorem dL_groupsOf_7 : decode cL_groupsOf 7 = .ok (.i2l, 1) := by decide +kernel
theorem dL_groupsOf_8 : decode cL_groupsOf 8 = .ok (.lastore, 1) := by decide +kernel
theorem dL_groupsOf_9 : decode cL_groupsOf 9 = .ok (.goto 6, 3) := by decide +kernel
theorem dL_groupsOf_12 : decode cL_groupsOf 12 = .ok (.astore_n 3, 1) := by decide +kernel
theorem dL_groupsOf_13 : decode cL_groupsOf 13 = .ok (.iconst 1, 1) := by decide +kernel
theorem dL_groupsOf_14 : decode cL_groupsOf 14 = .ok (.ireturn, 1) := by decide +kernel
theorem dL_groupsOf_15 : decode cL_groupsOf 15 = .ok (.iconst 0, 1) := by decide +kernel
theorem dL_groupsOf_16 : decode cL_groupsOf 16 = .ok (.ireturn, 1) := by decide +kernel
theorem dL_greatestGroup_0 : decode cL_greatestGroup 0 = .ok (.aload_n 2, 1) := by decide +kernel
theorem dL_greatestGroup_1 : decode cL_greatestGroup 1 = .ok (.iconst 0, 1) := by decide +kernel
theorem dL_greatestGroup_2 : decode cL_greatestGroup 2 = .ok (.aload_n 0, 1) := by decide +kernel
theorem dL_greatestGroup_3 : decode cL_greatestGroup 3 = .ok (.iload_n 1, 1) := by decide +kernel
theorem dL_greatestGroup_4 : decode cL_greatestGroup 4 = .ok (.invokevirtual 55, 3) := by decide +kernel
theorem dL_greatestGroup_7 : decode cL_greatestGroup 7 = .ok (.i2l, 1) := by decide +kernel
theorem dL_greatestGroup_8 : decode cL_greatestGroup 8 = .ok (.lastore, 1) := by decide +kernel
theorem dL_greatestGroup_9 : decode cL_greatestGroup 9 = .ok (.goto 6, 3) := by decide +kernel
theorem dL_greatestGroup_12 : decode cL_greatestGroup 12 = .ok (.astore_n 3, 1) := by decide +kernel
theorem dL_greatestGroup_13 : decode cL_greatestGroup 13 = .ok (.iconst 1, 1) := by decide +kernel
theorem dL_greatestGroup_14 : decode cL_greatestGroup 14 = .ok (.ireturn, 1) := by decide +kernel
theorem dL_greatestGroup_15 : decode cL_greatestGroup 15 = .ok (.iconst 0, 1) := by decide +kernel
theorem dL_greatestGroup_16 : decode cL_greatestGroup 16 = .ok (.ireturn, 1) := by decide +kernel
theorem dL_isBridge_0 : decode cL_isBridge 0 = .ok (.aload_n 3, 1) := by decide +kernel
theorem dL_isBridge_1 : decode cL_isBridge 1 = .ok (.iconst 0, 1) := by decide +kernel
theorem dL_isBridge_2 : decode cL_isBridge 2 = .ok (.aload_n 0, 1) := by decide +kernel
theorem dL_isBridge_3 : decode cL_isBridge 3 = .ok (.iload_n 1, 1) := by decide +kernel
theorem dL_isBridge_4 : decode cL_isBridge 4 = .ok (.iload_n 2, 1) := by decide +kernel
theorem dL_isBridge_5 : decode cL_isBridge 5 = .ok (.invokevirtual 58, 3) := by decide +kernel
theorem dL_isBridge_8 : decode cL_isBridge 8 = .ok (.ifCond .eq 7, 3) := by decide +kernel
theorem dL_isBridge_11 : decode cL_isBridge 11 = .ok (.lconst 1, 1) := by decide +kernel
theorem dL_isBridge_12 : decode cL_isBridge 12 = .ok (.goto 4, 3) := by decide +kernel
theorem dL_isBridge_15 : decode cL_isBridge 15 = .ok (.lconst 0, 1) := by decide +kernel
theorem dL_isBridge_16 : decode cL_isBridge 16 = .ok (.lastore, 1) := by decide +kernel
theorem dL_isBridge_17 : decode cL_isBridge 17 = .ok (.goto 7, 3) := by decide +kernel
theorem dL_isBridge_20 : decode cL_isBridge 20 = .ok (.astore 4, 2) := by decide +kernel
theorem dL_isBridge_22 : decode cL_isBridge 22 = .ok (.iconst 1, 1) := by decide +kernel
theorem dL_isBridge_23 : decode cL_isBridge 23 = .ok (.ireturn, 1) := by decide +kernel
theorem dL_isBridge_24 : decode cL_isBridge 24 = .ok (.iconst 0, 1) := by decide +kernel
theorem dL_isBridge_25 : decode cL_isBridge 25 = .ok (.ireturn, 1) := by decide +kernel
theorem dL_bridgesOf_0 : decode cL_bridgesOf 0 = .ok (.aload_n 2, 1) := by decide +kernel
theorem dL_bridgesOf_1 : decode cL_bridgesOf 1 = .ok (.iconst 0, 1) := by decide +kernel
theorem dL_bridgesOf_2 : decode cL_bridgesOf 2 = .ok (.aload_n 0, 1) := by decide +kernel
theorem dL_bridgesOf_3 : decode cL_bridgesOf 3 = .ok (.iload_n 1, 1) := by decide +kernel
theorem dL_bridgesOf_4 : decode cL_bridgesOf 4 = .ok (.invokevirtual 61, 3) := by decide +kernel
theorem dL_bridgesOf_7 : decode cL_bridgesOf 7 = .ok (.i2l, 1) := by decide +kernel
theorem dL_bridgesOf_8 : decode cL_bridgesOf 8 = .ok (.lastore, 1) := by decide +kernel
theorem dL_bridgesOf_9 : decode cL_bridgesOf 9 = .ok (.goto 6, 3) := by decide +kernel
theorem dL_bridgesOf_12 : decode cL_bridgesOf 12 = .ok (.astore_n 3, 1) := by decide +kernel
theorem dL_bridgesOf_13 : decode cL_bridgesOf 13 = .ok (.iconst 1, 1) := by decide +kernel
theorem dL_bridgesOf_14 : decode cL_bridgesOf 14 = .ok (.ireturn, 1) := by decide +kernel
theorem dL_bridgesOf_15 : decode cL_bridgesOf 15 = .ok (.iconst 0, 1) := by decide +kernel
theorem dL_bridgesOf_16 : decode cL_bridgesOf 16 = .ok (.ireturn, 1) := by decide +kernel
theorem dL_brokenBridgesOf_0 : decode cL_brokenBridgesOf 0 = .ok (.aload_n 2, 1) := by decide +kernel
theorem dL_brokenBridgesOf_1 : decode cL_brokenBridgesOf 1 = .ok (.iconst 0, 1) := by decide +kernel
theorem dL_brokenBridgesOf_2 : decode cL_brokenBridgesOf 2 = .ok (.aload_n 0, 1) := by decide +kernel
theorem dL_brokenBridgesOf_3 : decode cL_brokenBridgesOf 3 = .ok (.iload_n 1, 1) := by decide +kernel
theorem dL_brokenBridgesOf_4 : decode cL_brokenBridgesOf 4 = .ok (.invokevirtual 64, 3) := by decide +kernel
theorem dL_brokenBridgesOf_7 : decode cL_brokenBridgesOf 7 = .ok (.i2l, 1) := by decide +kernel
theorem dL_brokenBridgesOf_8 : decode cL_brokenBridgesOf 8 = .ok (.lastore, 1) := by decide +kernel
theorem dL_brokenBridgesOf_9 : decode cL_brokenBridgesOf 9 = .ok (.goto 6, 3) := by decide +kernel
theorem dL_brokenBridgesOf_12 : decode cL_brokenBridgesOf 12 = .ok (.astore_n 3, 1) := by decide +kernel
theorem dL_brokenBridgesOf_13 : decode cL_brokenBridgesOf 13 = .ok (.iconst 1, 1) := by decide +kernel
theorem dL_brokenBridgesOf_14 : decode cL_brokenBridgesOf 14 = .ok (.ireturn, 1) := by decide +kernel
theorem dL_brokenBridgesOf_15 : decode cL_brokenBridgesOf 15 = .ok (.iconst 0, 1) := by decide +kernel
theorem dL_brokenBridgesOf_16 : decode cL_brokenBridgesOf 16 = .ok (.ireturn, 1) := by decide +kernel
theorem dL_isFrozen_0 : decode cL_isFrozen 0 = .ok (.aload_n 3, 1) := by decide +kernel
theorem dL_isFrozen_1 : decode cL_isFrozen 1 = .ok (.iconst 0, 1) := by decide +kernel
theorem dL_isFrozen_2 : decode cL_isFrozen 2 = .ok (.aload_n 0, 1) := by decide +kernel
theorem dL_isFrozen_3 : decode cL_isFrozen 3 = .ok (.iload_n 1, 1) := by decide +kernel
theorem dL_isFrozen_4 : decode cL_isFrozen 4 = .ok (.iload_n 2, 1) := by decide +kernel
theorem dL_isFrozen_5 : decode cL_isFrozen 5 = .ok (.invokevirtual 67, 3) := by decide +kernel
theorem dL_isFrozen_8 : decode cL_isFrozen 8 = .ok (.ifCond .eq 7, 3) := by decide +kernel
theorem dL_isFrozen_11 : decode cL_isFrozen 11 = .ok (.lconst 1, 1) := by decide +kernel
theorem dL_isFrozen_12 : decode cL_isFrozen 12 = .ok (.goto 4, 3) := by decide +kernel
theorem dL_isFrozen_15 : decode cL_isFrozen 15 = .ok (.lconst 0, 1) := by decide +kernel
theorem dL_isFrozen_16 : decode cL_isFrozen 16 = .ok (.lastore, 1) := by decide +kernel
theorem dL_isFrozen_17 : decode cL_isFrozen 17 = .ok (.goto 7, 3) := by decide +kernel
theorem dL_isFrozen_20 : decode cL_isFrozen 20 = .ok (.astore 4, 2) := by decide +kernel
theorem dL_isFrozen_22 : decode cL_isFrozen 22 = .ok (.iconst 1, 1) := by decide +kernel
theorem dL_isFrozen_23 : decode cL_isFrozen 23 = .ok (.ireturn, 1) := by decide +kernel
theorem dL_isFrozen_24 : decode cL_isFrozen 24 = .ok (.iconst 0, 1) := by decide +kernel
theorem dL_isFrozen_25 : decode cL_isFrozen 25 = .ok (.ireturn, 1) := by decide +kernel
theorem dL_stonesNeeded_0 : decode cL_stonesNeeded 0 = .ok (.aload_n 2, 1) := by decide +kernel
theorem dL_stonesNeeded_1 : decode cL_stonesNeeded 1 = .ok (.iconst 0, 1) := by decide +kernel
theorem dL_stonesNeeded_2 : decode cL_stonesNeeded 2 = .ok (.aload_n 0, 1) := by decide +kernel
theorem dL_stonesNeeded_3 : decode cL_stonesNeeded 3 = .ok (.iload_n 1, 1) := by decide +kernel
theorem dL_stonesNeeded_4 : decode cL_stonesNeeded 4 = .ok (.invokevirtual 70, 3) := by decide +kernel
theorem dL_stonesNeeded_7 : decode cL_stonesNeeded 7 = .ok (.i2l, 1) := by decide +kernel
theorem dL_stonesNeeded_8 : decode cL_stonesNeeded 8 = .ok (.lastore, 1) := by decide +kernel
theorem dL_stonesNeeded_9 : decode cL_stonesNeeded 9 = .ok (.goto 9, 3) := by decide +kernel
theorem dL_stonesNeeded_12 : decode cL_stonesNeeded 12 = .ok (.astore_n 3, 1) := by decide +kernel
theorem dL_stonesNeeded_13 : decode cL_stonesNeeded 13 = .ok (.iconst 1, 1) := by decide +kernel
theorem dL_stonesNeeded_14 : decode cL_stonesNeeded 14 = .ok (.ireturn, 1) := by decide +kernel
theorem dL_stonesNeeded_15 : decode cL_stonesNeeded 15 = .ok (.astore_n 3, 1) := by decide +kernel
theorem dL_stonesNeeded_16 : decode cL_stonesNeeded 16 = .ok (.iconst 2, 1) := by decide +kernel
theorem dL_stonesNeeded_17 : decode cL_stonesNeeded 17 = .ok (.ireturn, 1) := by decide +kernel
theorem dL_stonesNeeded_18 : decode cL_stonesNeeded 18 = .ok (.iconst 0, 1) := by decide +kernel
theorem dL_stonesNeeded_19 : decode cL_stonesNeeded 19 = .ok (.ireturn, 1) := by decide +kernel
theorem dL_stonesNeededThrough_0 : decode cL_stonesNeededThrough 0 = .ok (.aload 4, 2) := by decide +kernel
theorem dL_stonesNeededThrough_2 : decode cL_stonesNeededThrough 2 = .ok (.iconst 0, 1) := by decide +kernel
theorem dL_stonesNeededThrough_3 : decode cL_stonesNeededThrough 3 = .ok (.aload_n 0, 1) := by decide +kernel
theorem dL_stonesNeededThrough_4 : decode cL_stonesNeededThrough 4 = .ok (.iload_n 1, 1) := by decide +kernel
theorem dL_stonesNeededThrough_5 : decode cL_stonesNeededThrough 5 = .ok (.iload_n 2, 1) := by decide +kernel
theorem dL_stonesNeededThrough_6 : decode cL_stonesNeededThrough 6 = .ok (.iload_n 3, 1) := by decide +kernel
theorem dL_stonesNeededThrough_7 : decode cL_stonesNeededThrough 7 = .ok (.invokevirtual 73, 3) := by decide +kernel
theorem dL_stonesNeededThrough_10 : decode cL_stonesNeededThrough 10 = .ok (.i2l, 1) := by decide +kernel
theorem dL_stonesNeededThrough_11 : decode cL_stonesNeededThrough 11 = .ok (.lastore, 1) := by decide +kernel
theorem dL_stonesNeededThrough_12 : decode cL_stonesNeededThrough 12 = .ok (.goto 11, 3) := by decide +kernel
theorem dL_stonesNeededThrough_15 : decode cL_stonesNeededThrough 15 = .ok (.astore 5, 2) := by decide +kernel
theorem dL_stonesNeededThrough_17 : decode cL_stonesNeededThrough 17 = .ok (.iconst 1, 1) := by decide +kernel
theorem dL_stonesNeededThrough_18 : decode cL_stonesNeededThrough 18 = .ok (.ireturn, 1) := by decide +kernel
theorem dL_stonesNeededThrough_19 : decode cL_stonesNeededThrough 19 = .ok (.astore 5, 2) := by decide +kernel
theorem dL_stonesNeededThrough_21 : decode cL_stonesNeededThrough 21 = .ok (.iconst 2, 1) := by decide +kernel
theorem dL_stonesNeededThrough_22 : decode cL_stonesNeededThrough 22 = .ok (.ireturn, 1) := by decide +kernel
theorem dL_stonesNeededThrough_23 : decode cL_stonesNeededThrough 23 = .ok (.iconst 0, 1) := by decide +kernel
theorem dL_stonesNeededThrough_24 : decode cL_stonesNeededThrough 24 = .ok (.ireturn, 1) := by decide +kernel
theorem dL_isWinningCell_0 : decode cL_isWinningCell 0 = .ok (.aload 4, 2) := by decide +kernel
theorem dL_isWinningCell_2 : decode cL_isWinningCell 2 = .ok (.iconst 0, 1) := by decide +kernel
theorem dL_isWinningCell_3 : decode cL_isWinningCell 3 = .ok (.aload_n 0, 1) := by decide +kernel
theorem dL_isWinningCell_4 : decode cL_isWinningCell 4 = .ok (.iload_n 1, 1) := by decide +kernel
theorem dL_isWinningCell_5 : decode cL_isWinningCell 5 = .ok (.iload_n 2, 1) := by decide +kernel
theorem dL_isWinningCell_6 : decode cL_isWinningCell 6 = .ok (.iload_n 3, 1) := by decide +kernel
theorem dL_isWinningCell_7 : decode cL_isWinningCell 7 = .ok (.invokevirtual 76, 3) := by decide +kernel
theorem dL_isWinningCell_10 : decode cL_isWinningCell 10 = .ok (.ifCond .eq 7, 3) := by decide +kernel
theorem dL_isWinningCell_13 : decode cL_isWinningCell 13 = .ok (.lconst 1, 1) := by decide +kernel
theorem dL_isWinningCell_14 : decode cL_isWinningCell 14 = .ok (.goto 4, 3) := by decide +kernel
theorem dL_isWinningCell_17 : decode cL_isWinningCell 17 = .ok (.lconst 0, 1) := by decide +kernel
theorem dL_isWinningCell_18 : decode cL_isWinningCell 18 = .ok (.lastore, 1) := by decide +kernel
theorem dL_isWinningCell_19 : decode cL_isWinningCell 19 = .ok (.goto 7, 3) := by decide +kernel
theorem dL_isWinningCell_22 : decode cL_isWinningCell 22 = .ok (.astore 5, 2) := by decide +kernel
theorem dL_isWinningCell_24 : decode cL_isWinningCell 24 = .ok (.iconst 1, 1) := by decide +kernel
theorem dL_isWinningCell_25 : decode cL_isWinningCell 25 = .ok (.ireturn, 1) := by decide +kernel
theorem dL_isWinningCell_26 : decode cL_isWinningCell 26 = .ok (.iconst 0, 1) := by decide +kernel
theorem dL_isWinningCell_27 : decode cL_isWinningCell 27 = .ok (.ireturn, 1) := by decide +kernel
theorem dL_winningCells_0 : decode cL_winningCells 0 = .ok (.aload_n 2, 1) := by decide +kernel
theorem dL_winningCells_1 : decode cL_winningCells 1 = .ok (.iconst 0, 1) := by decide +kernel
theorem dL_winningCells_2 : decode cL_winningCells 2 = .ok (.aload_n 0, 1) := by decide +kernel
theorem dL_winningCells_3 : decode cL_winningCells 3 = .ok (.iload_n 1, 1) := by decide +kernel
theorem dL_winningCells_4 : decode cL_winningCells 4 = .ok (.invokevirtual 80, 3) := by decide +kernel
theorem dL_winningCells_7 : decode cL_winningCells 7 = .ok (.i2l, 1) := by decide +kernel
theorem dL_winningCells_8 : decode cL_winningCells 8 = .ok (.lastore, 1) := by decide +kernel
theorem dL_winningCells_9 : decode cL_winningCells 9 = .ok (.goto 6, 3) := by decide +kernel
theorem dL_winningCells_12 : decode cL_winningCells 12 = .ok (.astore_n 3, 1) := by decide +kernel
theorem dL_winningCells_13 : decode cL_winningCells 13 = .ok (.iconst 1, 1) := by decide +kernel
theorem dL_winningCells_14 : decode cL_winningCells 14 = .ok (.ireturn, 1) := by decide +kernel
theorem dL_winningCells_15 : decode cL_winningCells 15 = .ok (.iconst 0, 1) := by decide +kernel
theorem dL_winningCells_16 : decode cL_winningCells 16 = .ok (.ireturn, 1) := by decide +kernel
theorem dL_layStone_0 : decode cL_layStone 0 = .ok (.aload_n 3, 1) := by decide +kernel
theorem dL_layStone_1 : decode cL_layStone 1 = .ok (.iconst 0, 1) := by decide +kernel
theorem dL_layStone_2 : decode cL_layStone 2 = .ok (.aload_n 0, 1) := by decide +kernel
theorem dL_layStone_3 : decode cL_layStone 3 = .ok (.iload_n 1, 1) := by decide +kernel
theorem dL_layStone_4 : decode cL_layStone 4 = .ok (.iload_n 2, 1) := by decide +kernel
theorem dL_layStone_5 : decode cL_layStone 5 = .ok (.invokevirtual 83, 3) := by decide +kernel
theorem dL_layStone_8 : decode cL_layStone 8 = .ok (.i2l, 1) := by decide +kernel
theorem dL_layStone_9 : decode cL_layStone 9 = .ok (.lastore, 1) := by decide +kernel
theorem dL_layStone_10 : decode cL_layStone 10 = .ok (.goto 11, 3) := by decide +kernel
theorem dL_layStone_13 : decode cL_layStone 13 = .ok (.astore 4, 2) := by decide +kernel
theorem dL_layStone_15 : decode cL_layStone 15 = .ok (.iconst 1, 1) := by decide +kernel
theorem dL_layStone_16 : decode cL_layStone 16 = .ok (.ireturn, 1) := by decide +kernel
theorem dL_layStone_17 : decode cL_layStone 17 = .ok (.astore 4, 2) := by decide +kernel
theorem dL_layStone_19 : decode cL_layStone 19 = .ok (.iconst 2, 1) := by decide +kernel
theorem dL_layStone_20 : decode cL_layStone 20 = .ok (.ireturn, 1) := by decide +kernel
theorem dL_layStone_21 : decode cL_layStone 21 = .ok (.iconst 0, 1) := by decide +kernel
theorem dL_layStone_22 : decode cL_layStone 22 = .ok (.ireturn, 1) := by decide +kernel
theorem dL_takeBack_0 : decode cL_takeBack 0 = .ok (.aload_n 1, 1) := by decide +kernel
theorem dL_takeBack_1 : decode cL_takeBack 1 = .ok (.iconst 0, 1) := by decide +kernel
theorem dL_takeBack_2 : decode cL_takeBack 2 = .ok (.aload_n 0, 1) := by decide +kernel
theorem dL_takeBack_3 : decode cL_takeBack 3 = .ok (.invokevirtual 86, 3) := by decide +kernel
theorem dL_takeBack_6 : decode cL_takeBack 6 = .ok (.i2l, 1) := by decide +kernel
theorem dL_takeBack_7 : decode cL_takeBack 7 = .ok (.lastore, 1) := by decide +kernel
theorem dL_takeBack_8 : decode cL_takeBack 8 = .ok (.goto 6, 3) := by decide +kernel
theorem dL_takeBack_11 : decode cL_takeBack 11 = .ok (.astore_n 2, 1) := by decide +kernel
theorem dL_takeBack_12 : decode cL_takeBack 12 = .ok (.iconst 1, 1) := by decide +kernel
theorem dL_takeBack_13 : decode cL_takeBack 13 = .ok (.ireturn, 1) := by decide +kernel
theorem dL_takeBack_14 : decode cL_takeBack 14 = .ok (.iconst 0, 1) := by decide +kernel
theorem dL_takeBack_15 : decode cL_takeBack 15 = .ok (.ireturn, 1) := by decide +kernel
theorem dL_plannedCell_0 : decode cL_plannedCell 0 = .ok (.aload_n 1, 1) := by decide +kernel
theorem dL_plannedCell_1 : decode cL_plannedCell 1 = .ok (.iconst 0, 1) := by decide +kernel
theorem dL_plannedCell_2 : decode cL_plannedCell 2 = .ok (.aload_n 0, 1) := by decide +kernel
theorem dL_plannedCell_3 : decode cL_plannedCell 3 = .ok (.invokevirtual 89, 3) := by decide +kernel
theorem dL_plannedCell_6 : decode cL_plannedCell 6 = .ok (.i2l, 1) := by decide +kernel
theorem dL_plannedCell_7 : decode cL_plannedCell 7 = .ok (.lastore, 1) := by decide +kernel
theorem dL_plannedCell_8 : decode cL_plannedCell 8 = .ok (.goto 6, 3) := by decide +kernel
theorem dL_plannedCell_11 : decode cL_plannedCell 11 = .ok (.astore_n 2, 1) := by decide +kernel
theorem dL_plannedCell_12 : decode cL_plannedCell 12 = .ok (.iconst 1, 1) := by decide +kernel
theorem dL_plannedCell_13 : decode cL_plannedCell 13 = .ok (.ireturn, 1) := by decide +kernel
theorem dL_plannedCell_14 : decode cL_plannedCell 14 = .ok (.iconst 0, 1) := by decide +kernel
theorem dL_plannedCell_15 : decode cL_plannedCell 15 = .ok (.ireturn, 1) := by decide +kernel
theorem dL_playByPlans_0 : decode cL_playByPlans 0 = .ok (.aload_n 2, 1) := by decide +kernel
theorem dL_playByPlans_1 : decode cL_playByPlans 1 = .ok (.iconst 0, 1) := by decide +kernel
theorem dL_playByPlans_2 : decode cL_playByPlans 2 = .ok (.aload_n 0, 1) := by decide +kernel
theorem dL_playByPlans_3 : decode cL_playByPlans 3 = .ok (.iload_n 1, 1) := by decide +kernel
theorem dL_playByPlans_4 : decode cL_playByPlans 4 = .ok (.invokevirtual 92, 3) := by decide +kernel
theorem dL_playByPlans_7 : decode cL_playByPlans 7 = .ok (.i2l, 1) := by decide +kernel
theorem dL_playByPlans_8 : decode cL_playByPlans 8 = .ok (.lastore, 1) := by decide +kernel
theorem dL_playByPlans_9 : decode cL_playByPlans 9 = .ok (.goto 6, 3) := by decide +kernel
theorem dL_playByPlans_12 : decode cL_playByPlans 12 = .ok (.astore_n 3, 1) := by decide +kernel
theorem dL_playByPlans_13 : decode cL_playByPlans 13 = .ok (.iconst 1, 1) := by decide +kernel
theorem dL_playByPlans_14 : decode cL_playByPlans 14 = .ok (.ireturn, 1) := by decide +kernel
theorem dL_playByPlans_15 : decode cL_playByPlans 15 = .ok (.iconst 0, 1) := by decide +kernel
theorem dL_playByPlans_16 : decode cL_playByPlans 16 = .ok (.ireturn, 1) := by decide +kernel
theorem dL_mustPlay_0 : decode cL_mustPlay 0 = .ok (.aload_n 1, 1) := by decide +kernel
theorem dL_mustPlay_1 : decode cL_mustPlay 1 = .ok (.iconst 0, 1) := by decide +kernel
theorem dL_mustPlay_2 : decode cL_mustPlay 2 = .ok (.aload_n 0, 1) := by decide +kernel
theorem dL_mustPlay_3 : decode cL_mustPlay 3 = .ok (.invokevirtual 95, 3) := by decide +kernel
theorem dL_mustPlay_6 : decode cL_mustPlay 6 = .ok (.i2l, 1) := by decide +kernel
theorem dL_mustPlay_7 : decode cL_mustPlay 7 = .ok (.lastore, 1) := by decide +kernel
theorem dL_mustPlay_8 : decode cL_mustPlay 8 = .ok (.goto 6, 3) := by decide +kernel
theorem dL_mustPlay_11 : decode cL_mustPlay 11 = .ok (.astore_n 2, 1) := by decide +kernel
theorem dL_mustPlay_12 : decode cL_mustPlay 12 = .ok (.iconst 1, 1) := by decide +kernel
theorem dL_mustPlay_13 : decode cL_mustPlay 13 = .ok (.ireturn, 1) := by decide +kernel
theorem dL_mustPlay_14 : decode cL_mustPlay 14 = .ok (.iconst 0, 1) := by decide +kernel
theorem dL_mustPlay_15 : decode cL_mustPlay 15 = .ok (.ireturn, 1) := by decide +kernel
theorem dL_bestCell_0 : decode cL_bestCell 0 = .ok (.aload_n 1, 1) := by decide +kernel
theorem dL_bestCell_1 : decode cL_bestCell 1 = .ok (.iconst 0, 1) := by decide +kernel
theorem dL_bestCell_2 : decode cL_bestCell 2 = .ok (.aload_n 0, 1) := by decide +kernel
theorem dL_bestCell_3 : decode cL_bestCell 3 = .ok (.invokevirtual 98, 3) := by decide +kernel
theorem dL_bestCell_6 : decode cL_bestCell 6 = .ok (.i2l, 1) := by decide +kernel
theorem dL_bestCell_7 : decode cL_bestCell 7 = .ok (.lastore, 1) := by decide +kernel
theorem dL_bestCell_8 : decode cL_bestCell 8 = .ok (.goto 6, 3) := by decide +kernel
theorem dL_bestCell_11 : decode cL_bestCell 11 = .ok (.astore_n 2, 1) := by decide +kernel
theorem dL_bestCell_12 : decode cL_bestCell 12 = .ok (.iconst 1, 1) := by decide +kernel
theorem dL_bestCell_13 : decode cL_bestCell 13 = .ok (.ireturn, 1) := by decide +kernel
theorem dL_bestCell_14 : decode cL_bestCell 14 = .ok (.iconst 0, 1) := by decide +kernel
theorem dL_bestCell_15 : decode cL_bestCell 15 = .ok (.ireturn, 1) := by decide +kernel
theorem dL_law_0 : decode cL_law 0 = .ok (.new 8, 3) := by decide +kernel
theorem dL_law_3 : decode cL_law 3 = .ok (.dup, 1) := by decide +kernel
theorem dL_law_4 : decode cL_law 4 = .ok (.invokespecial 101, 3) := by decide +kernel
theorem dL_law_7 : decode cL_law 7 = .ok (.astore_n 1, 1) := by decide +kernel
theorem dL_law_8 : decode cL_law 8 = .ok (.new 102, 3) := by decide +kernel
theorem dL_law_11 : decode cL_law 11 = .ok (.dup, 1) := by decide +kernel
theorem dL_law_12 : decode cL_law 12 = .ok (.invokespecial 104, 3) := by decide +kernel
theorem dL_law_15 : decode cL_law 15 = .ok (.astore_n 2, 1) := by decide +kernel
theorem dL_law_16 : decode cL_law 16 = .ok (.iconst 1, 1) := by decide +kernel
theorem dL_law_17 : decode cL_law 17 = .ok (.newarray .long, 2) := by decide +kernel
theorem dL_law_19 : decode cL_law 19 = .ok (.astore_n 3, 1) := by decide +kernel
theorem dL_law_20 : decode cL_law 20 = .ok (.iconst 0, 1) := by decide +kernel
theorem dL_law_21 : decode cL_law 21 = .ok (.istore 4, 2) := by decide +kernel
theorem dL_law_23 : decode cL_law 23 = .ok (.iload 4, 2) := by decide +kernel
theorem dL_law_25 : decode cL_law 25 = .ok (.aload_n 0, 1) := by decide +kernel
theorem dL_law_26 : decode cL_law 26 = .ok (.arraylength, 1) := by decide +kernel
theorem dL_law_27 : decode cL_law 27 = .ok (.bipush 6, 2) := by decide +kernel
theorem dL_law_29 : decode cL_law 29 = .ok (.isub, 1) := by decide +kernel
theorem dL_law_30 : decode cL_law 30 = .ok (.if_icmp .gt 2038, 3) := by decide +kernel
theorem dL_law_33 : decode cL_law 33 = .ok (.aload_n 0, 1) := by decide +kernel
theorem dL_law_34 : decode cL_law 34 = .ok (.iload 4, 2) := by decide +kernel
theorem dL_law_36 : decode cL_law 36 = .ok (.iaload, 1) := by decide +kernel
theorem dL_law_37 : decode cL_law 37 = .ok (.bipush 63, 2) := by decide +kernel
theorem dL_law_39 : decode cL_law 39 = .ok (.iand, 1) := by decide +kernel
theorem dL_law_40 : decode cL_law 40 = .ok (.tableswitch 2022 0 39 #[176, 280, 336, 349, 362, 375, 388, 401, 414, 427, 440, 496, 571, 639, 702, 715, 759, 839, 907, 975, 1031, 1087, 1162, 1218, 1274, 1349, 1362, 1418, 1498, 1585, 1641, 1709, 1753, 1797, 1853, 1866, 1879, 1923, 1967, 2008], 176) := by decide +kernel
theorem dL_law_216 : decode cL_law 216 = .ok (.aload_n 1, 1) := by decide +kernel
theorem dL_law_217 : decode cL_law 217 = .ok (.aload_n 0, 1) := by decide +kernel
theorem dL_law_218 : decode cL_law 218 = .ok (.iload 4, 2) := by decide +kernel
theorem dL_law_220 : decode cL_law 220 = .ok (.iconst 1, 1) := by decide +kernel
theorem dL_law_221 : decode cL_law 221 = .ok (.iadd, 1) := by decide +kernel
theorem dL_law_222 : decode cL_law 222 = .ok (.iaload, 1) := by decide +kernel
theorem dL_law_223 : decode cL_law 223 = .ok (.aload_n 0, 1) := by decide +kernel
theorem dL_law_224 : decode cL_law 224 = .ok (.iload 4, 2) := by decide +kernel
theorem dL_law_226 : decode cL_law 226 = .ok (.iconst 2, 1) := by decide +kernel
theorem dL_law_227 : decode cL_law 227 = .ok (.iadd, 1) := by decide +kernel
theorem dL_law_228 : decode cL_law 228 = .ok (.iaload, 1) := by decide +kernel
theorem dL_law_229 : decode cL_law 229 = .ok (.aload_n 0, 1) := by decide +kernel
theorem dL_law_230 : decode cL_law 230 = .ok (.iload 4, 2) := by decide +kernel
theorem dL_law_232 : decode cL_law 232 = .ok (.iconst 3, 1) := by decide +kernel
theorem dL_law_233 : decode cL_law 233 = .ok (.iadd, 1) := by decide +kernel
theorem dL_law_234 : decode cL_law 234 = .ok (.iaload, 1) := by decide +kernel
theorem dL_law_235 : decode cL_law 235 = .ok (.aload_n 0, 1) := by decide +kernel
theorem dL_law_236 : decode cL_law 236 = .ok (.iload 4, 2) := by decide +kernel
theorem dL_law_238 : decode cL_law 238 = .ok (.iconst 4, 1) := by decide +kernel
theorem dL_law_239 : decode cL_law 239 = .ok (.iadd, 1) := by decide +kernel
theorem dL_law_240 : decode cL_law 240 = .ok (.iaload, 1) := by decide +kernel
theorem dL_law_241 : decode cL_law 241 = .ok (.aload_n 0, 1) := by decide +kernel
theorem dL_law_242 : decode cL_law 242 = .ok (.iload 4, 2) := by decide +kernel
theorem dL_law_244 : decode cL_law 244 = .ok (.iconst 5, 1) := by decide +kernel
theorem dL_law_245 : decode cL_law 245 = .ok (.iadd, 1) := by decide +kernel
theorem dL_law_246 : decode cL_law 246 = .ok (.iaload, 1) := by decide +kernel
theorem dL_law_247 : decode cL_law 247 = .ok (.aload_n 3, 1) := by decide +kernel
theorem dL_law_248 : decode cL_law 248 = .ok (.invokestatic 105, 3) := by decide +kernel
theorem dL_law_251 : decode cL_law 251 = .ok (.istore 5, 2) := by decide +kernel
theorem dL_law_253 : decode cL_law 253 = .ok (.aload_n 2, 1) := by decide +kernel
theorem dL_law_254 : decode cL_law 254 = .ok (.aload_n 0, 1) := by decide +kernel
theorem dL_law_255 : decode cL_law 255 = .ok (.iload 4, 2) := by decide +kernel
theorem dL_law_257 : decode cL_law 257 = .ok (.iconst 1, 1) := by decide +kernel
theorem dL_law_258 : decode cL_law 258 = .ok (.iadd, 1) := by decide +kernel
theorem dL_law_259 : decode cL_law 259 = .ok (.iaload, 1) := by decide +kernel
theorem dL_law_260 : decode cL_law 260 = .ok (.aload_n 0, 1) := by decide +kernel
theorem dL_law_261 : decode cL_law 261 = .ok (.iload 4, 2) := by decide +kernel
theorem dL_law_263 : decode cL_law 263 = .ok (.iconst 2, 1) := by decide +kernel
theorem dL_law_264 : decode cL_law 264 = .ok (.iadd, 1) := by decide +kernel
theorem dL_law_265 : decode cL_law 265 = .ok (.iaload, 1) := by decide +kernel
theorem dL_law_266 : decode cL_law 266 = .ok (.aload_n 0, 1) := by decide +kernel
theorem dL_law_267 : decode cL_law 267 = .ok (.iload 4, 2) := by decide +kernel
theorem dL_law_269 : decode cL_law 269 = .ok (.iconst 3, 1) := by decide +kernel
theorem dL_law_270 : decode cL_law 270 = .ok (.iadd, 1) := by decide +kernel
theorem dL_law_271 : decode cL_law 271 = .ok (.iaload, 1) := by decide +kernel
theorem dL_law_272 : decode cL_law 272 = .ok (.aload_n 0, 1) := by decide +kernel
theorem dL_law_273 : decode cL_law 273 = .ok (.iload 4, 2) := by decide +kernel
theorem dL_law_275 : decode cL_law 275 = .ok (.iconst 4, 1) := by decide +kernel
theorem dL_law_276 : decode cL_law 276 = .ok (.iadd, 1) := by decide +kernel
theorem dL_law_277 : decode cL_law 277 = .ok (.iaload, 1) := by decide +kernel
theorem dL_law_278 : decode cL_law 278 = .ok (.aload_n 0, 1) := by decide +kernel
theorem dL_law_279 : decode cL_law 279 = .ok (.iload 4, 2) := by decide +kernel
theorem dL_law_281 : decode cL_law 281 = .ok (.iconst 5, 1) := by decide +kernel
theorem dL_law_282 : decode cL_law 282 = .ok (.iadd, 1) := by decide +kernel
theorem dL_law_283 : decode cL_law 283 = .ok (.iaload, 1) := by decide +kernel
theorem dL_law_284 : decode cL_law 284 = .ok (.invokevirtual 110, 3) := by decide +kernel
theorem dL_law_287 : decode cL_law 287 = .ok (.istore 6, 2) := by decide +kernel
theorem dL_law_289 : decode cL_law 289 = .ok (.aload_n 2, 1) := by decide +kernel
theorem dL_law_290 : decode cL_law 290 = .ok (.invokevirtual 111, 3) := by decide +kernel
theorem dL_law_293 : decode cL_law 293 = .ok (.iload 5, 2) := by decide +kernel
theorem dL_law_295 : decode cL_law 295 = .ok (.if_icmp .eq 5, 3) := by decide +kernel
theorem dL_law_298 : decode cL_law 298 = .ok (.iconst 0, 1) := by decide +kernel
theorem dL_law_299 : decode cL_law 299 = .ok (.ireturn, 1) := by decide +kernel
theorem dL_law_300 : decode cL_law 300 = .ok (.iload 5, 2) := by decide +kernel
theorem dL_law_302 : decode cL_law 302 = .ok (.ifCond .ne 15, 3) := by decide +kernel
theorem dL_law_305 : decode cL_law 305 = .ok (.aload_n 3, 1) := by decide +kernel
theorem dL_law_306 : decode cL_law 306 = .ok (.iconst 0, 1) := by decide +kernel
theorem dL_law_307 : decode cL_law 307 = .ok (.laload, 1) := by decide +kernel
theorem dL_law_308 : decode cL_law 308 = .ok (.iload 6, 2) := by decide +kernel
theorem dL_law_310 : decode cL_law 310 = .ok (.i2l, 1) := by decide +kernel
theorem dL_law_311 : decode cL_law 311 = .ok (.lcmp, 1) := by decide +kernel
theorem dL_law_312 : decode cL_law 312 = .ok (.ifCond .eq 5, 3) := by decide +kernel
theorem dL_law_315 : decode cL_law 315 = .ok (.iconst 0, 1) := by decide +kernel
theorem dL_law_316 : decode cL_law 316 = .ok (.ireturn, 1) := by decide +kernel
theorem dL_law_317 : decode cL_law 317 = .ok (.goto 1745, 3) := by decide +kernel
theorem dL_law_320 : decode cL_law 320 = .ok (.aload_n 1, 1) := by decide +kernel
theorem dL_law_321 : decode cL_law 321 = .ok (.aload_n 0, 1) := by decide +kernel
theorem dL_law_322 : decode cL_law 322 = .ok (.iload 4, 2) := by decide +kernel
theorem dL_law_324 : decode cL_law 324 = .ok (.iconst 1, 1) := by decide +kernel
theorem dL_law_325 : decode cL_law 325 = .ok (.iadd, 1) := by decide +kernel
theorem dL_law_326 : decode cL_law 326 = .ok (.iaload, 1) := by decide +kernel
theorem dL_law_327 : decode cL_law 327 = .ok (.aload_n 3, 1) := by decide +kernel
theorem dL_law_328 : decode cL_law 328 = .ok (.invokestatic 114, 3) := by decide +kernel
theorem dL_law_331 : decode cL_law 331 = .ok (.istore 5, 2) := by decide +kernel
theorem dL_law_333 : decode cL_law 333 = .ok (.aload_n 2, 1) := by decide +kernel
theorem dL_law_334 : decode cL_law 334 = .ok (.aload_n 0, 1) := by decide +kernel
theorem dL_law_335 : decode cL_law 335 = .ok (.iload 4, 2) := by decide +kernel
theorem dL_law_337 : decode cL_law 337 = .ok (.iconst 1, 1) := by decide +kernel
theorem dL_law_338 : decode cL_law 338 = .ok (.iadd, 1) := by decide +kernel
theorem dL_law_339 : decode cL_law 339 = .ok (.iaload, 1) := by decide +kernel
theorem dL_law_340 : decode cL_law 340 = .ok (.invokevirtual 117, 3) := by decide +kernel
theorem dL_law_343 : decode cL_law 343 = .ok (.istore 6, 2) := by decide +kernel
theorem dL_law_345 : decode cL_law 345 = .ok (.aload_n 2, 1) := by decide +kernel
theorem dL_law_346 : decode cL_law 346 = .ok (.invokevirtual 111, 3) := by decide +kernel
theorem dL_law_349 : decode cL_law 349 = .ok (.iload 5, 2) := by decide +kernel
theorem dL_law_351 : decode cL_law 351 = .ok (.if_icmp .eq 5, 3) := by decide +kernel
theorem dL_law_354 : decode cL_law 354 = .ok (.iconst 0, 1) := by decide +kernel
theorem dL_law_355 : decode cL_law 355 = .ok (.ireturn, 1) := by decide +kernel
theorem dL_law_356 : decode cL_law 356 = .ok (.iload 5, 2) := by decide +kernel
theorem dL_law_358 : decode cL_law 358 = .ok (.ifCond .ne 15, 3) := by decide +kernel
theorem dL_law_361 : decode cL_law 361 = .ok (.aload_n 3, 1) := by decide +kernel
theorem dL_law_362 : decode cL_law 362 = .ok (.iconst 0, 1) := by decide +kernel
theorem dL_law_363 : decode cL_law 363 = .ok (.laload, 1) := by decide +kernel
theorem dL_law_364 : decode cL_law 364 = .ok (.iload 6, 2) := by decide +kernel
theorem dL_law_366 : decode cL_law 366 = .ok (.i2l, 1) := by decide +kernel
theorem dL_law_367 : decode cL_law 367 = .ok (.lcmp, 1) := by decide +kernel
theorem dL_law_368 : decode cL_law 368 = .ok (.ifCond .eq 5, 3) := by decide +kernel
theorem dL_law_371 : decode cL_law 371 = .ok (.iconst 0, 1) := by decide +kernel
theorem dL_law_372 : decode cL_law 372 = .ok (.ireturn, 1) := by decide +kernel
theorem dL_law_373 : decode cL_law 373 = .ok (.goto 1689, 3) := by decide +kernel
theorem dL_law_376 : decode cL_law 376 = .ok (.aload_n 1, 1) := by decide +kernel
theorem dL_law_377 : decode cL_law 377 = .ok (.invokevirtual 118, 3) := by decide +kernel
theorem dL_law_380 : decode cL_law 380 = .ok (.aload_n 2, 1) := by decide +kernel
theorem dL_law_381 : decode cL_law 381 = .ok (.invokevirtual 121, 3) := by decide +kernel
theorem dL_law_384 : decode cL_law 384 = .ok (.if_icmp .eq 1678, 3) := by decide +kernel
theorem dL_law_387 : decode cL_law 387 = .ok (.iconst 0, 1) := by decide +kernel
theorem dL_law_388 : decode cL_law 388 = .ok (.ireturn, 1) := by decide +kernel
theorem dL_law_389 : decode cL_law 389 = .ok (.aload_n 1, 1) := by decide +kernel
theorem dL_law_390 : decode cL_law 390 = .ok (.invokevirtual 122, 3) := by decide +kernel
theorem dL_law_393 : decode cL_law 393 = .ok (.aload_n 2, 1) := by decide +kernel
theorem dL_law_394 : decode cL_law 394 = .ok (.invokevirtual 125, 3) := by decide +kernel
theorem dL_law_397 : decode cL_law 397 = .ok (.if_icmp .eq 1665, 3) := by decide +kernel
theorem dL_law_400 : decode cL_law 400 = .ok (.iconst 0, 1) := by decide +kernel
theorem dL_law_401 : decode cL_law 401 = .ok (.ireturn, 1) := by decide +kernel
theorem dL_law_402 : decode cL_law 402 = .ok (.aload_n 1, 1) := by decide +kernel
theorem dL_law_403 : decode cL_law 403 = .ok (.invokevirtual 126, 3) := by decide +kernel
theorem dL_law_406 : decode cL_law 406 = .ok (.aload_n 2, 1) := by decide +kernel
theorem dL_law_407 : decode cL_law 407 = .ok (.invokevirtual 129, 3) := by decide +kernel
theorem dL_law_410 : decode cL_law 410 = .ok (.if_icmp .eq 1652, 3) := by decide +kernel
theorem dL_law_413 : decode cL_law 413 = .ok (.iconst 0, 1) := by decide +kernel
theorem dL_law_414 : decode cL_law 414 = .ok (.ireturn, 1) := by decide +kernel
theorem dL_law_415 : decode cL_law 415 = .ok (.aload_n 1, 1) := by decide +kernel
theorem dL_law_416 : decode cL_law 416 = .ok (.invokevirtual 130, 3) := by decide +kernel
theorem dL_law_419 : decode cL_law 419 = .ok (.aload_n 2, 1) := by decide +kernel
theorem dL_law_420 : decode cL_law 420 = .ok (.invokevirtual 133, 3) := by decide +kernel
theorem dL_law_423 : decode cL_law 423 = .ok (.if_icmp .eq 1639, 3) := by decide +kernel
theorem dL_law_426 : decode cL_law 426 = .ok (.iconst 0, 1) := by decide +kernel
theorem dL_law_427 : decode cL_law 427 = .ok (.ireturn, 1) := by decide +kernel
theorem dL_law_428 : decode cL_law 428 = .ok (.aload_n 1, 1) := by decide +kernel
theorem dL_law_429 : decode cL_law 429 = .ok (.invokevirtual 134, 3) := by decide +kernel
theorem dL_law_432 : decode cL_law 432 = .ok (.aload_n 2, 1) := by decide +kernel
theorem dL_law_433 : decode cL_law 433 = .ok (.invokevirtual 137, 3) := by decide +kernel
theorem dL_law_436 : decode cL_law 436 = .ok (.if_icmp .eq 1626, 3) := by decide +kernel
theorem dL_law_439 : decode cL_law 439 = .ok (.iconst 0, 1) := by decide +kernel
theorem dL_law_440 : decode cL_law 440 = .ok (.ireturn, 1) := by decide +kernel
theorem dL_law_441 : decode cL_law 441 = .ok (.aload_n 1, 1) := by decide +kernel
theorem dL_law_442 : decode cL_law 442 = .ok (.invokevirtual 138, 3) := by decide +kernel
theorem dL_law_445 : decode cL_law 445 = .ok (.aload_n 2, 1) := by decide +kernel
theorem dL_law_446 : decode cL_law 446 = .ok (.invokevirtual 141, 3) := by decide +kernel
theorem dL_law_449 : decode cL_law 449 = .ok (.if_icmp .eq 1613, 3) := by decide +kernel
theorem dL_law_452 : decode cL_law 452 = .ok (.iconst 0, 1) := by decide +kernel
theorem dL_law_453 : decode cL_law 453 = .ok (.ireturn, 1) := by decide +kernel
theorem dL_law_454 : decode cL_law 454 = .ok (.aload_n 1, 1) := by decide +kernel
theorem dL_law_455 : decode cL_law 455 = .ok (.invokevirtual 142, 3) := by decide +kernel
theorem dL_law_458 : decode cL_law 458 = .ok (.aload_n 2, 1) := by decide +kernel
theorem dL_law_459 : decode cL_law 459 = .ok (.invokevirtual 145, 3) := by decide +kernel
theorem dL_law_462 : decode cL_law 462 = .ok (.if_icmp .eq 1600, 3) := by decide +kernel
theorem dL_law_465 : decode cL_law 465 = .ok (.iconst 0, 1) := by decide +kernel
theorem dL_law_466 : decode cL_law 466 = .ok (.ireturn, 1) := by decide +kernel
theorem dL_law_467 : decode cL_law 467 = .ok (.aload_n 1, 1) := by decide +kernel
theorem dL_law_468 : decode cL_law 468 = .ok (.invokevirtual 146, 3) := by decide +kernel
theorem dL_law_471 : decode cL_law 471 = .ok (.aload_n 2, 1) := by decide +kernel
theorem dL_law_472 : decode cL_law 472 = .ok (.invokevirtual 149, 3) := by decide +kernel
theorem dL_law_475 : decode cL_law 475 = .ok (.if_icmp .eq 1587, 3) := by decide +kernel
theorem dL_law_478 : decode cL_law 478 = .ok (.iconst 0, 1) := by decide +kernel
theorem dL_law_479 : decode cL_law 479 = .ok (.ireturn, 1) := by decide +kernel
theorem dL_law_480 : decode cL_law 480 = .ok (.aload_n 1, 1) := by decide +kernel
theorem dL_law_481 : decode cL_law 481 = .ok (.aload_n 0, 1) := by decide +kernel
theorem dL_law_482 : decode cL_law 482 = .ok (.iload 4, 2) := by decide +kernel
theorem dL_law_484 : decode cL_law 484 = .ok (.iconst 1, 1) := by decide +kernel
theorem dL_law_485 : decode cL_law 485 = .ok (.iadd, 1) := by decide +kernel
theorem dL_law_486 : decode cL_law 486 = .ok (.iaload, 1) := by decide +kernel
theorem dL_law_487 : decode cL_law 487 = .ok (.aload_n 3, 1) := by decide +kernel
theorem dL_law_488 : decode cL_law 488 = .ok (.invokestatic 150, 3) := by decide +kernel
theorem dL_law_491 : decode cL_law 491 = .ok (.istore 5, 2) := by decide +kernel
theorem dL_law_493 : decode cL_law 493 = .ok (.aload_n 2, 1) := by decide +kernel
theorem dL_law_494 : decode cL_law 494 = .ok (.aload_n 0, 1) := by decide +kernel
theorem dL_law_495 : decode cL_law 495 = .ok (.iload 4, 2) := by decide +kernel
theorem dL_law_497 : decode cL_law 497 = .ok (.iconst 1, 1) := by decide +kernel
theorem dL_law_498 : decode cL_law 498 = .ok (.iadd, 1) := by decide +kernel
theorem dL_law_499 : decode cL_law 499 = .ok (.iaload, 1) := by decide +kernel
theorem dL_law_500 : decode cL_law 500 = .ok (.invokevirtual 152, 3) := by decide +kernel
theorem dL_law_503 : decode cL_law 503 = .ok (.istore 6, 2) := by decide +kernel
theorem dL_law_505 : decode cL_law 505 = .ok (.aload_n 2, 1) := by decide +kernel
theorem dL_law_506 : decode cL_law 506 = .ok (.invokevirtual 111, 3) := by decide +kernel
theorem dL_law_509 : decode cL_law 509 = .ok (.iload 5, 2) := by decide +kernel
theorem dL_law_511 : decode cL_law 511 = .ok (.if_icmp .eq 5, 3) := by decide +kernel
theorem dL_law_514 : decode cL_law 514 = .ok (.iconst 0, 1) := by decide +kernel
theorem dL_law_515 : decode cL_law 515 = .ok (.ireturn, 1) := by decide +kernel
theorem dL_law_516 : decode cL_law 516 = .ok (.iload 5, 2) := by decide +kernel
theorem dL_law_518 : decode cL_law 518 = .ok (.ifCond .ne 15, 3) := by decide +kernel
theorem dL_law_521 : decode cL_law 521 = .ok (.aload_n 3, 1) := by decide +kernel
theorem dL_law_522 : decode cL_law 522 = .ok (.iconst 0, 1) := by decide +kernel
theorem dL_law_523 : decode cL_law 523 = .ok (.laload, 1) := by decide +kernel
theorem dL_law_524 : decode cL_law 524 = .ok (.iload 6, 2) := by decide +kernel
theorem dL_law_526 : decode cL_law 526 = .ok (.i2l, 1) := by decide +kernel
theorem dL_law_527 : decode cL_law 527 = .ok (.lcmp, 1) := by decide +kernel
theorem dL_law_528 : decode cL_law 528 = .ok (.ifCond .eq 5, 3) := by decide +kernel
theorem dL_law_531 : decode cL_law 531 = .ok (.iconst 0, 1) := by decide +kernel
theorem dL_law_532 : decode cL_law 532 = .ok (.ireturn, 1) := by decide +kernel
theorem dL_law_533 : decode cL_law 533 = .ok (.goto 1529, 3) := by decide +kernel
theorem dL_law_536 : decode cL_law 536 = .ok (.aload_n 1, 1) := by decide +kernel
theorem dL_law_537 : decode cL_law 537 = .ok (.aload_n 0, 1) := by decide +kernel
theorem dL_law_538 : decode cL_law 538 = .ok (.iload 4, 2) := by decide +kernel
theorem dL_law_540 : decode cL_law 540 = .ok (.iconst 1, 1) := by decide +kernel
theorem dL_law_541 : decode cL_law 541 = .ok (.iadd, 1) := by decide +kernel
theorem dL_law_542 : decode cL_law 542 = .ok (.iaload, 1) := by decide +kernel
theorem dL_law_543 : decode cL_law 543 = .ok (.aload_n 0, 1) := by decide +kernel
theorem dL_law_544 : decode cL_law 544 = .ok (.iload 4, 2) := by decide +kernel
theorem dL_law_546 : decode cL_law 546 = .ok (.iconst 2, 1) := by decide +kernel
theorem dL_law_547 : decode cL_law 547 = .ok (.iadd, 1) := by decide +kernel
theorem dL_law_548 : decode cL_law 548 = .ok (.iaload, 1) := by decide +kernel
theorem dL_law_549 : decode cL_law 549 = .ok (.aload_n 3, 1) := by decide +kernel
theorem dL_law_550 : decode cL_law 550 = .ok (.invokestatic 153, 3) := by decide +kernel
theorem dL_law_553 : decode cL_law 553 = .ok (.istore 5, 2) := by decide +kernel
theorem dL_law_555 : decode cL_law 555 = .ok (.aload_n 2, 1) := by decide +kernel
theorem dL_law_556 : decode cL_law 556 = .ok (.aload_n 0, 1) := by decide +kernel
theorem dL_law_557 : decode cL_law 557 = .ok (.iload 4, 2) := by decide +kernel
theorem dL_law_559 : decode cL_law 559 = .ok (.iconst 1, 1) := by decide +kernel
theorem dL_law_560 : decode cL_law 560 = .ok (.iadd, 1) := by decide +kernel
theorem dL_law_561 : decode cL_law 561 = .ok (.iaload, 1) := by decide +kernel
theorem dL_law_562 : decode cL_law 562 = .ok (.aload_n 0, 1) := by decide +kernel
theorem dL_law_563 : decode cL_law 563 = .ok (.iload 4, 2) := by decide +kernel
theorem dL_law_565 : decode cL_law 565 = .ok (.iconst 2, 1) := by decide +kernel
theorem dL_law_566 : decode cL_law 566 = .ok (.iadd, 1) := by decide +kernel
theorem dL_law_567 : decode cL_law 567 = .ok (.iaload, 1) := by decide +kernel
theorem dL_law_568 : decode cL_law 568 = .ok (.invokevirtual 156, 3) := by decide +kernel
theorem dL_law_571 : decode cL_law 571 = .ok (.istore 6, 2) := by decide +kernel
theorem dL_law_573 : decode cL_law 573 = .ok (.aload_n 2, 1) := by decide +kernel
theorem dL_law_574 : decode cL_law 574 = .ok (.invokevirtual 111, 3) := by decide +kernel
theorem dL_law_577 : decode cL_law 577 = .ok (.iload 5, 2) := by decide +kernel
theorem dL_law_579 : decode cL_law 579 = .ok (.if_icmp .eq 5, 3) := by decide +kernel
theorem dL_law_582 : decode cL_law 582 = .ok (.iconst 0, 1) := by decide +kernel
theorem dL_law_583 : decode cL_law 583 = .ok (.ireturn, 1) := by decide +kernel
theorem dL_law_584 : decode cL_law 584 = .ok (.iload 5, 2) := by decide +kernel
theorem dL_law_586 : decode cL_law 586 = .ok (.ifCond .ne 22, 3) := by decide +kernel
theorem dL_law_589 : decode cL_law 589 = .ok (.aload_n 3, 1) := by decide +kernel
theorem dL_law_590 : decode cL_law 590 = .ok (.iconst 0, 1) := by decide +kernel
theorem dL_law_591 : decode cL_law 591 = .ok (.laload, 1) := by decide +kernel
theorem dL_law_592 : decode cL_law 592 = .ok (.iload 6, 2) := by decide +kernel
theorem dL_law_594 : decode cL_law 594 = .ok (.ifCond .eq 7, 3) := by decide +kernel
theorem dL_law_597 : decode cL_law 597 = .ok (.lconst 1, 1) := by decide +kernel
theorem dL_law_598 : decode cL_law 598 = .ok (.goto 4, 3) := by decide +kernel
theorem dL_law_601 : decode cL_law 601 = .ok (.lconst 0, 1) := by decide +kernel
theorem dL_law_602 : decode cL_law 602 = .ok (.lcmp, 1) := by decide +kernel
theorem dL_law_603 : decode cL_law 603 = .ok (.ifCond .eq 5, 3) := by decide +kernel
theorem dL_law_606 : decode cL_law 606 = .ok (.iconst 0, 1) := by decide +kernel
theorem dL_law_607 : decode cL_law 607 = .ok (.ireturn, 1) := by decide +kernel
theorem dL_law_608 : decode cL_law 608 = .ok (.goto 1454, 3) := by decide +kernel
theorem dL_law_611 : decode cL_law 611 = .ok (.aload_n 1, 1) := by decide +kernel
theorem dL_law_612 : decode cL_law 612 = .ok (.aload_n 0, 1) := by decide +kernel
theorem dL_law_613 : decode cL_law 613 = .ok (.iload 4, 2) := by decide +kernel
theorem dL_law_615 : decode cL_law 615 = .ok (.iconst 1, 1) := by decide +kernel
theorem dL_law_616 : decode cL_law 616 = .ok (.iadd, 1) := by decide +kernel
theorem dL_law_617 : decode cL_law 617 = .ok (.iaload, 1) := by decide +kernel
theorem dL_law_618 : decode cL_law 618 = .ok (.aload_n 0, 1) := by decide +kernel
theorem dL_law_619 : decode cL_law 619 = .ok (.iload 4, 2) := by decide +kernel
theorem dL_law_621 : decode cL_law 621 = .ok (.iconst 2, 1) := by decide +kernel
theorem dL_law_622 : decode cL_law 622 = .ok (.iadd, 1) := by decide +kernel
theorem dL_law_623 : decode cL_law 623 = .ok (.iaload, 1) := by decide +kernel
theorem dL_law_624 : decode cL_law 624 = .ok (.aload_n 3, 1) := by decide +kernel
theorem dL_law_625 : decode cL_law 625 = .ok (.invokestatic 157, 3) := by decide +kernel
theorem dL_law_628 : decode cL_law 628 = .ok (.istore 5, 2) := by decide +kernel
theorem dL_law_630 : decode cL_law 630 = .ok (.aload_n 2, 1) := by decide +kernel
theorem dL_law_631 : decode cL_law 631 = .ok (.aload_n 0, 1) := by decide +kernel
theorem dL_law_632 : decode cL_law 632 = .ok (.iload 4, 2) := by decide +kernel
theorem dL_law_634 : decode cL_law 634 = .ok (.iconst 1, 1) := by decide +kernel
theorem dL_law_635 : decode cL_law 635 = .ok (.iadd, 1) := by decide +kernel
theorem dL_law_636 : decode cL_law 636 = .ok (.iaload, 1) := by decide +kernel
theorem dL_law_637 : decode cL_law 637 = .ok (.aload_n 0, 1) := by decide +kernel
theorem dL_law_638 : decode cL_law 638 = .ok (.iload 4, 2) := by decide +kernel
theorem dL_law_640 : decode cL_law 640 = .ok (.iconst 2, 1) := by decide +kernel
theorem dL_law_641 : decode cL_law 641 = .ok (.iadd, 1) := by decide +kernel
theorem dL_law_642 : decode cL_law 642 = .ok (.iaload, 1) := by decide +kernel
theorem dL_law_643 : decode cL_law 643 = .ok (.invokevirtual 159, 3) := by decide +kernel
theorem dL_law_646 : decode cL_law 646 = .ok (.istore 6, 2) := by decide +kernel
theorem dL_law_648 : decode cL_law 648 = .ok (.aload_n 2, 1) := by decide +kernel
theorem dL_law_649 : decode cL_law 649 = .ok (.invokevirtual 111, 3) := by decide +kernel
theorem dL_law_652 : decode cL_law 652 = .ok (.iload 5, 2) := by decide +kernel
theorem dL_law_654 : decode cL_law 654 = .ok (.if_icmp .eq 5, 3) := by decide +kernel
theorem dL_law_657 : decode cL_law 657 = .ok (.iconst 0, 1) := by decide +kernel
theorem dL_law_658 : decode cL_law 658 = .ok (.ireturn, 1) := by decide +kernel
theorem dL_law_659 : decode cL_law 659 = .ok (.iload 5, 2) := by decide +kernel
theorem dL_law_661 : decode cL_law 661 = .ok (.ifCond .ne 15, 3) := by decide +kernel
theorem dL_law_664 : decode cL_law 664 = .ok (.aload_n 3, 1) := by decide +kernel
theorem dL_law_665 : decode cL_law 665 = .ok (.iconst 0, 1) := by decide +kernel
theorem dL_law_666 : decode cL_law 666 = .ok (.laload, 1) := by decide +kernel
theorem dL_law_667 : decode cL_law 667 = .ok (.iload 6, 2) := by decide +kernel
theorem dL_law_669 : decode cL_law 669 = .ok (.i2l, 1) := by decide +kernel
theorem dL_law_670 : decode cL_law 670 = .ok (.lcmp, 1) := by decide +kernel
theorem dL_law_671 : decode cL_law 671 = .ok (.ifCond .eq 5, 3) := by decide +kernel
theorem dL_law_674 : decode cL_law 674 = .ok (.iconst 0, 1) := by decide +kernel
theorem dL_law_675 : decode cL_law 675 = .ok (.ireturn, 1) := by decide +kernel
theorem dL_law_676 : decode cL_law 676 = .ok (.goto 1386, 3) := by decide +kernel
theorem dL_law_679 : decode cL_law 679 = .ok (.aload_n 1, 1) := by decide +kernel
theorem dL_law_680 : decode cL_law 680 = .ok (.aload_n 0, 1) := by decide +kernel
theorem dL_law_681 : decode cL_law 681 = .ok (.iload 4, 2) := by decide +kernel
theorem dL_law_683 : decode cL_law 683 = .ok (.iconst 1, 1) := by decide +kernel
theorem dL_law_684 : decode cL_law 684 = .ok (.iadd, 1) := by decide +kernel
theorem dL_law_685 : decode cL_law 685 = .ok (.iaload, 1) := by decide +kernel
theorem dL_law_686 : decode cL_law 686 = .ok (.aload_n 3, 1) := by decide +kernel
theorem dL_law_687 : decode cL_law 687 = .ok (.invokestatic 160, 3) := by decide +kernel
theorem dL_law_690 : decode cL_law 690 = .ok (.istore 5, 2) := by decide +kernel
theorem dL_law_692 : decode cL_law 692 = .ok (.aload_n 2, 1) := by decide +kernel
theorem dL_law_693 : decode cL_law 693 = .ok (.aload_n 0, 1) := by decide +kernel
theorem dL_law_694 : decode cL_law 694 = .ok (.iload 4, 2) := by decide +kernel
theorem dL_law_696 : decode cL_law 696 = .ok (.iconst 1, 1) := by decide +kernel
theorem dL_law_697 : decode cL_law 697 = .ok (.iadd, 1) := by decide +kernel
theorem dL_law_698 : decode cL_law 698 = .ok (.iaload, 1) := by decide +kernel
theorem dL_law_699 : decode cL_law 699 = .ok (.invokevirtual 162, 3) := by decide +kernel
theorem dL_law_702 : decode cL_law 702 = .ok (.istore 6, 2) := by decide +kernel
theorem dL_law_704 : decode cL_law 704 = .ok (.aload_n 2, 1) := by decide +kernel
theorem dL_law_705 : decode cL_law 705 = .ok (.invokevirtual 111, 3) := by decide +kernel
theorem dL_law_708 : decode cL_law 708 = .ok (.iload 5, 2) := by decide +kernel
theorem dL_law_710 : decode cL_law 710 = .ok (.if_icmp .eq 5, 3) := by decide +kernel
theorem dL_law_713 : decode cL_law 713 = .ok (.iconst 0, 1) := by decide +kernel
theorem dL_law_714 : decode cL_law 714 = .ok (.ireturn, 1) := by decide +kernel
theorem dL_law_715 : decode cL_law 715 = .ok (.iload 5, 2) := by decide +kernel
theorem dL_law_717 : decode cL_law 717 = .ok (.ifCond .ne 22, 3) := by decide +kernel
theorem dL_law_720 : decode cL_law 720 = .ok (.aload_n 3, 1) := by decide +kernel
theorem dL_law_721 : decode cL_law 721 = .ok (.iconst 0, 1) := by decide +kernel
theorem dL_law_722 : decode cL_law 722 = .ok (.laload, 1) := by decide +kernel
theorem dL_law_723 : decode cL_law 723 = .ok (.iload 6, 2) := by decide +kernel
theorem dL_law_725 : decode cL_law 725 = .ok (.ifCond .eq 7, 3) := by decide +kernel
theorem dL_law_728 : decode cL_law 728 = .ok (.lconst 1, 1) := by decide +kernel
theorem dL_law_729 : decode cL_law 729 = .ok (.goto 4, 3) := by decide +kernel
theorem dL_law_732 : decode cL_law 732 = .ok (.lconst 0, 1) := by decide +kernel
theorem dL_law_733 : decode cL_law 733 = .ok (.lcmp, 1) := by decide +kernel
theorem dL_law_734 : decode cL_law 734 = .ok (.ifCond .eq 5, 3) := by decide +kernel
theorem dL_law_737 : decode cL_law 737 = .ok (.iconst 0, 1) := by decide +kernel
theorem dL_law_738 : decode cL_law 738 = .ok (.ireturn, 1) := by decide +kernel
theorem dL_law_739 : decode cL_law 739 = .ok (.goto 1323, 3) := by decide +kernel
theorem dL_law_742 : decode cL_law 742 = .ok (.aload_n 1, 1) := by decide +kernel
theorem dL_law_743 : decode cL_law 743 = .ok (.invokevirtual 163, 3) := by decide +kernel
theorem dL_law_746 : decode cL_law 746 = .ok (.aload_n 2, 1) := by decide +kernel
theorem dL_law_747 : decode cL_law 747 = .ok (.invokevirtual 167, 3) := by decide +kernel
theorem dL_law_750 : decode cL_law 750 = .ok (.if_icmp .eq 1312, 3) := by decide +kernel
theorem dL_law_753 : decode cL_law 753 = .ok (.iconst 0, 1) := by decide +kernel
theorem dL_law_754 : decode cL_law 754 = .ok (.ireturn, 1) := by decide +kernel
theorem dL_law_755 : decode cL_law 755 = .ok (.aload_n 1, 1) := by decide +kernel
theorem dL_law_756 : decode cL_law 756 = .ok (.aload_n 3, 1) := by decide +kernel
theorem dL_law_757 : decode cL_law 757 = .ok (.invokestatic 168, 3) := by decide +kernel
theorem dL_law_760 : decode cL_law 760 = .ok (.istore 5, 2) := by decide +kernel
theorem dL_law_762 : decode cL_law 762 = .ok (.aload_n 2, 1) := by decide +kernel
theorem dL_law_763 : decode cL_law 763 = .ok (.invokevirtual 171, 3) := by decide +kernel
theorem dL_law_766 : decode cL_law 766 = .ok (.istore 6, 2) := by decide +kernel
theorem dL_law_768 : decode cL_law 768 = .ok (.aload_n 2, 1) := by decide +kernel
theorem dL_law_769 : decode cL_law 769 = .ok (.invokevirtual 111, 3) := by decide +kernel
theorem dL_law_772 : decode cL_law 772 = .ok (.iload 5, 2) := by decide +kernel
theorem dL_law_774 : decode cL_law 774 = .ok (.if_icmp .eq 5, 3) := by decide +kernel
theorem dL_law_777 : decode cL_law 777 = .ok (.iconst 0, 1) := by decide +kernel
theorem dL_law_778 : decode cL_law 778 = .ok (.ireturn, 1) := by decide +kernel
theorem dL_law_779 : decode cL_law 779 = .ok (.iload 5, 2) := by decide +kernel
theorem dL_law_781 : decode cL_law 781 = .ok (.ifCond .ne 15, 3) := by decide +kernel
theorem dL_law_784 : decode cL_law 784 = .ok (.aload_n 3, 1) := by decide +kernel
theorem dL_law_785 : decode cL_law 785 = .ok (.iconst 0, 1) := by decide +kernel
theorem dL_law_786 : decode cL_law 786 = .ok (.laload, 1) := by decide +kernel
theorem dL_law_787 : decode cL_law 787 = .ok (.iload 6, 2) := by decide +kernel
theorem dL_law_789 : decode cL_law 789 = .ok (.i2l, 1) := by decide +kernel
theorem dL_law_790 : decode cL_law 790 = .ok (.lcmp, 1) := by decide +kernel
theorem dL_law_791 : decode cL_law 791 = .ok (.ifCond .eq 5, 3) := by decide +kernel
theorem dL_law_794 : decode cL_law 794 = .ok (.iconst 0, 1) := by decide +kernel
theorem dL_law_795 : decode cL_law 795 = .ok (.ireturn, 1) := by decide +kernel
theorem dL_law_796 : decode cL_law 796 = .ok (.goto 1266, 3) := by decide +kernel
theorem dL_law_799 : decode cL_law 799 = .ok (.aload_n 1, 1) := by decide +kernel
theorem dL_law_800 : decode cL_law 800 = .ok (.aload_n 0, 1) := by decide +kernel
theorem dL_law_801 : decode cL_law 801 = .ok (.iload 4, 2) := by decide +kernel
theorem dL_law_803 : decode cL_law 803 = .ok (.iconst 1, 1) := by decide +kernel
theorem dL_law_804 : decode cL_law 804 = .ok (.iadd, 1) := by decide +kernel
theorem dL_law_805 : decode cL_law 805 = .ok (.iaload, 1) := by decide +kernel
theorem dL_law_806 : decode cL_law 806 = .ok (.aload_n 0, 1) := by decide +kernel
theorem dL_law_807 : decode cL_law 807 = .ok (.iload 4, 2) := by decide +kernel
theorem dL_law_809 : decode cL_law 809 = .ok (.iconst 2, 1) := by decide +kernel
theorem dL_law_810 : decode cL_law 810 = .ok (.iadd, 1) := by decide +kernel
theorem dL_law_811 : decode cL_law 811 = .ok (.iaload, 1) := by decide +kernel
theorem dL_law_812 : decode cL_law 812 = .ok (.aload_n 0, 1) := by decide +kernel
theorem dL_law_813 : decode cL_law 813 = .ok (.iload 4, 2) := by decide +kernel
theorem dL_law_815 : decode cL_law 815 = .ok (.iconst 3, 1) := by decide +kernel
theorem dL_law_816 : decode cL_law 816 = .ok (.iadd, 1) := by decide +kernel
theorem dL_law_817 : decode cL_law 817 = .ok (.iaload, 1) := by decide +kernel
theorem dL_law_818 : decode cL_law 818 = .ok (.aload_n 3, 1) := by decide +kernel
theorem dL_law_819 : decode cL_law 819 = .ok (.invokestatic 172, 3) := by decide +kernel
theorem dL_law_822 : decode cL_law 822 = .ok (.istore 5, 2) := by decide +kernel
theorem dL_law_824 : decode cL_law 824 = .ok (.aload_n 2, 1) := by decide +kernel
theorem dL_law_825 : decode cL_law 825 = .ok (.aload_n 0, 1) := by decide +kernel
theorem dL_law_826 : decode cL_law 826 = .ok (.iload 4, 2) := by decide +kernel
theorem dL_law_828 : decode cL_law 828 = .ok (.iconst 1, 1) := by decide +kernel
theorem dL_law_829 : decode cL_law 829 = .ok (.iadd, 1) := by decide +kernel
theorem dL_law_830 : decode cL_law 830 = .ok (.iaload, 1) := by decide +kernel
theorem dL_law_831 : decode cL_law 831 = .ok (.aload_n 0, 1) := by decide +kernel
theorem dL_law_832 : decode cL_law 832 = .ok (.iload 4, 2) := by decide +kernel
theorem dL_law_834 : decode cL_law 834 = .ok (.iconst 2, 1) := by decide +kernel
theorem dL_law_835 : decode cL_law 835 = .ok (.iadd, 1) := by decide +kernel
theorem dL_law_836 : decode cL_law 836 = .ok (.iaload, 1) := by decide +kernel
theorem dL_law_837 : decode cL_law 837 = .ok (.aload_n 0, 1) := by decide +kernel
theorem dL_law_838 : decode cL_law 838 = .ok (.iload 4, 2) := by decide +kernel
theorem dL_law_840 : decode cL_law 840 = .ok (.iconst 3, 1) := by decide +kernel
theorem dL_law_841 : decode cL_law 841 = .ok (.iadd, 1) := by decide +kernel
theorem dL_law_842 : decode cL_law 842 = .ok (.iaload, 1) := by decide +kernel
theorem dL_law_843 : decode cL_law 843 = .ok (.invokevirtual 175, 3) := by decide +kernel
theorem dL_law_846 : decode cL_law 846 = .ok (.istore 6, 2) := by decide +kernel
theorem dL_law_848 : decode cL_law 848 = .ok (.aload_n 2, 1) := by decide +kernel
theorem dL_law_849 : decode cL_law 849 = .ok (.invokevirtual 111, 3) := by decide +kernel
theorem dL_law_852 : decode cL_law 852 = .ok (.iload 5, 2) := by decide +kernel
theorem dL_law_854 : decode cL_law 854 = .ok (.if_icmp .eq 5, 3) := by decide +kernel
theorem dL_law_857 : decode cL_law 857 = .ok (.iconst 0, 1) := by decide +kernel
theorem dL_law_858 : decode cL_law 858 = .ok (.ireturn, 1) := by decide +kernel
theorem dL_law_859 : decode cL_law 859 = .ok (.iload 5, 2) := by decide +kernel
theorem dL_law_861 : decode cL_law 861 = .ok (.ifCond .ne 15, 3) := by decide +kernel
theorem dL_law_864 : decode cL_law 864 = .ok (.aload_n 3, 1) := by decide +kernel
theorem dL_law_865 : decode cL_law 865 = .ok (.iconst 0, 1) := by decide +kernel
theorem dL_law_866 : decode cL_law 866 = .ok (.laload, 1) := by decide +kernel
theorem dL_law_867 : decode cL_law 867 = .ok (.iload 6, 2) := by decide +kernel
theorem dL_law_869 : decode cL_law 869 = .ok (.i2l, 1) := by decide +kernel
theorem dL_law_870 : decode cL_law 870 = .ok (.lcmp, 1) := by decide +kernel
theorem dL_law_871 : decode cL_law 871 = .ok (.ifCond .eq 5, 3) := by decide +kernel
theorem dL_law_874 : decode cL_law 874 = .ok (.iconst 0, 1) := by decide +kernel
theorem dL_law_875 : decode cL_law 875 = .ok (.ireturn, 1) := by decide +kernel
theorem dL_law_876 : decode cL_law 876 = .ok (.goto 1186, 3) := by decide +kernel
theorem dL_law_879 : decode cL_law 879 = .ok (.aload_n 1, 1) := by decide +kernel
theorem dL_law_880 : decode cL_law 880 = .ok (.aload_n 0, 1) := by decide +kernel
theorem dL_law_881 : decode cL_law 881 = .ok (.iload 4, 2) := by decide +kernel
theorem dL_law_883 : decode cL_law 883 = .ok (.iconst 1, 1) := by decide +kernel
theorem dL_law_884 : decode cL_law 884 = .ok (.iadd, 1) := by decide +kernel
theorem dL_law_885 : decode cL_law 885 = .ok (.iaload, 1) := by decide +kernel
theorem dL_law_886 : decode cL_law 886 = .ok (.aload_n 0, 1) := by decide +kernel
theorem dL_law_887 : decode cL_law 887 = .ok (.iload 4, 2) := by decide +kernel
theorem dL_law_889 : decode cL_law 889 = .ok (.iconst 2, 1) := by decide +kernel
theorem dL_law_890 : decode cL_law 890 = .ok (.iadd, 1) := by decide +kernel
theorem dL_law_891 : decode cL_law 891 = .ok (.iaload, 1) := by decide +kernel
theorem dL_law_892 : decode cL_law 892 = .ok (.aload_n 3, 1) := by decide +kernel
theorem dL_law_893 : decode cL_law 893 = .ok (.invokestatic 176, 3) := by decide +kernel
theorem dL_law_896 : decode cL_law 896 = .ok (.istore 5, 2) := by decide +kernel
theorem dL_law_898 : decode cL_law 898 = .ok (.aload_n 2, 1) := by decide +kernel
theorem dL_law_899 : decode cL_law 899 = .ok (.aload_n 0, 1) := by decide +kernel
theorem dL_law_900 : decode cL_law 900 = .ok (.iload 4, 2) := by decide +kernel
theorem dL_law_902 : decode cL_law 902 = .ok (.iconst 1, 1) := by decide +kernel
theorem dL_law_903 : decode cL_law 903 = .ok (.iadd, 1) := by decide +kernel
theorem dL_law_904 : decode cL_law 904 = .ok (.iaload, 1) := by decide +kernel
theorem dL_law_905 : decode cL_law 905 = .ok (.aload_n 0, 1) := by decide +kernel
theorem dL_law_906 : decode cL_law 906 = .ok (.iload 4, 2) := by decide +kernel
theorem dL_law_908 : decode cL_law 908 = .ok (.iconst 2, 1) := by decide +kernel
theorem dL_law_909 : decode cL_law 909 = .ok (.iadd, 1) := by decide +kernel
theorem dL_law_910 : decode cL_law 910 = .ok (.iaload, 1) := by decide +kernel
theorem dL_law_911 : decode cL_law 911 = .ok (.invokevirtual 178, 3) := by decide +kernel
theorem dL_law_914 : decode cL_law 914 = .ok (.istore 6, 2) := by decide +kernel
theorem dL_law_916 : decode cL_law 916 = .ok (.aload_n 2, 1) := by decide +kernel
theorem dL_law_917 : decode cL_law 917 = .ok (.invokevirtual 111, 3) := by decide +kernel
theorem dL_law_920 : decode cL_law 920 = .ok (.iload 5, 2) := by decide +kernel
theorem dL_law_922 : decode cL_law 922 = .ok (.if_icmp .eq 5, 3) := by decide +kernel
theorem dL_law_925 : decode cL_law 925 = .ok (.iconst 0, 1) := by decide +kernel
theorem dL_law_926 : decode cL_law 926 = .ok (.ireturn, 1) := by decide +kernel
theorem dL_law_927 : decode cL_law 927 = .ok (.iload 5, 2) := by decide +kernel
theorem dL_law_929 : decode cL_law 929 = .ok (.ifCond .ne 15, 3) := by decide +kernel
theorem dL_law_932 : decode cL_law 932 = .ok (.aload_n 3, 1) := by decide +kernel
theorem dL_law_933 : decode cL_law 933 = .ok (.iconst 0, 1) := by decide +kernel
theorem dL_law_934 : decode cL_law 934 = .ok (.laload, 1) := by decide +kernel
theorem dL_law_935 : decode cL_law 935 = .ok (.iload 6, 2) := by decide +kernel
theorem dL_law_937 : decode cL_law 937 = .ok (.i2l, 1) := by decide +kernel
theorem dL_law_938 : decode cL_law 938 = .ok (.lcmp, 1) := by decide +kernel
theorem dL_law_939 : decode cL_law 939 = .ok (.ifCond .eq 5, 3) := by decide +kernel
theorem dL_law_942 : decode cL_law 942 = .ok (.iconst 0, 1) := by decide +kernel
theorem dL_law_943 : decode cL_law 943 = .ok (.ireturn, 1) := by decide +kernel
theorem dL_law_944 : decode cL_law 944 = .ok (.goto 1118, 3) := by decide +kernel
theorem dL_law_947 : decode cL_law 947 = .ok (.aload_n 1, 1) := by decide +kernel
theorem dL_law_948 : decode cL_law 948 = .ok (.aload_n 0, 1) := by decide +kernel
theorem dL_law_949 : decode cL_law 949 = .ok (.iload 4, 2) := by decide +kernel
theorem dL_law_951 : decode cL_law 951 = .ok (.iconst 1, 1) := by decide +kernel
theorem dL_law_952 : decode cL_law 952 = .ok (.iadd, 1) := by decide +kernel
theorem dL_law_953 : decode cL_law 953 = .ok (.iaload, 1) := by decide +kernel
theorem dL_law_954 : decode cL_law 954 = .ok (.aload_n 0, 1) := by decide +kernel
theorem dL_law_955 : decode cL_law 955 = .ok (.iload 4, 2) := by decide +kernel
theorem dL_law_957 : decode cL_law 957 = .ok (.iconst 2, 1) := by decide +kernel
theorem dL_law_958 : decode cL_law 958 = .ok (.iadd, 1) := by decide +kernel
theorem dL_law_959 : decode cL_law 959 = .ok (.iaload, 1) := by decide +kernel
theorem dL_law_960 : decode cL_law 960 = .ok (.aload_n 3, 1) := by decide +kernel
theorem dL_law_961 : decode cL_law 961 = .ok (.invokestatic 179, 3) := by decide +kernel
theorem dL_law_964 : decode cL_law 964 = .ok (.istore 5, 2) := by decide +kernel
theorem dL_law_966 : decode cL_law 966 = .ok (.aload_n 2, 1) := by decide +kernel
theorem dL_law_967 : decode cL_law 967 = .ok (.aload_n 0, 1) := by decide +kernel
theorem dL_law_968 : decode cL_law 968 = .ok (.iload 4, 2) := by decide +kernel
theorem dL_law_970 : decode cL_law 970 = .ok (.iconst 1, 1) := by decide +kernel
theorem dL_law_971 : decode cL_law 971 = .ok (.iadd, 1) := by decide +kernel
theorem dL_law_972 : decode cL_law 972 = .ok (.iaload, 1) := by decide +kernel
theorem dL_law_973 : decode cL_law 973 = .ok (.aload_n 0, 1) := by decide +kernel
theorem dL_law_974 : decode cL_law 974 = .ok (.iload 4, 2) := by decide +kernel
theorem dL_law_976 : decode cL_law 976 = .ok (.iconst 2, 1) := by decide +kernel
theorem dL_law_977 : decode cL_law 977 = .ok (.iadd, 1) := by decide +kernel
theorem dL_law_978 : decode cL_law 978 = .ok (.iaload, 1) := by decide +kernel
theorem dL_law_979 : decode cL_law 979 = .ok (.invokevirtual 181, 3) := by decide +kernel
theorem dL_law_982 : decode cL_law 982 = .ok (.istore 6, 2) := by decide +kernel
theorem dL_law_984 : decode cL_law 984 = .ok (.aload_n 2, 1) := by decide +kernel
theorem dL_law_985 : decode cL_law 985 = .ok (.invokevirtual 111, 3) := by decide +kernel
theorem dL_law_988 : decode cL_law 988 = .ok (.iload 5, 2) := by decide +kernel
theorem dL_law_990 : decode cL_law 990 = .ok (.if_icmp .eq 5, 3) := by decide +kernel
theorem dL_law_993 : decode cL_law 993 = .ok (.iconst 0, 1) := by decide +kernel
theorem dL_law_994 : decode cL_law 994 = .ok (.ireturn, 1) := by decide +kernel
theorem dL_law_995 : decode cL_law 995 = .ok (.iload 5, 2) := by decide +kernel
theorem dL_law_997 : decode cL_law 997 = .ok (.ifCond .ne 15, 3) := by decide +kernel
theorem dL_law_1000 : decode cL_law 1000 = .ok (.aload_n 3, 1) := by decide +kernel
theorem dL_law_1001 : decode cL_law 1001 = .ok (.iconst 0, 1) := by decide +kernel
theorem dL_law_1002 : decode cL_law 1002 = .ok (.laload, 1) := by decide +kernel
theorem dL_law_1003 : decode cL_law 1003 = .ok (.iload 6, 2) := by decide +kernel
theorem dL_law_1005 : decode cL_law 1005 = .ok (.i2l, 1) := by decide +kernel
theorem dL_law_1006 : decode cL_law 1006 = .ok (.lcmp, 1) := by decide +kernel
theorem dL_law_1007 : decode cL_law 1007 = .ok (.ifCond .eq 5, 3) := by decide +kernel
theorem dL_law_1010 : decode cL_law 1010 = .ok (.iconst 0, 1) := by decide +kernel
theorem dL_law_1011 : decode cL_law 1011 = .ok (.ireturn, 1) := by decide +kernel
theorem dL_law_1012 : decode cL_law 1012 = .ok (.goto 1050, 3) := by decide +kernel
theorem dL_law_1015 : decode cL_law 1015 = .ok (.aload_n 1, 1) := by decide +kernel
theorem dL_law_1016 : decode cL_law 1016 = .ok (.aload_n 0, 1) := by decide +kernel
theorem dL_law_1017 : decode cL_law 1017 = .ok (.iload 4, 2) := by decide +kernel
theorem dL_law_1019 : decode cL_law 1019 = .ok (.iconst 1, 1) := by decide +kernel
theorem dL_law_1020 : decode cL_law 1020 = .ok (.iadd, 1) := by decide +kernel
theorem dL_law_1021 : decode cL_law 1021 = .ok (.iaload, 1) := by decide +kernel
theorem dL_law_1022 : decode cL_law 1022 = .ok (.aload_n 3, 1) := by decide +kernel
theorem dL_law_1023 : decode cL_law 1023 = .ok (.invokestatic 182, 3) := by decide +kernel
theorem dL_law_1026 : decode cL_law 1026 = .ok (.istore 5, 2) := by decide +kernel
theorem dL_law_1028 : decode cL_law 1028 = .ok (.aload_n 2, 1) := by decide +kernel
theorem dL_law_1029 : decode cL_law 1029 = .ok (.aload_n 0, 1) := by decide +kernel
theorem dL_law_1030 : decode cL_law 1030 = .ok (.iload 4, 2) := by decide +kernel
theorem dL_law_1032 : decode cL_law 1032 = .ok (.iconst 1, 1) := by decide +kernel
theorem dL_law_1033 : decode cL_law 1033 = .ok (.iadd, 1) := by decide +kernel
theorem dL_law_1034 : decode cL_law 1034 = .ok (.iaload, 1) := by decide +kernel
theorem dL_law_1035 : decode cL_law 1035 = .ok (.invokevirtual 184, 3) := by decide +kernel
theorem dL_law_1038 : decode cL_law 1038 = .ok (.istore 6, 2) := by decide +kernel
theorem dL_law_1040 : decode cL_law 1040 = .ok (.aload_n 2, 1) := by decide +kernel
theorem dL_law_1041 : decode cL_law 1041 = .ok (.invokevirtual 111, 3) := by decide +kernel
theorem dL_law_1044 : decode cL_law 1044 = .ok (.iload 5, 2) := by decide +kernel
theorem dL_law_1046 : decode cL_law 1046 = .ok (.if_icmp .eq 5, 3) := by decide +kernel
theorem dL_law_1049 : decode cL_law 1049 = .ok (.iconst 0, 1) := by decide +kernel
theorem dL_law_1050 : decode cL_law 1050 = .ok (.ireturn, 1) := by decide +kernel
theorem dL_law_1051 : decode cL_law 1051 = .ok (.iload 5, 2) := by decide +kernel
theorem dL_law_1053 : decode cL_law 1053 = .ok (.ifCond .ne 15, 3) := by decide +kernel
theorem dL_law_1056 : decode cL_law 1056 = .ok (.aload_n 3, 1) := by decide +kernel
theorem dL_law_1057 : decode cL_law 1057 = .ok (.iconst 0, 1) := by decide +kernel
theorem dL_law_1058 : decode cL_law 1058 = .ok (.laload, 1) := by decide +kernel
theorem dL_law_1059 : decode cL_law 1059 = .ok (.iload 6, 2) := by decide +kernel
theorem dL_law_1061 : decode cL_law 1061 = .ok (.i2l, 1) := by decide +kernel
theorem dL_law_1062 : decode cL_law 1062 = .ok (.lcmp, 1) := by decide +kernel
theorem dL_law_1063 : decode cL_law 1063 = .ok (.ifCond .eq 5, 3) := by decide +kernel
theorem dL_law_1066 : decode cL_law 1066 = .ok (.iconst 0, 1) := by decide +kernel
theorem dL_law_1067 : decode cL_law 1067 = .ok (.ireturn, 1) := by decide +kernel
theorem dL_law_1068 : decode cL_law 1068 = .ok (.goto 994, 3) := by decide +kernel
theorem dL_law_1071 : decode cL_law 1071 = .ok (.aload_n 1, 1) := by decide +kernel
theorem dL_law_1072 : decode cL_law 1072 = .ok (.aload_n 0, 1) := by decide +kernel
theorem dL_law_1073 : decode cL_law 1073 = .ok (.iload 4, 2) := by decide +kernel
theorem dL_law_1075 : decode cL_law 1075 = .ok (.iconst 1, 1) := by decide +kernel
theorem dL_law_1076 : decode cL_law 1076 = .ok (.iadd, 1) := by decide +kernel
theorem dL_law_1077 : decode cL_law 1077 = .ok (.iaload, 1) := by decide +kernel
theorem dL_law_1078 : decode cL_law 1078 = .ok (.aload_n 3, 1) := by decide +kernel
theorem dL_law_1079 : decode cL_law 1079 = .ok (.invokestatic 185, 3) := by decide +kernel
theorem dL_law_1082 : decode cL_law 1082 = .ok (.istore 5, 2) := by decide +kernel
theorem dL_law_1084 : decode cL_law 1084 = .ok (.aload_n 2, 1) := by decide +kernel
theorem dL_law_1085 : decode cL_law 1085 = .ok (.aload_n 0, 1) := by decide +kernel
theorem dL_law_1086 : decode cL_law 1086 = .ok (.iload 4, 2) := by decide +kernel
theorem dL_law_1088 : decode cL_law 1088 = .ok (.iconst 1, 1) := by decide +kernel
theorem dL_law_1089 : decode cL_law 1089 = .ok (.iadd, 1) := by decide +kernel
theorem dL_law_1090 : decode cL_law 1090 = .ok (.iaload, 1) := by decide +kernel
theorem dL_law_1091 : decode cL_law 1091 = .ok (.invokevirtual 187, 3) := by decide +kernel
theorem dL_law_1094 : decode cL_law 1094 = .ok (.istore 6, 2) := by decide +kernel
theorem dL_law_1096 : decode cL_law 1096 = .ok (.aload_n 2, 1) := by decide +kernel
theorem dL_law_1097 : decode cL_law 1097 = .ok (.invokevirtual 111, 3) := by decide +kernel
theorem dL_law_1100 : decode cL_law 1100 = .ok (.iload 5, 2) := by decide +kernel
theorem dL_law_1102 : decode cL_law 1102 = .ok (.if_icmp .eq 5, 3) := by decide +kernel
theorem dL_law_1105 : decode cL_law 1105 = .ok (.iconst 0, 1) := by decide +kernel
theorem dL_law_1106 : decode cL_law 1106 = .ok (.ireturn, 1) := by decide +kernel
theorem dL_law_1107 : decode cL_law 1107 = .ok (.iload 5, 2) := by decide +kernel
theorem dL_law_1109 : decode cL_law 1109 = .ok (.ifCond .ne 15, 3) := by decide +kernel
theorem dL_law_1112 : decode cL_law 1112 = .ok (.aload_n 3, 1) := by decide +kernel
theorem dL_law_1113 : decode cL_law 1113 = .ok (.iconst 0, 1) := by decide +kernel
theorem dL_law_1114 : decode cL_law 1114 = .ok (.laload, 1) := by decide +kernel
theorem dL_law_1115 : decode cL_law 1115 = .ok (.iload 6, 2) := by decide +kernel
theorem dL_law_1117 : decode cL_law 1117 = .ok (.i2l, 1) := by decide +kernel
theorem dL_law_1118 : decode cL_law 1118 = .ok (.lcmp, 1) := by decide +kernel
theorem dL_law_1119 : decode cL_law 1119 = .ok (.ifCond .eq 5, 3) := by decide +kernel
theorem dL_law_1122 : decode cL_law 1122 = .ok (.iconst 0, 1) := by decide +kernel
theorem dL_law_1123 : decode cL_law 1123 = .ok (.ireturn, 1) := by decide +kernel
theorem dL_law_1124 : decode cL_law 1124 = .ok (.goto 938, 3) := by decide +kernel
theorem dL_law_1127 : decode cL_law 1127 = .ok (.aload_n 1, 1) := by decide +kernel
theorem dL_law_1128 : decode cL_law 1128 = .ok (.aload_n 0, 1) := by decide +kernel
theorem dL_law_1129 : decode cL_law 1129 = .ok (.iload 4, 2) := by decide +kernel
theorem dL_law_1131 : decode cL_law 1131 = .ok (.iconst 1, 1) := by decide +kernel
theorem dL_law_1132 : decode cL_law 1132 = .ok (.iadd, 1) := by decide +kernel
theorem dL_law_1133 : decode cL_law 1133 = .ok (.iaload, 1) := by decide +kernel
theorem dL_law_1134 : decode cL_law 1134 = .ok (.aload_n 0, 1) := by decide +kernel
theorem dL_law_1135 : decode cL_law 1135 = .ok (.iload 4, 2) := by decide +kernel
theorem dL_law_1137 : decode cL_law 1137 = .ok (.iconst 2, 1) := by decide +kernel
theorem dL_law_1138 : decode cL_law 1138 = .ok (.iadd, 1) := by decide +kernel
theorem dL_law_1139 : decode cL_law 1139 = .ok (.iaload, 1) := by decide +kernel
theorem dL_law_1140 : decode cL_law 1140 = .ok (.aload_n 3, 1) := by decide +kernel
theorem dL_law_1141 : decode cL_law 1141 = .ok (.invokestatic 188, 3) := by decide +kernel
theorem dL_law_1144 : decode cL_law 1144 = .ok (.istore 5, 2) := by decide +kernel
theorem dL_law_1146 : decode cL_law 1146 = .ok (.aload_n 2, 1) := by decide +kernel
theorem dL_law_1147 : decode cL_law 1147 = .ok (.aload_n 0, 1) := by decide +kernel
theorem dL_law_1148 : decode cL_law 1148 = .ok (.iload 4, 2) := by decide +kernel
theorem dL_law_1150 : decode cL_law 1150 = .ok (.iconst 1, 1) := by decide +kernel
theorem dL_law_1151 : decode cL_law 1151 = .ok (.iadd, 1) := by decide +kernel
theorem dL_law_1152 : decode cL_law 1152 = .ok (.iaload, 1) := by decide +kernel
theorem dL_law_1153 : decode cL_law 1153 = .ok (.aload_n 0, 1) := by decide +kernel
theorem dL_law_1154 : decode cL_law 1154 = .ok (.iload 4, 2) := by decide +kernel
theorem dL_law_1156 : decode cL_law 1156 = .ok (.iconst 2, 1) := by decide +kernel
theorem dL_law_1157 : decode cL_law 1157 = .ok (.iadd, 1) := by decide +kernel
theorem dL_law_1158 : decode cL_law 1158 = .ok (.iaload, 1) := by decide +kernel
theorem dL_law_1159 : decode cL_law 1159 = .ok (.invokevirtual 190, 3) := by decide +kernel
theorem dL_law_1162 : decode cL_law 1162 = .ok (.istore 6, 2) := by decide +kernel
theorem dL_law_1164 : decode cL_law 1164 = .ok (.aload_n 2, 1) := by decide +kernel
theorem dL_law_1165 : decode cL_law 1165 = .ok (.invokevirtual 111, 3) := by decide +kernel
theorem dL_law_1168 : decode cL_law 1168 = .ok (.iload 5, 2) := by decide +kernel
theorem dL_law_1170 : decode cL_law 1170 = .ok (.if_icmp .eq 5, 3) := by decide +kernel
theorem dL_law_1173 : decode cL_law 1173 = .ok (.iconst 0, 1) := by decide +kernel
theorem dL_law_1174 : decode cL_law 1174 = .ok (.ireturn, 1) := by decide +kernel
theorem dL_law_1175 : decode cL_law 1175 = .ok (.iload 5, 2) := by decide +kernel
theorem dL_law_1177 : decode cL_law 1177 = .ok (.ifCond .ne 22, 3) := by decide +kernel
theorem dL_law_1180 : decode cL_law 1180 = .ok (.aload_n 3, 1) := by decide +kernel
theorem dL_law_1181 : decode cL_law 1181 = .ok (.iconst 0, 1) := by decide +kernel
theorem dL_law_1182 : decode cL_law 1182 = .ok (.laload, 1) := by decide +kernel
theorem dL_law_1183 : decode cL_law 1183 = .ok (.iload 6, 2) := by decide +kernel
theorem dL_law_1185 : decode cL_law 1185 = .ok (.ifCond .eq 7, 3) := by decide +kernel
theorem dL_law_1188 : decode cL_law 1188 = .ok (.lconst 1, 1) := by decide +kernel
theorem dL_law_1189 : decode cL_law 1189 = .ok (.goto 4, 3) := by decide +kernel
theorem dL_law_1192 : decode cL_law 1192 = .ok (.lconst 0, 1) := by decide +kernel
theorem dL_law_1193 : decode cL_law 1193 = .ok (.lcmp, 1) := by decide +kernel
theorem dL_law_1194 : decode cL_law 1194 = .ok (.ifCond .eq 5, 3) := by decide +kernel
theorem dL_law_1197 : decode cL_law 1197 = .ok (.iconst 0, 1) := by decide +kernel
theorem dL_law_1198 : decode cL_law 1198 = .ok (.ireturn, 1) := by decide +kernel
theorem dL_law_1199 : decode cL_law 1199 = .ok (.goto 863, 3) := by decide +kernel
theorem dL_law_1202 : decode cL_law 1202 = .ok (.aload_n 1, 1) := by decide +kernel
theorem dL_law_1203 : decode cL_law 1203 = .ok (.aload_n 0, 1) := by decide +kernel
theorem dL_law_1204 : decode cL_law 1204 = .ok (.iload 4, 2) := by decide +kernel
theorem dL_law_1206 : decode cL_law 1206 = .ok (.iconst 1, 1) := by decide +kernel
theorem dL_law_1207 : decode cL_law 1207 = .ok (.iadd, 1) := by decide +kernel
theorem dL_law_1208 : decode cL_law 1208 = .ok (.iaload, 1) := by decide +kernel
theorem dL_law_1209 : decode cL_law 1209 = .ok (.aload_n 3, 1) := by decide +kernel
theorem dL_law_1210 : decode cL_law 1210 = .ok (.invokestatic 191, 3) := by decide +kernel
theorem dL_law_1213 : decode cL_law 1213 = .ok (.istore 5, 2) := by decide +kernel
theorem dL_law_1215 : decode cL_law 1215 = .ok (.aload_n 2, 1) := by decide +kernel
theorem dL_law_1216 : decode cL_law 1216 = .ok (.aload_n 0, 1) := by decide +kernel
theorem dL_law_1217 : decode cL_law 1217 = .ok (.iload 4, 2) := by decide +kernel
theorem dL_law_1219 : decode cL_law 1219 = .ok (.iconst 1, 1) := by decide +kernel
theorem dL_law_1220 : decode cL_law 1220 = .ok (.iadd, 1) := by decide +kernel
theorem dL_law_1221 : decode cL_law 1221 = .ok (.iaload, 1) := by decide +kernel
theorem dL_law_1222 : decode cL_law 1222 = .ok (.invokevirtual 193, 3) := by decide +kernel
theorem dL_law_1225 : decode cL_law 1225 = .ok (.istore 6, 2) := by decide +kernel
theorem dL_law_1227 : decode cL_law 1227 = .ok (.aload_n 2, 1) := by decide +kernel
theorem dL_law_1228 : decode cL_law 1228 = .ok (.invokevirtual 111, 3) := by decide +kernel
theorem dL_law_1231 : decode cL_law 1231 = .ok (.iload 5, 2) := by decide +kernel
theorem dL_law_1233 : decode cL_law 1233 = .ok (.if_icmp .eq 5, 3) := by decide +kernel
theorem dL_law_1236 : decode cL_law 1236 = .ok (.iconst 0, 1) := by decide +kernel
theorem dL_law_1237 : decode cL_law 1237 = .ok (.ireturn, 1) := by decide +kernel
theorem dL_law_1238 : decode cL_law 1238 = .ok (.iload 5, 2) := by decide +kernel
theorem dL_law_1240 : decode cL_law 1240 = .ok (.ifCond .ne 15, 3) := by decide +kernel
theorem dL_law_1243 : decode cL_law 1243 = .ok (.aload_n 3, 1) := by decide +kernel
theorem dL_law_1244 : decode cL_law 1244 = .ok (.iconst 0, 1) := by decide +kernel
theorem dL_law_1245 : decode cL_law 1245 = .ok (.laload, 1) := by decide +kernel
theorem dL_law_1246 : decode cL_law 1246 = .ok (.iload 6, 2) := by decide +kernel
theorem dL_law_1248 : decode cL_law 1248 = .ok (.i2l, 1) := by decide +kernel
theorem dL_law_1249 : decode cL_law 1249 = .ok (.lcmp, 1) := by decide +kernel
theorem dL_law_1250 : decode cL_law 1250 = .ok (.ifCond .eq 5, 3) := by decide +kernel
theorem dL_law_1253 : decode cL_law 1253 = .ok (.iconst 0, 1) := by decide +kernel
theorem dL_law_1254 : decode cL_law 1254 = .ok (.ireturn, 1) := by decide +kernel
theorem dL_law_1255 : decode cL_law 1255 = .ok (.goto 807, 3) := by decide +kernel
theorem dL_law_1258 : decode cL_law 1258 = .ok (.aload_n 1, 1) := by decide +kernel
theorem dL_law_1259 : decode cL_law 1259 = .ok (.aload_n 0, 1) := by decide +kernel
theorem dL_law_1260 : decode cL_law 1260 = .ok (.iload 4, 2) := by decide +kernel
theorem dL_law_1262 : decode cL_law 1262 = .ok (.iconst 1, 1) := by decide +kernel
theorem dL_law_1263 : decode cL_law 1263 = .ok (.iadd, 1) := by decide +kernel
theorem dL_law_1264 : decode cL_law 1264 = .ok (.iaload, 1) := by decide +kernel
theorem dL_law_1265 : decode cL_law 1265 = .ok (.aload_n 3, 1) := by decide +kernel
theorem dL_law_1266 : decode cL_law 1266 = .ok (.invokestatic 194, 3) := by decide +kernel
theorem dL_law_1269 : decode cL_law 1269 = .ok (.istore 5, 2) := by decide +kernel
theorem dL_law_1271 : decode cL_law 1271 = .ok (.aload_n 2, 1) := by decide +kernel
theorem dL_law_1272 : decode cL_law 1272 = .ok (.aload_n 0, 1) := by decide +kernel
theorem dL_law_1273 : decode cL_law 1273 = .ok (.iload 4, 2) := by decide +kernel
theorem dL_law_1275 : decode cL_law 1275 = .ok (.iconst 1, 1) := by decide +kernel
theorem dL_law_1276 : decode cL_law 1276 = .ok (.iadd, 1) := by decide +kernel
theorem dL_law_1277 : decode cL_law 1277 = .ok (.iaload, 1) := by decide +kernel
theorem dL_law_1278 : decode cL_law 1278 = .ok (.invokevirtual 196, 3) := by decide +kernel
theorem dL_law_1281 : decode cL_law 1281 = .ok (.istore 6, 2) := by decide +kernel
theorem dL_law_1283 : decode cL_law 1283 = .ok (.aload_n 2, 1) := by decide +kernel
theorem dL_law_1284 : decode cL_law 1284 = .ok (.invokevirtual 111, 3) := by decide +kernel
theorem dL_law_1287 : decode cL_law 1287 = .ok (.iload 5, 2) := by decide +kernel
theorem dL_law_1289 : decode cL_law 1289 = .ok (.if_icmp .eq 5, 3) := by decide +kernel
theorem dL_law_1292 : decode cL_law 1292 = .ok (.iconst 0, 1) := by decide +kernel
theorem dL_law_1293 : decode cL_law 1293 = .ok (.ireturn, 1) := by decide +kernel
theorem dL_law_1294 : decode cL_law 1294 = .ok (.iload 5, 2) := by decide +kernel
theorem dL_law_1296 : decode cL_law 1296 = .ok (.ifCond .ne 15, 3) := by decide +kernel
theorem dL_law_1299 : decode cL_law 1299 = .ok (.aload_n 3, 1) := by decide +kernel
theorem dL_law_1300 : decode cL_law 1300 = .ok (.iconst 0, 1) := by decide +kernel
theorem dL_law_1301 : decode cL_law 1301 = .ok (.laload, 1) := by decide +kernel
theorem dL_law_1302 : decode cL_law 1302 = .ok (.iload 6, 2) := by decide +kernel
theorem dL_law_1304 : decode cL_law 1304 = .ok (.i2l, 1) := by decide +kernel
theorem dL_law_1305 : decode cL_law 1305 = .ok (.lcmp, 1) := by decide +kernel
theorem dL_law_1306 : decode cL_law 1306 = .ok (.ifCond .eq 5, 3) := by decide +kernel
theorem dL_law_1309 : decode cL_law 1309 = .ok (.iconst 0, 1) := by decide +kernel
theorem dL_law_1310 : decode cL_law 1310 = .ok (.ireturn, 1) := by decide +kernel
theorem dL_law_1311 : decode cL_law 1311 = .ok (.goto 751, 3) := by decide +kernel
theorem dL_law_1314 : decode cL_law 1314 = .ok (.aload_n 1, 1) := by decide +kernel
theorem dL_law_1315 : decode cL_law 1315 = .ok (.aload_n 0, 1) := by decide +kernel
theorem dL_law_1316 : decode cL_law 1316 = .ok (.iload 4, 2) := by decide +kernel
theorem dL_law_1318 : decode cL_law 1318 = .ok (.iconst 1, 1) := by decide +kernel
theorem dL_law_1319 : decode cL_law 1319 = .ok (.iadd, 1) := by decide +kernel
theorem dL_law_1320 : decode cL_law 1320 = .ok (.iaload, 1) := by decide +kernel
theorem dL_law_1321 : decode cL_law 1321 = .ok (.aload_n 0, 1) := by decide +kernel
theorem dL_law_1322 : decode cL_law 1322 = .ok (.iload 4, 2) := by decide +kernel
theorem dL_law_1324 : decode cL_law 1324 = .ok (.iconst 2, 1) := by decide +kernel
theorem dL_law_1325 : decode cL_law 1325 = .ok (.iadd, 1) := by decide +kernel
theorem dL_law_1326 : decode cL_law 1326 = .ok (.iaload, 1) := by decide +kernel
theorem dL_law_1327 : decode cL_law 1327 = .ok (.aload_n 3, 1) := by decide +kernel
theorem dL_law_1328 : decode cL_law 1328 = .ok (.invokestatic 197, 3) := by decide +kernel
theorem dL_law_1331 : decode cL_law 1331 = .ok (.istore 5, 2) := by decide +kernel
theorem dL_law_1333 : decode cL_law 1333 = .ok (.aload_n 2, 1) := by decide +kernel
theorem dL_law_1334 : decode cL_law 1334 = .ok (.aload_n 0, 1) := by decide +kernel
theorem dL_law_1335 : decode cL_law 1335 = .ok (.iload 4, 2) := by decide +kernel
theorem dL_law_1337 : decode cL_law 1337 = .ok (.iconst 1, 1) := by decide +kernel
theorem dL_law_1338 : decode cL_law 1338 = .ok (.iadd, 1) := by decide +kernel
theorem dL_law_1339 : decode cL_law 1339 = .ok (.iaload, 1) := by decide +kernel
theorem dL_law_1340 : decode cL_law 1340 = .ok (.aload_n 0, 1) := by decide +kernel
theorem dL_law_1341 : decode cL_law 1341 = .ok (.iload 4, 2) := by decide +kernel
theorem dL_law_1343 : decode cL_law 1343 = .ok (.iconst 2, 1) := by decide +kernel
theorem dL_law_1344 : decode cL_law 1344 = .ok (.iadd, 1) := by decide +kernel
theorem dL_law_1345 : decode cL_law 1345 = .ok (.iaload, 1) := by decide +kernel
theorem dL_law_1346 : decode cL_law 1346 = .ok (.invokevirtual 199, 3) := by decide +kernel
theorem dL_law_1349 : decode cL_law 1349 = .ok (.istore 6, 2) := by decide +kernel
theorem dL_law_1351 : decode cL_law 1351 = .ok (.aload_n 2, 1) := by decide +kernel
theorem dL_law_1352 : decode cL_law 1352 = .ok (.invokevirtual 111, 3) := by decide +kernel
theorem dL_law_1355 : decode cL_law 1355 = .ok (.iload 5, 2) := by decide +kernel
theorem dL_law_1357 : decode cL_law 1357 = .ok (.if_icmp .eq 5, 3) := by decide +kernel
theorem dL_law_1360 : decode cL_law 1360 = .ok (.iconst 0, 1) := by decide +kernel
theorem dL_law_1361 : decode cL_law 1361 = .ok (.ireturn, 1) := by decide +kernel
theorem dL_law_1362 : decode cL_law 1362 = .ok (.iload 5, 2) := by decide +kernel
theorem dL_law_1364 : decode cL_law 1364 = .ok (.ifCond .ne 22, 3) := by decide +kernel
theorem dL_law_1367 : decode cL_law 1367 = .ok (.aload_n 3, 1) := by decide +kernel
theorem dL_law_1368 : decode cL_law 1368 = .ok (.iconst 0, 1) := by decide +kernel
theorem dL_law_1369 : decode cL_law 1369 = .ok (.laload, 1) := by decide +kernel
theorem dL_law_1370 : decode cL_law 1370 = .ok (.iload 6, 2) := by decide +kernel
theorem dL_law_1372 : decode cL_law 1372 = .ok (.ifCond .eq 7, 3) := by decide +kernel
theorem dL_law_1375 : decode cL_law 1375 = .ok (.lconst 1, 1) := by decide +kernel
theorem dL_law_1376 : decode cL_law 1376 = .ok (.goto 4, 3) := by decide +kernel
theorem dL_law_1379 : decode cL_law 1379 = .ok (.lconst 0, 1) := by decide +kernel
theorem dL_law_1380 : decode cL_law 1380 = .ok (.lcmp, 1) := by decide +kernel
theorem dL_law_1381 : decode cL_law 1381 = .ok (.ifCond .eq 5, 3) := by decide +kernel
theorem dL_law_1384 : decode cL_law 1384 = .ok (.iconst 0, 1) := by decide +kernel
theorem dL_law_1385 : decode cL_law 1385 = .ok (.ireturn, 1) := by decide +kernel
theorem dL_law_1386 : decode cL_law 1386 = .ok (.goto 676, 3) := by decide +kernel
theorem dL_law_1389 : decode cL_law 1389 = .ok (.aload_n 1, 1) := by decide +kernel
theorem dL_law_1390 : decode cL_law 1390 = .ok (.invokevirtual 200, 3) := by decide +kernel
theorem dL_law_1393 : decode cL_law 1393 = .ok (.aload_n 2, 1) := by decide +kernel
theorem dL_law_1394 : decode cL_law 1394 = .ok (.invokevirtual 203, 3) := by decide +kernel
theorem dL_law_1397 : decode cL_law 1397 = .ok (.if_icmp .eq 665, 3) := by decide +kernel
theorem dL_law_1400 : decode cL_law 1400 = .ok (.iconst 0, 1) := by decide +kernel
theorem dL_law_1401 : decode cL_law 1401 = .ok (.ireturn, 1) := by decide +kernel
theorem dL_law_1402 : decode cL_law 1402 = .ok (.aload_n 1, 1) := by decide +kernel
theorem dL_law_1403 : decode cL_law 1403 = .ok (.aload_n 0, 1) := by decide +kernel
theorem dL_law_1404 : decode cL_law 1404 = .ok (.iload 4, 2) := by decide +kernel
theorem dL_law_1406 : decode cL_law 1406 = .ok (.iconst 1, 1) := by decide +kernel
theorem dL_law_1407 : decode cL_law 1407 = .ok (.iadd, 1) := by decide +kernel
theorem dL_law_1408 : decode cL_law 1408 = .ok (.iaload, 1) := by decide +kernel
theorem dL_law_1409 : decode cL_law 1409 = .ok (.aload_n 3, 1) := by decide +kernel
theorem dL_law_1410 : decode cL_law 1410 = .ok (.invokestatic 204, 3) := by decide +kernel
theorem dL_law_1413 : decode cL_law 1413 = .ok (.istore 5, 2) := by decide +kernel
theorem dL_law_1415 : decode cL_law 1415 = .ok (.aload_n 2, 1) := by decide +kernel
theorem dL_law_1416 : decode cL_law 1416 = .ok (.aload_n 0, 1) := by decide +kernel
theorem dL_law_1417 : decode cL_law 1417 = .ok (.iload 4, 2) := by decide +kernel
theorem dL_law_1419 : decode cL_law 1419 = .ok (.iconst 1, 1) := by decide +kernel
theorem dL_law_1420 : decode cL_law 1420 = .ok (.iadd, 1) := by decide +kernel
theorem dL_law_1421 : decode cL_law 1421 = .ok (.iaload, 1) := by decide +kernel
theorem dL_law_1422 : decode cL_law 1422 = .ok (.invokevirtual 206, 3) := by decide +kernel
theorem dL_law_1425 : decode cL_law 1425 = .ok (.istore 6, 2) := by decide +kernel
theorem dL_law_1427 : decode cL_law 1427 = .ok (.aload_n 2, 1) := by decide +kernel
theorem dL_law_1428 : decode cL_law 1428 = .ok (.invokevirtual 111, 3) := by decide +kernel
theorem dL_law_1431 : decode cL_law 1431 = .ok (.iload 5, 2) := by decide +kernel
theorem dL_law_1433 : decode cL_law 1433 = .ok (.if_icmp .eq 5, 3) := by decide +kernel
theorem dL_law_1436 : decode cL_law 1436 = .ok (.iconst 0, 1) := by decide +kernel
theorem dL_law_1437 : decode cL_law 1437 = .ok (.ireturn, 1) := by decide +kernel
theorem dL_law_1438 : decode cL_law 1438 = .ok (.iload 5, 2) := by decide +kernel
theorem dL_law_1440 : decode cL_law 1440 = .ok (.ifCond .ne 15, 3) := by decide +kernel
theorem dL_law_1443 : decode cL_law 1443 = .ok (.aload_n 3, 1) := by decide +kernel
theorem dL_law_1444 : decode cL_law 1444 = .ok (.iconst 0, 1) := by decide +kernel
theorem dL_law_1445 : decode cL_law 1445 = .ok (.laload, 1) := by decide +kernel
theorem dL_law_1446 : decode cL_law 1446 = .ok (.iload 6, 2) := by decide +kernel
theorem dL_law_1448 : decode cL_law 1448 = .ok (.i2l, 1) := by decide +kernel
theorem dL_law_1449 : decode cL_law 1449 = .ok (.lcmp, 1) := by decide +kernel
theorem dL_law_1450 : decode cL_law 1450 = .ok (.ifCond .eq 5, 3) := by decide +kernel
theorem dL_law_1453 : decode cL_law 1453 = .ok (.iconst 0, 1) := by decide +kernel
theorem dL_law_1454 : decode cL_law 1454 = .ok (.ireturn, 1) := by decide +kernel
theorem dL_law_1455 : decode cL_law 1455 = .ok (.goto 607, 3) := by decide +kernel
theorem dL_law_1458 : decode cL_law 1458 = .ok (.aload_n 1, 1) := by decide +kernel
theorem dL_law_1459 : decode cL_law 1459 = .ok (.aload_n 0, 1) := by decide +kernel
theorem dL_law_1460 : decode cL_law 1460 = .ok (.iload 4, 2) := by decide +kernel
theorem dL_law_1462 : decode cL_law 1462 = .ok (.iconst 1, 1) := by decide +kernel
theorem dL_law_1463 : decode cL_law 1463 = .ok (.iadd, 1) := by decide +kernel
theorem dL_law_1464 : decode cL_law 1464 = .ok (.iaload, 1) := by decide +kernel
theorem dL_law_1465 : decode cL_law 1465 = .ok (.aload_n 0, 1) := by decide +kernel
theorem dL_law_1466 : decode cL_law 1466 = .ok (.iload 4, 2) := by decide +kernel
theorem dL_law_1468 : decode cL_law 1468 = .ok (.iconst 2, 1) := by decide +kernel
theorem dL_law_1469 : decode cL_law 1469 = .ok (.iadd, 1) := by decide +kernel
theorem dL_law_1470 : decode cL_law 1470 = .ok (.iaload, 1) := by decide +kernel
theorem dL_law_1471 : decode cL_law 1471 = .ok (.aload_n 0, 1) := by decide +kernel
theorem dL_law_1472 : decode cL_law 1472 = .ok (.iload 4, 2) := by decide +kernel
theorem dL_law_1474 : decode cL_law 1474 = .ok (.iconst 3, 1) := by decide +kernel
theorem dL_law_1475 : decode cL_law 1475 = .ok (.iadd, 1) := by decide +kernel
theorem dL_law_1476 : decode cL_law 1476 = .ok (.iaload, 1) := by decide +kernel
theorem dL_law_1477 : decode cL_law 1477 = .ok (.aload_n 3, 1) := by decide +kernel
theorem dL_law_1478 : decode cL_law 1478 = .ok (.invokestatic 207, 3) := by decide +kernel
theorem dL_law_1481 : decode cL_law 1481 = .ok (.istore 5, 2) := by decide +kernel
theorem dL_law_1483 : decode cL_law 1483 = .ok (.aload_n 2, 1) := by decide +kernel
theorem dL_law_1484 : decode cL_law 1484 = .ok (.aload_n 0, 1) := by decide +kernel
theorem dL_law_1485 : decode cL_law 1485 = .ok (.iload 4, 2) := by decide +kernel
theorem dL_law_1487 : decode cL_law 1487 = .ok (.iconst 1, 1) := by decide +kernel
theorem dL_law_1488 : decode cL_law 1488 = .ok (.iadd, 1) := by decide +kernel
theorem dL_law_1489 : decode cL_law 1489 = .ok (.iaload, 1) := by decide +kernel
theorem dL_law_1490 : decode cL_law 1490 = .ok (.aload_n 0, 1) := by decide +kernel
theorem dL_law_1491 : decode cL_law 1491 = .ok (.iload 4, 2) := by decide +kernel
theorem dL_law_1493 : decode cL_law 1493 = .ok (.iconst 2, 1) := by decide +kernel
theorem dL_law_1494 : decode cL_law 1494 = .ok (.iadd, 1) := by decide +kernel
theorem dL_law_1495 : decode cL_law 1495 = .ok (.iaload, 1) := by decide +kernel
theorem dL_law_1496 : decode cL_law 1496 = .ok (.aload_n 0, 1) := by decide +kernel
theorem dL_law_1497 : decode cL_law 1497 = .ok (.iload 4, 2) := by decide +kernel
theorem dL_law_1499 : decode cL_law 1499 = .ok (.iconst 3, 1) := by decide +kernel
theorem dL_law_1500 : decode cL_law 1500 = .ok (.iadd, 1) := by decide +kernel
theorem dL_law_1501 : decode cL_law 1501 = .ok (.iaload, 1) := by decide +kernel
theorem dL_law_1502 : decode cL_law 1502 = .ok (.invokevirtual 209, 3) := by decide +kernel
theorem dL_law_1505 : decode cL_law 1505 = .ok (.istore 6, 2) := by decide +kernel
theorem dL_law_1507 : decode cL_law 1507 = .ok (.aload_n 2, 1) := by decide +kernel
theorem dL_law_1508 : decode cL_law 1508 = .ok (.invokevirtual 111, 3) := by decide +kernel
theorem dL_law_1511 : decode cL_law 1511 = .ok (.iload 5, 2) := by decide +kernel
theorem dL_law_1513 : decode cL_law 1513 = .ok (.if_icmp .eq 5, 3) := by decide +kernel
theorem dL_law_1516 : decode cL_law 1516 = .ok (.iconst 0, 1) := by decide +kernel
theorem dL_law_1517 : decode cL_law 1517 = .ok (.ireturn, 1) := by decide +kernel
theorem dL_law_1518 : decode cL_law 1518 = .ok (.iload 5, 2) := by decide +kernel
theorem dL_law_1520 : decode cL_law 1520 = .ok (.ifCond .ne 15, 3) := by decide +kernel
theorem dL_law_1523 : decode cL_law 1523 = .ok (.aload_n 3, 1) := by decide +kernel
theorem dL_law_1524 : decode cL_law 1524 = .ok (.iconst 0, 1) := by decide +kernel
theorem dL_law_1525 : decode cL_law 1525 = .ok (.laload, 1) := by decide +kernel
theorem dL_law_1526 : decode cL_law 1526 = .ok (.iload 6, 2) := by decide +kernel
theorem dL_law_1528 : decode cL_law 1528 = .ok (.i2l, 1) := by decide +kernel
theorem dL_law_1529 : decode cL_law 1529 = .ok (.lcmp, 1) := by decide +kernel
theorem dL_law_1530 : decode cL_law 1530 = .ok (.ifCond .eq 5, 3) := by decide +kernel
theorem dL_law_1533 : decode cL_law 1533 = .ok (.iconst 0, 1) := by decide +kernel
theorem dL_law_1534 : decode cL_law 1534 = .ok (.ireturn, 1) := by decide +kernel
theorem dL_law_1535 : decode cL_law 1535 = .ok (.goto 527, 3) := by decide +kernel
theorem dL_law_1538 : decode cL_law 1538 = .ok (.aload_n 1, 1) := by decide +kernel
theorem dL_law_1539 : decode cL_law 1539 = .ok (.aload_n 0, 1) := by decide +kernel
theorem dL_law_1540 : decode cL_law 1540 = .ok (.iload 4, 2) := by decide +kernel
theorem dL_law_1542 : decode cL_law 1542 = .ok (.iconst 1, 1) := by decide +kernel
theorem dL_law_1543 : decode cL_law 1543 = .ok (.iadd, 1) := by decide +kernel
theorem dL_law_1544 : decode cL_law 1544 = .ok (.iaload, 1) := by decide +kernel
theorem dL_law_1545 : decode cL_law 1545 = .ok (.aload_n 0, 1) := by decide +kernel
theorem dL_law_1546 : decode cL_law 1546 = .ok (.iload 4, 2) := by decide +kernel
theorem dL_law_1548 : decode cL_law 1548 = .ok (.iconst 2, 1) := by decide +kernel
theorem dL_law_1549 : decode cL_law 1549 = .ok (.iadd, 1) := by decide +kernel
theorem dL_law_1550 : decode cL_law 1550 = .ok (.iaload, 1) := by decide +kernel
theorem dL_law_1551 : decode cL_law 1551 = .ok (.aload_n 0, 1) := by decide +kernel
theorem dL_law_1552 : decode cL_law 1552 = .ok (.iload 4, 2) := by decide +kernel
theorem dL_law_1554 : decode cL_law 1554 = .ok (.iconst 3, 1) := by decide +kernel
theorem dL_law_1555 : decode cL_law 1555 = .ok (.iadd, 1) := by decide +kernel
theorem dL_law_1556 : decode cL_law 1556 = .ok (.iaload, 1) := by decide +kernel
theorem dL_law_1557 : decode cL_law 1557 = .ok (.aload_n 3, 1) := by decide +kernel
theorem dL_law_1558 : decode cL_law 1558 = .ok (.invokestatic 210, 3) := by decide +kernel
theorem dL_law_1561 : decode cL_law 1561 = .ok (.istore 5, 2) := by decide +kernel
theorem dL_law_1563 : decode cL_law 1563 = .ok (.aload_n 2, 1) := by decide +kernel
theorem dL_law_1564 : decode cL_law 1564 = .ok (.aload_n 0, 1) := by decide +kernel
theorem dL_law_1565 : decode cL_law 1565 = .ok (.iload 4, 2) := by decide +kernel
theorem dL_law_1567 : decode cL_law 1567 = .ok (.iconst 1, 1) := by decide +kernel
theorem dL_law_1568 : decode cL_law 1568 = .ok (.iadd, 1) := by decide +kernel
theorem dL_law_1569 : decode cL_law 1569 = .ok (.iaload, 1) := by decide +kernel
theorem dL_law_1570 : decode cL_law 1570 = .ok (.aload_n 0, 1) := by decide +kernel
theorem dL_law_1571 : decode cL_law 1571 = .ok (.iload 4, 2) := by decide +kernel
theorem dL_law_1573 : decode cL_law 1573 = .ok (.iconst 2, 1) := by decide +kernel
theorem dL_law_1574 : decode cL_law 1574 = .ok (.iadd, 1) := by decide +kernel
theorem dL_law_1575 : decode cL_law 1575 = .ok (.iaload, 1) := by decide +kernel
theorem dL_law_1576 : decode cL_law 1576 = .ok (.aload_n 0, 1) := by decide +kernel
theorem dL_law_1577 : decode cL_law 1577 = .ok (.iload 4, 2) := by decide +kernel
theorem dL_law_1579 : decode cL_law 1579 = .ok (.iconst 3, 1) := by decide +kernel
theorem dL_law_1580 : decode cL_law 1580 = .ok (.iadd, 1) := by decide +kernel
theorem dL_law_1581 : decode cL_law 1581 = .ok (.iaload, 1) := by decide +kernel
theorem dL_law_1582 : decode cL_law 1582 = .ok (.invokevirtual 212, 3) := by decide +kernel
theorem dL_law_1585 : decode cL_law 1585 = .ok (.istore 6, 2) := by decide +kernel
theorem dL_law_1587 : decode cL_law 1587 = .ok (.aload_n 2, 1) := by decide +kernel
theorem dL_law_1588 : decode cL_law 1588 = .ok (.invokevirtual 111, 3) := by decide +kernel
theorem dL_law_1591 : decode cL_law 1591 = .ok (.iload 5, 2) := by decide +kernel
theorem dL_law_1593 : decode cL_law 1593 = .ok (.if_icmp .eq 5, 3) := by decide +kernel
theorem dL_law_1596 : decode cL_law 1596 = .ok (.iconst 0, 1) := by decide +kernel
theorem dL_law_1597 : decode cL_law 1597 = .ok (.ireturn, 1) := by decide +kernel
theorem dL_law_1598 : decode cL_law 1598 = .ok (.iload 5, 2) := by decide +kernel
theorem dL_law_1600 : decode cL_law 1600 = .ok (.ifCond .ne 22, 3) := by decide +kernel
theorem dL_law_1603 : decode cL_law 1603 = .ok (.aload_n 3, 1) := by decide +kernel
theorem dL_law_1604 : decode cL_law 1604 = .ok (.iconst 0, 1) := by decide +kernel
theorem dL_law_1605 : decode cL_law 1605 = .ok (.laload, 1) := by decide +kernel
theorem dL_law_1606 : decode cL_law 1606 = .ok (.iload 6, 2) := by decide +kernel
theorem dL_law_1608 : decode cL_law 1608 = .ok (.ifCond .eq 7, 3) := by decide +kernel
theorem dL_law_1611 : decode cL_law 1611 = .ok (.lconst 1, 1) := by decide +kernel
theorem dL_law_1612 : decode cL_law 1612 = .ok (.goto 4, 3) := by decide +kernel
theorem dL_law_1615 : decode cL_law 1615 = .ok (.lconst 0, 1) := by decide +kernel
theorem dL_law_1616 : decode cL_law 1616 = .ok (.lcmp, 1) := by decide +kernel
theorem dL_law_1617 : decode cL_law 1617 = .ok (.ifCond .eq 5, 3) := by decide +kernel
theorem dL_law_1620 : decode cL_law 1620 = .ok (.iconst 0, 1) := by decide +kernel
theorem dL_law_1621 : decode cL_law 1621 = .ok (.ireturn, 1) := by decide +kernel
theorem dL_law_1622 : decode cL_law 1622 = .ok (.goto 440, 3) := by decide +kernel
theorem dL_law_1625 : decode cL_law 1625 = .ok (.aload_n 1, 1) := by decide +kernel
theorem dL_law_1626 : decode cL_law 1626 = .ok (.aload_n 0, 1) := by decide +kernel
theorem dL_law_1627 : decode cL_law 1627 = .ok (.iload 4, 2) := by decide +kernel
theorem dL_law_1629 : decode cL_law 1629 = .ok (.iconst 1, 1) := by decide +kernel
theorem dL_law_1630 : decode cL_law 1630 = .ok (.iadd, 1) := by decide +kernel
theorem dL_law_1631 : decode cL_law 1631 = .ok (.iaload, 1) := by decide +kernel
theorem dL_law_1632 : decode cL_law 1632 = .ok (.aload_n 3, 1) := by decide +kernel
theorem dL_law_1633 : decode cL_law 1633 = .ok (.invokestatic 213, 3) := by decide +kernel
theorem dL_law_1636 : decode cL_law 1636 = .ok (.istore 5, 2) := by decide +kernel
theorem dL_law_1638 : decode cL_law 1638 = .ok (.aload_n 2, 1) := by decide +kernel
theorem dL_law_1639 : decode cL_law 1639 = .ok (.aload_n 0, 1) := by decide +kernel
theorem dL_law_1640 : decode cL_law 1640 = .ok (.iload 4, 2) := by decide +kernel
theorem dL_law_1642 : decode cL_law 1642 = .ok (.iconst 1, 1) := by decide +kernel
theorem dL_law_1643 : decode cL_law 1643 = .ok (.iadd, 1) := by decide +kernel
theorem dL_law_1644 : decode cL_law 1644 = .ok (.iaload, 1) := by decide +kernel
theorem dL_law_1645 : decode cL_law 1645 = .ok (.invokevirtual 215, 3) := by decide +kernel
theorem dL_law_1648 : decode cL_law 1648 = .ok (.istore 6, 2) := by decide +kernel
theorem dL_law_1650 : decode cL_law 1650 = .ok (.aload_n 2, 1) := by decide +kernel
theorem dL_law_1651 : decode cL_law 1651 = .ok (.invokevirtual 111, 3) := by decide +kernel
theorem dL_law_1654 : decode cL_law 1654 = .ok (.iload 5, 2) := by decide +kernel
theorem dL_law_1656 : decode cL_law 1656 = .ok (.if_icmp .eq 5, 3) := by decide +kernel
theorem dL_law_1659 : decode cL_law 1659 = .ok (.iconst 0, 1) := by decide +kernel
theorem dL_law_1660 : decode cL_law 1660 = .ok (.ireturn, 1) := by decide +kernel
theorem dL_law_1661 : decode cL_law 1661 = .ok (.iload 5, 2) := by decide +kernel
theorem dL_law_1663 : decode cL_law 1663 = .ok (.ifCond .ne 15, 3) := by decide +kernel
theorem dL_law_1666 : decode cL_law 1666 = .ok (.aload_n 3, 1) := by decide +kernel
theorem dL_law_1667 : decode cL_law 1667 = .ok (.iconst 0, 1) := by decide +kernel
theorem dL_law_1668 : decode cL_law 1668 = .ok (.laload, 1) := by decide +kernel
theorem dL_law_1669 : decode cL_law 1669 = .ok (.iload 6, 2) := by decide +kernel
theorem dL_law_1671 : decode cL_law 1671 = .ok (.i2l, 1) := by decide +kernel
theorem dL_law_1672 : decode cL_law 1672 = .ok (.lcmp, 1) := by decide +kernel
theorem dL_law_1673 : decode cL_law 1673 = .ok (.ifCond .eq 5, 3) := by decide +kernel
theorem dL_law_1676 : decode cL_law 1676 = .ok (.iconst 0, 1) := by decide +kernel
theorem dL_law_1677 : decode cL_law 1677 = .ok (.ireturn, 1) := by decide +kernel
theorem dL_law_1678 : decode cL_law 1678 = .ok (.goto 384, 3) := by decide +kernel
theorem dL_law_1681 : decode cL_law 1681 = .ok (.aload_n 1, 1) := by decide +kernel
theorem dL_law_1682 : decode cL_law 1682 = .ok (.aload_n 0, 1) := by decide +kernel
theorem dL_law_1683 : decode cL_law 1683 = .ok (.iload 4, 2) := by decide +kernel
theorem dL_law_1685 : decode cL_law 1685 = .ok (.iconst 1, 1) := by decide +kernel
theorem dL_law_1686 : decode cL_law 1686 = .ok (.iadd, 1) := by decide +kernel
theorem dL_law_1687 : decode cL_law 1687 = .ok (.iaload, 1) := by decide +kernel
theorem dL_law_1688 : decode cL_law 1688 = .ok (.aload_n 0, 1) := by decide +kernel
theorem dL_law_1689 : decode cL_law 1689 = .ok (.iload 4, 2) := by decide +kernel
theorem dL_law_1691 : decode cL_law 1691 = .ok (.iconst 2, 1) := by decide +kernel
theorem dL_law_1692 : decode cL_law 1692 = .ok (.iadd, 1) := by decide +kernel
theorem dL_law_1693 : decode cL_law 1693 = .ok (.iaload, 1) := by decide +kernel
theorem dL_law_1694 : decode cL_law 1694 = .ok (.aload_n 3, 1) := by decide +kernel
theorem dL_law_1695 : decode cL_law 1695 = .ok (.invokestatic 216, 3) := by decide +kernel
theorem dL_law_1698 : decode cL_law 1698 = .ok (.istore 5, 2) := by decide +kernel
theorem dL_law_1700 : decode cL_law 1700 = .ok (.aload_n 2, 1) := by decide +kernel
theorem dL_law_1701 : decode cL_law 1701 = .ok (.aload_n 0, 1) := by decide +kernel
theorem dL_law_1702 : decode cL_law 1702 = .ok (.iload 4, 2) := by decide +kernel
theorem dL_law_1704 : decode cL_law 1704 = .ok (.iconst 1, 1) := by decide +kernel
theorem dL_law_1705 : decode cL_law 1705 = .ok (.iadd, 1) := by decide +kernel
theorem dL_law_1706 : decode cL_law 1706 = .ok (.iaload, 1) := by decide +kernel
theorem dL_law_1707 : decode cL_law 1707 = .ok (.aload_n 0, 1) := by decide +kernel
theorem dL_law_1708 : decode cL_law 1708 = .ok (.iload 4, 2) := by decide +kernel
theorem dL_law_1710 : decode cL_law 1710 = .ok (.iconst 2, 1) := by decide +kernel
theorem dL_law_1711 : decode cL_law 1711 = .ok (.iadd, 1) := by decide +kernel
theorem dL_law_1712 : decode cL_law 1712 = .ok (.iaload, 1) := by decide +kernel
theorem dL_law_1713 : decode cL_law 1713 = .ok (.invokevirtual 218, 3) := by decide +kernel
theorem dL_law_1716 : decode cL_law 1716 = .ok (.istore 6, 2) := by decide +kernel
theorem dL_law_1718 : decode cL_law 1718 = .ok (.aload_n 2, 1) := by decide +kernel
theorem dL_law_1719 : decode cL_law 1719 = .ok (.invokevirtual 111, 3) := by decide +kernel
theorem dL_law_1722 : decode cL_law 1722 = .ok (.iload 5, 2) := by decide +kernel
theorem dL_law_1724 : decode cL_law 1724 = .ok (.if_icmp .eq 5, 3) := by decide +kernel
theorem dL_law_1727 : decode cL_law 1727 = .ok (.iconst 0, 1) := by decide +kernel
theorem dL_law_1728 : decode cL_law 1728 = .ok (.ireturn, 1) := by decide +kernel
theorem dL_law_1729 : decode cL_law 1729 = .ok (.iload 5, 2) := by decide +kernel
theorem dL_law_1731 : decode cL_law 1731 = .ok (.ifCond .ne 15, 3) := by decide +kernel
theorem dL_law_1734 : decode cL_law 1734 = .ok (.aload_n 3, 1) := by decide +kernel
theorem dL_law_1735 : decode cL_law 1735 = .ok (.iconst 0, 1) := by decide +kernel
theorem dL_law_1736 : decode cL_law 1736 = .ok (.laload, 1) := by decide +kernel
theorem dL_law_1737 : decode cL_law 1737 = .ok (.iload 6, 2) := by decide +kernel
theorem dL_law_1739 : decode cL_law 1739 = .ok (.i2l, 1) := by decide +kernel
theorem dL_law_1740 : decode cL_law 1740 = .ok (.lcmp, 1) := by decide +kernel
theorem dL_law_1741 : decode cL_law 1741 = .ok (.ifCond .eq 5, 3) := by decide +kernel
theorem dL_law_1744 : decode cL_law 1744 = .ok (.iconst 0, 1) := by decide +kernel
theorem dL_law_1745 : decode cL_law 1745 = .ok (.ireturn, 1) := by decide +kernel
theorem dL_law_1746 : decode cL_law 1746 = .ok (.goto 316, 3) := by decide +kernel
theorem dL_law_1749 : decode cL_law 1749 = .ok (.aload_n 1, 1) := by decide +kernel
theorem dL_law_1750 : decode cL_law 1750 = .ok (.aload_n 3, 1) := by decide +kernel
theorem dL_law_1751 : decode cL_law 1751 = .ok (.invokestatic 219, 3) := by decide +kernel
theorem dL_law_1754 : decode cL_law 1754 = .ok (.istore 5, 2) := by decide +kernel
theorem dL_law_1756 : decode cL_law 1756 = .ok (.aload_n 2, 1) := by decide +kernel
theorem dL_law_1757 : decode cL_law 1757 = .ok (.invokevirtual 221, 3) := by decide +kernel
theorem dL_law_1760 : decode cL_law 1760 = .ok (.istore 6, 2) := by decide +kernel
theorem dL_law_1762 : decode cL_law 1762 = .ok (.aload_n 2, 1) := by decide +kernel
theorem dL_law_1763 : decode cL_law 1763 = .ok (.invokevirtual 111, 3) := by decide +kernel
theorem dL_law_1766 : decode cL_law 1766 = .ok (.iload 5, 2) := by decide +kernel
theorem dL_law_1768 : decode cL_law 1768 = .ok (.if_icmp .eq 5, 3) := by decide +kernel
theorem dL_law_1771 : decode cL_law 1771 = .ok (.iconst 0, 1) := by decide +kernel
theorem dL_law_1772 : decode cL_law 1772 = .ok (.ireturn, 1) := by decide +kernel
theorem dL_law_1773 : decode cL_law 1773 = .ok (.iload 5, 2) := by decide +kernel
theorem dL_law_1775 : decode cL_law 1775 = .ok (.ifCond .ne 15, 3) := by decide +kernel
theorem dL_law_1778 : decode cL_law 1778 = .ok (.aload_n 3, 1) := by decide +kernel
theorem dL_law_1779 : decode cL_law 1779 = .ok (.iconst 0, 1) := by decide +kernel
theorem dL_law_1780 : decode cL_law 1780 = .ok (.laload, 1) := by decide +kernel
theorem dL_law_1781 : decode cL_law 1781 = .ok (.iload 6, 2) := by decide +kernel
theorem dL_law_1783 : decode cL_law 1783 = .ok (.i2l, 1) := by decide +kernel
theorem dL_law_1784 : decode cL_law 1784 = .ok (.lcmp, 1) := by decide +kernel
theorem dL_law_1785 : decode cL_law 1785 = .ok (.ifCond .eq 5, 3) := by decide +kernel
theorem dL_law_1788 : decode cL_law 1788 = .ok (.iconst 0, 1) := by decide +kernel
theorem dL_law_1789 : decode cL_law 1789 = .ok (.ireturn, 1) := by decide +kernel
theorem dL_law_1790 : decode cL_law 1790 = .ok (.goto 272, 3) := by decide +kernel
theorem dL_law_1793 : decode cL_law 1793 = .ok (.aload_n 1, 1) := by decide +kernel
theorem dL_law_1794 : decode cL_law 1794 = .ok (.aload_n 3, 1) := by decide +kernel
theorem dL_law_1795 : decode cL_law 1795 = .ok (.invokestatic 222, 3) := by decide +kernel
theorem dL_law_1798 : decode cL_law 1798 = .ok (.istore 5, 2) := by decide +kernel
theorem dL_law_1800 : decode cL_law 1800 = .ok (.aload_n 2, 1) := by decide +kernel
theorem dL_law_1801 : decode cL_law 1801 = .ok (.invokevirtual 224, 3) := by decide +kernel
theorem dL_law_1804 : decode cL_law 1804 = .ok (.istore 6, 2) := by decide +kernel
theorem dL_law_1806 : decode cL_law 1806 = .ok (.aload_n 2, 1) := by decide +kernel
theorem dL_law_1807 : decode cL_law 1807 = .ok (.invokevirtual 111, 3) := by decide +kernel
theorem dL_law_1810 : decode cL_law 1810 = .ok (.iload 5, 2) := by decide +kernel
theorem dL_law_1812 : decode cL_law 1812 = .ok (.if_icmp .eq 5, 3) := by decide +kernel
theorem dL_law_1815 : decode cL_law 1815 = .ok (.iconst 0, 1) := by decide +kernel
theorem dL_law_1816 : decode cL_law 1816 = .ok (.ireturn, 1) := by decide +kernel
theorem dL_law_1817 : decode cL_law 1817 = .ok (.iload 5, 2) := by decide +kernel
theorem dL_law_1819 : decode cL_law 1819 = .ok (.ifCond .ne 15, 3) := by decide +kernel
theorem dL_law_1822 : decode cL_law 1822 = .ok (.aload_n 3, 1) := by decide +kernel
theorem dL_law_1823 : decode cL_law 1823 = .ok (.iconst 0, 1) := by decide +kernel
theorem dL_law_1824 : decode cL_law 1824 = .ok (.laload, 1) := by decide +kernel
theorem dL_law_1825 : decode cL_law 1825 = .ok (.iload 6, 2) := by decide +kernel
theorem dL_law_1827 : decode cL_law 1827 = .ok (.i2l, 1) := by decide +kernel
theorem dL_law_1828 : decode cL_law 1828 = .ok (.lcmp, 1) := by decide +kernel
theorem dL_law_1829 : decode cL_law 1829 = .ok (.ifCond .eq 5, 3) := by decide +kernel
theorem dL_law_1832 : decode cL_law 1832 = .ok (.iconst 0, 1) := by decide +kernel
theorem dL_law_1833 : decode cL_law 1833 = .ok (.ireturn, 1) := by decide +kernel
theorem dL_law_1834 : decode cL_law 1834 = .ok (.goto 228, 3) := by decide +kernel
theorem dL_law_1837 : decode cL_law 1837 = .ok (.aload_n 1, 1) := by decide +kernel
theorem dL_law_1838 : decode cL_law 1838 = .ok (.aload_n 0, 1) := by decide +kernel
theorem dL_law_1839 : decode cL_law 1839 = .ok (.iload 4, 2) := by decide +kernel
theorem dL_law_1841 : decode cL_law 1841 = .ok (.iconst 1, 1) := by decide +kernel
theorem dL_law_1842 : decode cL_law 1842 = .ok (.iadd, 1) := by decide +kernel
theorem dL_law_1843 : decode cL_law 1843 = .ok (.iaload, 1) := by decide +kernel
theorem dL_law_1844 : decode cL_law 1844 = .ok (.aload_n 3, 1) := by decide +kernel
theorem dL_law_1845 : decode cL_law 1845 = .ok (.invokestatic 225, 3) := by decide +kernel
theorem dL_law_1848 : decode cL_law 1848 = .ok (.istore 5, 2) := by decide +kernel
theorem dL_law_1850 : decode cL_law 1850 = .ok (.aload_n 2, 1) := by decide +kernel
theorem dL_law_1851 : decode cL_law 1851 = .ok (.aload_n 0, 1) := by decide +kernel
theorem dL_law_1852 : decode cL_law 1852 = .ok (.iload 4, 2) := by decide +kernel
theorem dL_law_1854 : decode cL_law 1854 = .ok (.iconst 1, 1) := by decide +kernel
theorem dL_law_1855 : decode cL_law 1855 = .ok (.iadd, 1) := by decide +kernel
theorem dL_law_1856 : decode cL_law 1856 = .ok (.iaload, 1) := by decide +kernel
theorem dL_law_1857 : decode cL_law 1857 = .ok (.invokevirtual 227, 3) := by decide +kernel
theorem dL_law_1860 : decode cL_law 1860 = .ok (.istore 6, 2) := by decide +kernel
theorem dL_law_1862 : decode cL_law 1862 = .ok (.aload_n 2, 1) := by decide +kernel
theorem dL_law_1863 : decode cL_law 1863 = .ok (.invokevirtual 111, 3) := by decide +kernel
theorem dL_law_1866 : decode cL_law 1866 = .ok (.iload 5, 2) := by decide +kernel
theorem dL_law_1868 : decode cL_law 1868 = .ok (.if_icmp .eq 5, 3) := by decide +kernel
theorem dL_law_1871 : decode cL_law 1871 = .ok (.iconst 0, 1) := by decide +kernel
theorem dL_law_1872 : decode cL_law 1872 = .ok (.ireturn, 1) := by decide +kernel
theorem dL_law_1873 : decode cL_law 1873 = .ok (.iload 5, 2) := by decide +kernel
theorem dL_law_1875 : decode cL_law 1875 = .ok (.ifCond .ne 15, 3) := by decide +kernel
theorem dL_law_1878 : decode cL_law 1878 = .ok (.aload_n 3, 1) := by decide +kernel
theorem dL_law_1879 : decode cL_law 1879 = .ok (.iconst 0, 1) := by decide +kernel
theorem dL_law_1880 : decode cL_law 1880 = .ok (.laload, 1) := by decide +kernel
theorem dL_law_1881 : decode cL_law 1881 = .ok (.iload 6, 2) := by decide +kernel
theorem dL_law_1883 : decode cL_law 1883 = .ok (.i2l, 1) := by decide +kernel
theorem dL_law_1884 : decode cL_law 1884 = .ok (.lcmp, 1) := by decide +kernel
theorem dL_law_1885 : decode cL_law 1885 = .ok (.ifCond .eq 5, 3) := by decide +kernel
theorem dL_law_1888 : decode cL_law 1888 = .ok (.iconst 0, 1) := by decide +kernel
theorem dL_law_1889 : decode cL_law 1889 = .ok (.ireturn, 1) := by decide +kernel
theorem dL_law_1890 : decode cL_law 1890 = .ok (.goto 172, 3) := by decide +kernel
theorem dL_law_1893 : decode cL_law 1893 = .ok (.aload_n 1, 1) := by decide +kernel
theorem dL_law_1894 : decode cL_law 1894 = .ok (.invokevirtual 228, 3) := by decide +kernel
theorem dL_law_1897 : decode cL_law 1897 = .ok (.aload_n 2, 1) := by decide +kernel
theorem dL_law_1898 : decode cL_law 1898 = .ok (.invokevirtual 231, 3) := by decide +kernel
theorem dL_law_1901 : decode cL_law 1901 = .ok (.if_icmp .eq 161, 3) := by decide +kernel
theorem dL_law_1904 : decode cL_law 1904 = .ok (.iconst 0, 1) := by decide +kernel
theorem dL_law_1905 : decode cL_law 1905 = .ok (.ireturn, 1) := by decide +kernel
theorem dL_law_1906 : decode cL_law 1906 = .ok (.aload_n 1, 1) := by decide +kernel
theorem dL_law_1907 : decode cL_law 1907 = .ok (.invokevirtual 232, 3) := by decide +kernel
theorem dL_law_1910 : decode cL_law 1910 = .ok (.aload_n 2, 1) := by decide +kernel
theorem dL_law_1911 : decode cL_law 1911 = .ok (.invokevirtual 235, 3) := by decide +kernel
theorem dL_law_1914 : decode cL_law 1914 = .ok (.if_icmp .eq 148, 3) := by decide +kernel
theorem dL_law_1917 : decode cL_law 1917 = .ok (.iconst 0, 1) := by decide +kernel
theorem dL_law_1918 : decode cL_law 1918 = .ok (.ireturn, 1) := by decide +kernel
theorem dL_law_1919 : decode cL_law 1919 = .ok (.aload_n 1, 1) := by decide +kernel
theorem dL_law_1920 : decode cL_law 1920 = .ok (.aload_n 3, 1) := by decide +kernel
theorem dL_law_1921 : decode cL_law 1921 = .ok (.invokestatic 236, 3) := by decide +kernel
theorem dL_law_1924 : decode cL_law 1924 = .ok (.istore 5, 2) := by decide +kernel
theorem dL_law_1926 : decode cL_law 1926 = .ok (.aload_n 2, 1) := by decide +kernel
theorem dL_law_1927 : decode cL_law 1927 = .ok (.invokevirtual 238, 3) := by decide +kernel
theorem dL_law_1930 : decode cL_law 1930 = .ok (.istore 6, 2) := by decide +kernel
theorem dL_law_1932 : decode cL_law 1932 = .ok (.aload_n 2, 1) := by decide +kernel
theorem dL_law_1933 : decode cL_law 1933 = .ok (.invokevirtual 111, 3) := by decide +kernel
theorem dL_law_1936 : decode cL_law 1936 = .ok (.iload 5, 2) := by decide +kernel
theorem dL_law_1938 : decode cL_law 1938 = .ok (.if_icmp .eq 5, 3) := by decide +kernel
theorem dL_law_1941 : decode cL_law 1941 = .ok (.iconst 0, 1) := by decide +kernel
theorem dL_law_1942 : decode cL_law 1942 = .ok (.ireturn, 1) := by decide +kernel
theorem dL_law_1943 : decode cL_law 1943 = .ok (.iload 5, 2) := by decide +kernel
theorem dL_law_1945 : decode cL_law 1945 = .ok (.ifCond .ne 15, 3) := by decide +kernel
theorem dL_law_1948 : decode cL_law 1948 = .ok (.aload_n 3, 1) := by decide +kernel
theorem dL_law_1949 : decode cL_law 1949 = .ok (.iconst 0, 1) := by decide +kernel
theorem dL_law_1950 : decode cL_law 1950 = .ok (.laload, 1) := by decide +kernel
theorem dL_law_1951 : decode cL_law 1951 = .ok (.iload 6, 2) := by decide +kernel
theorem dL_law_1953 : decode cL_law 1953 = .ok (.i2l, 1) := by decide +kernel
theorem dL_law_1954 : decode cL_law 1954 = .ok (.lcmp, 1) := by decide +kernel
theorem dL_law_1955 : decode cL_law 1955 = .ok (.ifCond .eq 5, 3) := by decide +kernel
theorem dL_law_1958 : decode cL_law 1958 = .ok (.iconst 0, 1) := by decide +kernel
theorem dL_law_1959 : decode cL_law 1959 = .ok (.ireturn, 1) := by decide +kernel
theorem dL_law_1960 : decode cL_law 1960 = .ok (.goto 102, 3) := by decide +kernel
theorem dL_law_1963 : decode cL_law 1963 = .ok (.aload_n 1, 1) := by decide +kernel
theorem dL_law_1964 : decode cL_law 1964 = .ok (.aload_n 3, 1) := by decide +kernel
theorem dL_law_1965 : decode cL_law 1965 = .ok (.invokestatic 239, 3) := by decide +kernel
theorem dL_law_1968 : decode cL_law 1968 = .ok (.istore 5, 2) := by decide +kernel
theorem dL_law_1970 : decode cL_law 1970 = .ok (.aload_n 2, 1) := by decide +kernel
theorem dL_law_1971 : decode cL_law 1971 = .ok (.invokevirtual 241, 3) := by decide +kernel
theorem dL_law_1974 : decode cL_law 1974 = .ok (.istore 6, 2) := by decide +kernel
theorem dL_law_1976 : decode cL_law 1976 = .ok (.aload_n 2, 1) := by decide +kernel
theorem dL_law_1977 : decode cL_law 1977 = .ok (.invokevirtual 111, 3) := by decide +kernel
theorem dL_law_1980 : decode cL_law 1980 = .ok (.iload 5, 2) := by decide +kernel
theorem dL_law_1982 : decode cL_law 1982 = .ok (.if_icmp .eq 5, 3) := by decide +kernel
theorem dL_law_1985 : decode cL_law 1985 = .ok (.iconst 0, 1) := by decide +kernel
theorem dL_law_1986 : decode cL_law 1986 = .ok (.ireturn, 1) := by decide +kernel
theorem dL_law_1987 : decode cL_law 1987 = .ok (.iload 5, 2) := by decide +kernel
theorem dL_law_1989 : decode cL_law 1989 = .ok (.ifCond .ne 15, 3) := by decide +kernel
theorem dL_law_1992 : decode cL_law 1992 = .ok (.aload_n 3, 1) := by decide +kernel
theorem dL_law_1993 : decode cL_law 1993 = .ok (.iconst 0, 1) := by decide +kernel
theorem dL_law_1994 : decode cL_law 1994 = .ok (.laload, 1) := by decide +kernel
theorem dL_law_1995 : decode cL_law 1995 = .ok (.iload 6, 2) := by decide +kernel
theorem dL_law_1997 : decode cL_law 1997 = .ok (.i2l, 1) := by decide +kernel
theorem dL_law_1998 : decode cL_law 1998 = .ok (.lcmp, 1) := by decide +kernel
theorem dL_law_1999 : decode cL_law 1999 = .ok (.ifCond .eq 5, 3) := by decide +kernel
theorem dL_law_2002 : decode cL_law 2002 = .ok (.iconst 0, 1) := by decide +kernel
theorem dL_law_2003 : decode cL_law 2003 = .ok (.ireturn, 1) := by decide +kernel
theorem dL_law_2004 : decode cL_law 2004 = .ok (.goto 58, 3) := by decide +kernel
theorem dL_law_2007 : decode cL_law 2007 = .ok (.aload_n 1, 1) := by decide +kernel
theorem dL_law_2008 : decode cL_law 2008 = .ok (.invokevirtual 242, 3) := by decide +kernel
theorem dL_law_2011 : decode cL_law 2011 = .ok (.dstore 5, 2) := by decide +kernel
theorem dL_law_2013 : decode cL_law 2013 = .ok (.aload_n 2, 1) := by decide +kernel
theorem dL_law_2014 : decode cL_law 2014 = .ok (.invokevirtual 246, 3) := by decide +kernel
theorem dL_law_2017 : decode cL_law 2017 = .ok (.dstore 7, 2) := by decide +kernel
theorem dL_law_2019 : decode cL_law 2019 = .ok (.dload 5, 2) := by decide +kernel
theorem dL_law_2021 : decode cL_law 2021 = .ok (.dload 7, 2) := by decide +kernel
theorem dL_law_2023 : decode cL_law 2023 = .ok (.dcmp .l, 1) := by decide +kernel
theorem dL_law_2024 : decode cL_law 2024 = .ok (.ifCond .eq 21, 3) := by decide +kernel
theorem dL_law_2027 : decode cL_law 2027 = .ok (.dload 5, 2) := by decide +kernel
theorem dL_law_2029 : decode cL_law 2029 = .ok (.dload 5, 2) := by decide +kernel
theorem dL_law_2031 : decode cL_law 2031 = .ok (.dcmp .l, 1) := by decide +kernel
theorem dL_law_2032 : decode cL_law 2032 = .ok (.ifCond .eq 11, 3) := by decide +kernel
theorem dL_law_2035 : decode cL_law 2035 = .ok (.dload 7, 2) := by decide +kernel
theorem dL_law_2037 : decode cL_law 2037 = .ok (.dload 7, 2) := by decide +kernel
theorem dL_law_2039 : decode cL_law 2039 = .ok (.dcmp .l, 1) := by decide +kernel
theorem dL_law_2040 : decode cL_law 2040 = .ok (.ifCond .ne 5, 3) := by decide +kernel
theorem dL_law_2043 : decode cL_law 2043 = .ok (.iconst 0, 1) := by decide +kernel
theorem dL_law_2044 : decode cL_law 2044 = .ok (.ireturn, 1) := by decide +kernel
theorem dL_law_2045 : decode cL_law 2045 = .ok (.goto 17, 3) := by decide +kernel
theorem dL_law_2048 : decode cL_law 2048 = .ok (.aload_n 1, 1) := by decide +kernel
theorem dL_law_2049 : decode cL_law 2049 = .ok (.invokevirtual 247, 3) := by decide +kernel
theorem dL_law_2052 : decode cL_law 2052 = .ok (.aload_n 2, 1) := by decide +kernel
theorem dL_law_2053 : decode cL_law 2053 = .ok (.invokevirtual 251, 3) := by decide +kernel
theorem dL_law_2056 : decode cL_law 2056 = .ok (.lcmp, 1) := by decide +kernel
theorem dL_law_2057 : decode cL_law 2057 = .ok (.ifCond .eq 5, 3) := by decide +kernel
theorem dL_law_2060 : decode cL_law 2060 = .ok (.iconst 0, 1) := by decide +kernel
theorem dL_law_2061 : decode cL_law 2061 = .ok (.ireturn, 1) := by decide +kernel
theorem dL_law_2062 : decode cL_law 2062 = .ok (.iinc 4 6, 3) := by decide +kernel
theorem dL_law_2065 : decode cL_law 2065 = .ok (.goto (-2042), 3) := by decide +kernel
theorem dL_law_2068 : decode cL_law 2068 = .ok (.iconst 1, 1) := by decide +kernel
theorem dL_law_2069 : decode cL_law 2069 = .ok (.ireturn, 1) := by decide +kernel
