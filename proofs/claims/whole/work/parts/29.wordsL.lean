theorem dL_addStop_0 : decode cL_addStop 0 = .ok (.aload_n 2, 1) := by decide +kernel
theorem dL_addStop_1 : decode cL_addStop 1 = .ok (.iconst 0, 1) := by decide +kernel
theorem dL_addStop_2 : decode cL_addStop 2 = .ok (.aload_n 0, 1) := by decide +kernel
theorem dL_addStop_3 : decode cL_addStop 3 = .ok (.iload_n 1, 1) := by decide +kernel
theorem dL_addStop_4 : decode cL_addStop 4 = .ok (.invokevirtual 7, 3) := by decide +kernel
theorem dL_addStop_7 : decode cL_addStop 7 = .ok (.i2l, 1) := by decide +kernel
theorem dL_addStop_8 : decode cL_addStop 8 = .ok (.lastore, 1) := by decide +kernel
theorem dL_addStop_9 : decode cL_addStop 9 = .ok (.goto 9, 3) := by decide +kernel
theorem dL_addStop_12 : decode cL_addStop 12 = .ok (.astore_n 3, 1) := by decide +kernel
theorem dL_addStop_13 : decode cL_addStop 13 = .ok (.iconst 1, 1) := by decide +kernel
theorem dL_addStop_14 : decode cL_addStop 14 = .ok (.ireturn, 1) := by decide +kernel
theorem dL_addStop_15 : decode cL_addStop 15 = .ok (.astore_n 3, 1) := by decide +kernel
theorem dL_addStop_16 : decode cL_addStop 16 = .ok (.iconst 2, 1) := by decide +kernel
theorem dL_addStop_17 : decode cL_addStop 17 = .ok (.ireturn, 1) := by decide +kernel
theorem dL_addStop_18 : decode cL_addStop 18 = .ok (.iconst 0, 1) := by decide +kernel
theorem dL_addStop_19 : decode cL_addStop 19 = .ok (.ireturn, 1) := by decide +kernel
theorem dL_addWalk_0 : decode cL_addWalk 0 = .ok (.aload 4, 2) := by decide +kernel
theorem dL_addWalk_2 : decode cL_addWalk 2 = .ok (.iconst 0, 1) := by decide +kernel
theorem dL_addWalk_3 : decode cL_addWalk 3 = .ok (.aload_n 0, 1) := by decide +kernel
theorem dL_addWalk_4 : decode cL_addWalk 4 = .ok (.iload_n 1, 1) := by decide +kernel
theorem dL_addWalk_5 : decode cL_addWalk 5 = .ok (.iload_n 2, 1) := by decide +kernel
theorem dL_addWalk_6 : decode cL_addWalk 6 = .ok (.iload_n 3, 1) := by decide +kernel
theorem dL_addWalk_7 : decode cL_addWalk 7 = .ok (.invokevirtual 17, 3) := by decide +kernel
theorem dL_addWalk_10 : decode cL_addWalk 10 = .ok (.i2l, 1) := by decide +kernel
theorem dL_addWalk_11 : decode cL_addWalk 11 = .ok (.lastore, 1) := by decide +kernel
theorem dL_addWalk_12 : decode cL_addWalk 12 = .ok (.goto 15, 3) := by decide +kernel
theorem dL_addWalk_15 : decode cL_addWalk 15 = .ok (.astore 5, 2) := by decide +kernel
theorem dL_addWalk_17 : decode cL_addWalk 17 = .ok (.iconst 1, 1) := by decide +kernel
theorem dL_addWalk_18 : decode cL_addWalk 18 = .ok (.ireturn, 1) := by decide +kernel
theorem dL_addWalk_19 : decode cL_addWalk 19 = .ok (.astore 5, 2) := by decide +kernel
theorem dL_addWalk_21 : decode cL_addWalk 21 = .ok (.iconst 2, 1) := by decide +kernel
theorem dL_addWalk_22 : decode cL_addWalk 22 = .ok (.ireturn, 1) := by decide +kernel
theorem dL_addWalk_23 : decode cL_addWalk 23 = .ok (.astore 5, 2) := by decide +kernel
theorem dL_addWalk_25 : decode cL_addWalk 25 = .ok (.iconst 3, 1) := by decide +kernel
theorem dL_addWalk_26 : decode cL_addWalk 26 = .ok (.ireturn, 1) := by decide +kernel
theorem dL_addWalk_27 : decode cL_addWalk 27 = .ok (.iconst 0, 1) := by decide +kernel
theorem dL_addWalk_28 : decode cL_addWalk 28 = .ok (.ireturn, 1) := by decide +kernel
theorem dL_removeWalk_0 : decode cL_removeWalk 0 = .ok (.aload_n 3, 1) := by decide +kernel
theorem dL_removeWalk_1 : decode cL_removeWalk 1 = .ok (.iconst 0, 1) := by decide +kernel
theorem dL_removeWalk_2 : decode cL_removeWalk 2 = .ok (.aload_n 0, 1) := by decide +kernel
theorem dL_removeWalk_3 : decode cL_removeWalk 3 = .ok (.iload_n 1, 1) := by decide +kernel
theorem dL_removeWalk_4 : decode cL_removeWalk 4 = .ok (.iload_n 2, 1) := by decide +kernel
theorem dL_removeWalk_5 : decode cL_removeWalk 5 = .ok (.invokevirtual 23, 3) := by decide +kernel
theorem dL_removeWalk_8 : decode cL_removeWalk 8 = .ok (.i2l, 1) := by decide +kernel
theorem dL_removeWalk_9 : decode cL_removeWalk 9 = .ok (.lastore, 1) := by decide +kernel
theorem dL_removeWalk_10 : decode cL_removeWalk 10 = .ok (.goto 11, 3) := by decide +kernel
theorem dL_removeWalk_13 : decode cL_removeWalk 13 = .ok (.astore 4, 2) := by decide +kernel
theorem dL_removeWalk_15 : decode cL_removeWalk 15 = .ok (.iconst 1, 1) := by decide +kernel
theorem dL_removeWalk_16 : decode cL_removeWalk 16 = .ok (.ireturn, 1) := by decide +kernel
theorem dL_removeWalk_17 : decode cL_removeWalk 17 = .ok (.astore 4, 2) := by decide +kernel
theorem dL_removeWalk_19 : decode cL_removeWalk 19 = .ok (.iconst 2, 1) := by decide +kernel
theorem dL_removeWalk_20 : decode cL_removeWalk 20 = .ok (.ireturn, 1) := by decide +kernel
theorem dL_removeWalk_21 : decode cL_removeWalk 21 = .ok (.iconst 0, 1) := by decide +kernel
theorem dL_removeWalk_22 : decode cL_removeWalk 22 = .ok (.ireturn, 1) := by decide +kernel
theorem dL_addLine_0 : decode cL_addLine 0 = .ok (.aload 5, 2) := by decide +kernel
theorem dL_addLine_2 : decode cL_addLine 2 = .ok (.iconst 0, 1) := by decide +kernel
theorem dL_addLine_3 : decode cL_addLine 3 = .ok (.aload_n 0, 1) := by decide +kernel
theorem dL_addLine_4 : decode cL_addLine 4 = .ok (.iload_n 1, 1) := by decide +kernel
theorem dL_addLine_5 : decode cL_addLine 5 = .ok (.iload_n 2, 1) := by decide +kernel
theorem dL_addLine_6 : decode cL_addLine 6 = .ok (.iload_n 3, 1) := by decide +kernel
theorem dL_addLine_7 : decode cL_addLine 7 = .ok (.iload 4, 2) := by decide +kernel
theorem dL_addLine_9 : decode cL_addLine 9 = .ok (.invokevirtual 29, 3) := by decide +kernel
theorem dL_addLine_12 : decode cL_addLine 12 = .ok (.i2l, 1) := by decide +kernel
theorem dL_addLine_13 : decode cL_addLine 13 = .ok (.lastore, 1) := by decide +kernel
theorem dL_addLine_14 : decode cL_addLine 14 = .ok (.goto 11, 3) := by decide +kernel
theorem dL_addLine_17 : decode cL_addLine 17 = .ok (.astore 6, 2) := by decide +kernel
theorem dL_addLine_19 : decode cL_addLine 19 = .ok (.iconst 1, 1) := by decide +kernel
theorem dL_addLine_20 : decode cL_addLine 20 = .ok (.ireturn, 1) := by decide +kernel
theorem dL_addLine_21 : decode cL_addLine 21 = .ok (.astore 6, 2) := by decide +kernel
theorem dL_addLine_23 : decode cL_addLine 23 = .ok (.iconst 2, 1) := by decide +kernel
theorem dL_addLine_24 : decode cL_addLine 24 = .ok (.ireturn, 1) := by decide +kernel
theorem dL_addLine_25 : decode cL_addLine 25 = .ok (.iconst 0, 1) := by decide +kernel
theorem dL_addLine_26 : decode cL_addLine 26 = .ok (.ireturn, 1) := by decide +kernel
theorem dL_extendLine_0 : decode cL_extendLine 0 = .ok (.aload_n 3, 1) := by decide +kernel
theorem dL_extendLine_1 : decode cL_extendLine 1 = .ok (.iconst 0, 1) := by decide +kernel
theorem dL_extendLine_2 : decode cL_extendLine 2 = .ok (.aload_n 0, 1) := by decide +kernel
theorem dL_extendLine_3 : decode cL_extendLine 3 = .ok (.iload_n 1, 1) := by decide +kernel
theorem dL_extendLine_4 : decode cL_extendLine 4 = .ok (.iload_n 2, 1) := by decide +kernel
theorem dL_extendLine_5 : decode cL_extendLine 5 = .ok (.invokevirtual 33, 3) := by decide +kernel
theorem dL_extendLine_8 : decode cL_extendLine 8 = .ok (.i2l, 1) := by decide +kernel
theorem dL_extendLine_9 : decode cL_extendLine 9 = .ok (.lastore, 1) := by decide +kernel
theorem dL_extendLine_10 : decode cL_extendLine 10 = .ok (.goto 15, 3) := by decide +kernel
theorem dL_extendLine_13 : decode cL_extendLine 13 = .ok (.astore 4, 2) := by decide +kernel
theorem dL_extendLine_15 : decode cL_extendLine 15 = .ok (.iconst 1, 1) := by decide +kernel
theorem dL_extendLine_16 : decode cL_extendLine 16 = .ok (.ireturn, 1) := by decide +kernel
theorem dL_extendLine_17 : decode cL_extendLine 17 = .ok (.astore 4, 2) := by decide +kernel
theorem dL_extendLine_19 : decode cL_extendLine 19 = .ok (.iconst 2, 1) := by decide +kernel
theorem dL_extendLine_20 : decode cL_extendLine 20 = .ok (.ireturn, 1) := by decide +kernel
theorem dL_extendLine_21 : decode cL_extendLine 21 = .ok (.astore 4, 2) := by decide +kernel
theorem dL_extendLine_23 : decode cL_extendLine 23 = .ok (.iconst 3, 1) := by decide +kernel
theorem dL_extendLine_24 : decode cL_extendLine 24 = .ok (.ireturn, 1) := by decide +kernel
theorem dL_extendLine_25 : decode cL_extendLine 25 = .ok (.iconst 0, 1) := by decide +kernel
theorem dL_extendLine_26 : decode cL_extendLine 26 = .ok (.ireturn, 1) := by decide +kernel
theorem dL_shortenLine_0 : decode cL_shortenLine 0 = .ok (.aload_n 2, 1) := by decide +kernel
theorem dL_shortenLine_1 : decode cL_shortenLine 1 = .ok (.iconst 0, 1) := by decide +kernel
theorem dL_shortenLine_2 : decode cL_shortenLine 2 = .ok (.aload_n 0, 1) := by decide +kernel
theorem dL_shortenLine_3 : decode cL_shortenLine 3 = .ok (.iload_n 1, 1) := by decide +kernel
theorem dL_shortenLine_4 : decode cL_shortenLine 4 = .ok (.invokevirtual 38, 3) := by decide +kernel
theorem dL_shortenLine_7 : decode cL_shortenLine 7 = .ok (.i2l, 1) := by decide +kernel
theorem dL_shortenLine_8 : decode cL_shortenLine 8 = .ok (.lastore, 1) := by decide +kernel
theorem dL_shortenLine_9 : decode cL_shortenLine 9 = .ok (.goto 12, 3) := by decide +kernel
theorem dL_shortenLine_12 : decode cL_shortenLine 12 = .ok (.astore_n 3, 1) := by decide +kernel
theorem dL_shortenLine_13 : decode cL_shortenLine 13 = .ok (.iconst 1, 1) := by decide +kernel
theorem dL_shortenLine_14 : decode cL_shortenLine 14 = .ok (.ireturn, 1) := by decide +kernel
theorem dL_shortenLine_15 : decode cL_shortenLine 15 = .ok (.astore_n 3, 1) := by decide +kernel
theorem dL_shortenLine_16 : decode cL_shortenLine 16 = .ok (.iconst 2, 1) := by decide +kernel
theorem dL_shortenLine_17 : decode cL_shortenLine 17 = .ok (.ireturn, 1) := by decide +kernel
theorem dL_shortenLine_18 : decode cL_shortenLine 18 = .ok (.astore_n 3, 1) := by decide +kernel
theorem dL_shortenLine_19 : decode cL_shortenLine 19 = .ok (.iconst 3, 1) := by decide +kernel
theorem dL_shortenLine_20 : decode cL_shortenLine 20 = .ok (.ireturn, 1) := by decide +kernel
theorem dL_shortenLine_21 : decode cL_shortenLine 21 = .ok (.iconst 0, 1) := by decide +kernel
theorem dL_shortenLine_22 : decode cL_shortenLine 22 = .ok (.ireturn, 1) := by decide +kernel
theorem dL_setRainDelay_0 : decode cL_setRainDelay 0 = .ok (.aload_n 3, 1) := by decide +kernel
theorem dL_setRainDelay_1 : decode cL_setRainDelay 1 = .ok (.iconst 0, 1) := by decide +kernel
theorem dL_setRainDelay_2 : decode cL_setRainDelay 2 = .ok (.aload_n 0, 1) := by decide +kernel
theorem dL_setRainDelay_3 : decode cL_setRainDelay 3 = .ok (.iload_n 1, 1) := by decide +kernel
theorem dL_setRainDelay_4 : decode cL_setRainDelay 4 = .ok (.iload_n 2, 1) := by decide +kernel
theorem dL_setRainDelay_5 : decode cL_setRainDelay 5 = .ok (.invokevirtual 41, 3) := by decide +kernel
theorem dL_setRainDelay_8 : decode cL_setRainDelay 8 = .ok (.i2l, 1) := by decide +kernel
theorem dL_setRainDelay_9 : decode cL_setRainDelay 9 = .ok (.lastore, 1) := by decide +kernel
theorem dL_setRainDelay_10 : decode cL_setRainDelay 10 = .ok (.goto 11, 3) := by decide +kernel
theorem dL_setRainDelay_13 : decode cL_setRainDelay 13 = .ok (.astore 4, 2) := by decide +kernel
theorem dL_setRainDelay_15 : decode cL_setRainDelay 15 = .ok (.iconst 1, 1) := by decide +kernel
theorem dL_setRainDelay_16 : decode cL_setRainDelay 16 = .ok (.ireturn, 1) := by decide +kernel
theorem dL_setRainDelay_17 : decode cL_setRainDelay 17 = .ok (.astore 4, 2) := by decide +kernel
theorem dL_setRainDelay_19 : decode cL_setRainDelay 19 = .ok (.iconst 2, 1) := by decide +kernel
theorem dL_setRainDelay_20 : decode cL_setRainDelay 20 = .ok (.ireturn, 1) := by decide +kernel
theorem dL_setRainDelay_21 : decode cL_setRainDelay 21 = .ok (.iconst 0, 1) := by decide +kernel
theorem dL_setRainDelay_22 : decode cL_setRainDelay 22 = .ok (.ireturn, 1) := by decide +kernel
theorem dL_setClosed_0 : decode cL_setClosed 0 = .ok (.aload_n 3, 1) := by decide +kernel
theorem dL_setClosed_1 : decode cL_setClosed 1 = .ok (.iconst 0, 1) := by decide +kernel
theorem dL_setClosed_2 : decode cL_setClosed 2 = .ok (.aload_n 0, 1) := by decide +kernel
theorem dL_setClosed_3 : decode cL_setClosed 3 = .ok (.iload_n 1, 1) := by decide +kernel
theorem dL_setClosed_4 : decode cL_setClosed 4 = .ok (.iload_n 2, 1) := by decide +kernel
theorem dL_setClosed_5 : decode cL_setClosed 5 = .ok (.invokevirtual 44, 3) := by decide +kernel
theorem dL_setClosed_8 : decode cL_setClosed 8 = .ok (.ifCond .eq 7, 3) := by decide +kernel
theorem dL_setClosed_11 : decode cL_setClosed 11 = .ok (.lconst 1, 1) := by decide +kernel
theorem dL_setClosed_12 : decode cL_setClosed 12 = .ok (.goto 4, 3) := by decide +kernel
theorem dL_setClosed_15 : decode cL_setClosed 15 = .ok (.lconst 0, 1) := by decide +kernel
theorem dL_setClosed_16 : decode cL_setClosed 16 = .ok (.lastore, 1) := by decide +kernel
theorem dL_setClosed_17 : decode cL_setClosed 17 = .ok (.goto 7, 3) := by decide +kernel
theorem dL_setClosed_20 : decode cL_setClosed 20 = .ok (.astore 4, 2) := by decide +kernel
theorem dL_setClosed_22 : decode cL_setClosed 22 = .ok (.iconst 1, 1) := by decide +kernel
theorem dL_setClosed_23 : decode cL_setClosed 23 = .ok (.ireturn, 1) := by decide +kernel
theorem dL_setClosed_24 : decode cL_setClosed 24 = .ok (.iconst 0, 1) := by decide +kernel
theorem dL_setClosed_25 : decode cL_setClosed 25 = .ok (.ireturn, 1) := by decide +kernel
theorem dL_setSuspended_0 : decode cL_setSuspended 0 = .ok (.aload_n 3, 1) := by decide +kernel
theorem dL_setSuspended_1 : decode cL_setSuspended 1 = .ok (.iconst 0, 1) := by decide +kernel
theorem dL_setSuspended_2 : decode cL_setSuspended 2 = .ok (.aload_n 0, 1) := by decide +kernel
theorem dL_setSuspended_3 : decode cL_setSuspended 3 = .ok (.iload_n 1, 1) := by decide +kernel
theorem dL_setSuspended_4 : decode cL_setSuspended 4 = .ok (.iload_n 2, 1) := by decide +kernel
theorem dL_setSuspended_5 : decode cL_setSuspended 5 = .ok (.invokevirtual 48, 3) := by decide +kernel
theorem dL_setSuspended_8 : decode cL_setSuspended 8 = .ok (.ifCond .eq 7, 3) := by decide +kernel
theorem dL_setSuspended_11 : decode cL_setSuspended 11 = .ok (.lconst 1, 1) := by decide +kernel
theorem dL_setSuspended_12 : decode cL_setSuspended 12 = .ok (.goto 4, 3) := by decide +kernel
theorem dL_setSuspended_15 : decode cL_setSuspended 15 = .ok (.lconst 0, 1) := by decide +kernel
theorem dL_setSuspended_16 : decode cL_setSuspended 16 = .ok (.lastore, 1) := by decide +kernel
theorem dL_setSuspended_17 : decode cL_setSuspended 17 = .ok (.goto 7, 3) := by decide +kernel
theorem dL_setSuspended_20 : decode cL_setSuspended 20 = .ok (.astore 4, 2) := by decide +kernel
theorem dL_setSuspended_22 : decode cL_setSuspended 22 = .ok (.iconst 1, 1) := by decide +kernel
theorem dL_setSuspended_23 : decode cL_setSuspended 23 = .ok (.ireturn, 1) := by decide +kernel
theorem dL_setSuspended_24 : decode cL_setSuspended 24 = .ok (.iconst 0, 1) := by decide +kernel
theorem dL_setSuspended_25 : decode cL_setSuspended 25 = .ok (.ireturn, 1) := by decide +kernel
theorem dL_sellTicket_0 : decode cL_sellTicket 0 = .ok (.aload 5, 2) := by decide +kernel
theorem dL_sellTicket_2 : decode cL_sellTicket 2 = .ok (.iconst 0, 1) := by decide +kernel
theorem dL_sellTicket_3 : decode cL_sellTicket 3 = .ok (.aload_n 0, 1) := by decide +kernel
theorem dL_sellTicket_4 : decode cL_sellTicket 4 = .ok (.iload_n 1, 1) := by decide +kernel
theorem dL_sellTicket_5 : decode cL_sellTicket 5 = .ok (.iload_n 2, 1) := by decide +kernel
theorem dL_sellTicket_6 : decode cL_sellTicket 6 = .ok (.iload_n 3, 1) := by decide +kernel
theorem dL_sellTicket_7 : decode cL_sellTicket 7 = .ok (.iload 4, 2) := by decide +kernel
theorem dL_sellTicket_9 : decode cL_sellTicket 9 = .ok (.invokevirtual 51, 3) := by decide +kernel
theorem dL_sellTicket_12 : decode cL_sellTicket 12 = .ok (.i2l, 1) := by decide +kernel
theorem dL_sellTicket_13 : decode cL_sellTicket 13 = .ok (.lastore, 1) := by decide +kernel
theorem dL_sellTicket_14 : decode cL_sellTicket 14 = .ok (.goto 19, 3) := by decide +kernel
theorem dL_sellTicket_17 : decode cL_sellTicket 17 = .ok (.astore 6, 2) := by decide +kernel
theorem dL_sellTicket_19 : decode cL_sellTicket 19 = .ok (.iconst 1, 1) := by decide +kernel
theorem dL_sellTicket_20 : decode cL_sellTicket 20 = .ok (.ireturn, 1) := by decide +kernel
theorem dL_sellTicket_21 : decode cL_sellTicket 21 = .ok (.astore 6, 2) := by decide +kernel
theorem dL_sellTicket_23 : decode cL_sellTicket 23 = .ok (.iconst 2, 1) := by decide +kernel
theorem dL_sellTicket_24 : decode cL_sellTicket 24 = .ok (.ireturn, 1) := by decide +kernel
theorem dL_sellTicket_25 : decode cL_sellTicket 25 = .ok (.astore 6, 2) := by decide +kernel
theorem dL_sellTicket_27 : decode cL_sellTicket 27 = .ok (.iconst 3, 1) := by decide +kernel
theorem dL_sellTicket_28 : decode cL_sellTicket 28 = .ok (.ireturn, 1) := by decide +kernel
theorem dL_sellTicket_29 : decode cL_sellTicket 29 = .ok (.astore 6, 2) := by decide +kernel
theorem dL_sellTicket_31 : decode cL_sellTicket 31 = .ok (.iconst 4, 1) := by decide +kernel
theorem dL_sellTicket_32 : decode cL_sellTicket 32 = .ok (.ireturn, 1) := by decide +kernel
theorem dL_sellTicket_33 : decode cL_sellTicket 33 = .ok (.iconst 0, 1) := by decide +kernel
theorem dL_sellTicket_34 : decode cL_sellTicket 34 = .ok (.ireturn, 1) := by decide +kernel
theorem dL_refund_0 : decode cL_refund 0 = .ok (.aload_n 2, 1) := by decide +kernel
theorem dL_refund_1 : decode cL_refund 1 = .ok (.iconst 0, 1) := by decide +kernel
theorem dL_refund_2 : decode cL_refund 2 = .ok (.aload_n 0, 1) := by decide +kernel
theorem dL_refund_3 : decode cL_refund 3 = .ok (.iload_n 1, 1) := by decide +kernel
theorem dL_refund_4 : decode cL_refund 4 = .ok (.invokevirtual 54, 3) := by decide +kernel
theorem dL_refund_7 : decode cL_refund 7 = .ok (.i2l, 1) := by decide +kernel
theorem dL_refund_8 : decode cL_refund 8 = .ok (.lastore, 1) := by decide +kernel
theorem dL_refund_9 : decode cL_refund 9 = .ok (.goto 6, 3) := by decide +kernel
theorem dL_refund_12 : decode cL_refund 12 = .ok (.astore_n 3, 1) := by decide +kernel
theorem dL_refund_13 : decode cL_refund 13 = .ok (.iconst 1, 1) := by decide +kernel
theorem dL_refund_14 : decode cL_refund 14 = .ok (.ireturn, 1) := by decide +kernel
theorem dL_refund_15 : decode cL_refund 15 = .ok (.iconst 0, 1) := by decide +kernel
theorem dL_refund_16 : decode cL_refund 16 = .ok (.ireturn, 1) := by decide +kernel
theorem dL_advance_0 : decode cL_advance 0 = .ok (.aload_n 2, 1) := by decide +kernel
theorem dL_advance_1 : decode cL_advance 1 = .ok (.iconst 0, 1) := by decide +kernel
theorem dL_advance_2 : decode cL_advance 2 = .ok (.aload_n 0, 1) := by decide +kernel
theorem dL_advance_3 : decode cL_advance 3 = .ok (.iload_n 1, 1) := by decide +kernel
theorem dL_advance_4 : decode cL_advance 4 = .ok (.invokevirtual 57, 3) := by decide +kernel
theorem dL_advance_7 : decode cL_advance 7 = .ok (.i2l, 1) := by decide +kernel
theorem dL_advance_8 : decode cL_advance 8 = .ok (.lastore, 1) := by decide +kernel
theorem dL_advance_9 : decode cL_advance 9 = .ok (.goto 6, 3) := by decide +kernel
theorem dL_advance_12 : decode cL_advance 12 = .ok (.astore_n 3, 1) := by decide +kernel
theorem dL_advance_13 : decode cL_advance 13 = .ok (.iconst 1, 1) := by decide +kernel
theorem dL_advance_14 : decode cL_advance 14 = .ok (.ireturn, 1) := by decide +kernel
theorem dL_advance_15 : decode cL_advance 15 = .ok (.iconst 0, 1) := by decide +kernel
theorem dL_advance_16 : decode cL_advance 16 = .ok (.ireturn, 1) := by decide +kernel
theorem dL_transferMinutes_0 : decode cL_transferMinutes 0 = .ok (.aload_n 2, 1) := by decide +kernel
theorem dL_transferMinutes_1 : decode cL_transferMinutes 1 = .ok (.iconst 0, 1) := by decide +kernel
theorem dL_transferMinutes_2 : decode cL_transferMinutes 2 = .ok (.aload_n 0, 1) := by decide +kernel
theorem dL_transferMinutes_3 : decode cL_transferMinutes 3 = .ok (.iload_n 1, 1) := by decide +kernel
theorem dL_transferMinutes_4 : decode cL_transferMinutes 4 = .ok (.invokevirtual 60, 3) := by decide +kernel
theorem dL_transferMinutes_7 : decode cL_transferMinutes 7 = .ok (.i2l, 1) := by decide +kernel
theorem dL_transferMinutes_8 : decode cL_transferMinutes 8 = .ok (.lastore, 1) := by decide +kernel
theorem dL_transferMinutes_9 : decode cL_transferMinutes 9 = .ok (.goto 6, 3) := by decide +kernel
theorem dL_transferMinutes_12 : decode cL_transferMinutes 12 = .ok (.astore_n 3, 1) := by decide +kernel
theorem dL_transferMinutes_13 : decode cL_transferMinutes 13 = .ok (.iconst 1, 1) := by decide +kernel
theorem dL_transferMinutes_14 : decode cL_transferMinutes 14 = .ok (.ireturn, 1) := by decide +kernel
theorem dL_transferMinutes_15 : decode cL_transferMinutes 15 = .ok (.iconst 0, 1) := by decide +kernel
theorem dL_transferMinutes_16 : decode cL_transferMinutes 16 = .ok (.ireturn, 1) := by decide +kernel
theorem dL_isClosed_0 : decode cL_isClosed 0 = .ok (.aload_n 2, 1) := by decide +kernel
theorem dL_isClosed_1 : decode cL_isClosed 1 = .ok (.iconst 0, 1) := by decide +kernel
theorem dL_isClosed_2 : decode cL_isClosed 2 = .ok (.aload_n 0, 1) := by decide +kernel
theorem dL_isClosed_3 : decode cL_isClosed 3 = .ok (.iload_n 1, 1) := by decide +kernel
theorem dL_isClosed_4 : decode cL_isClosed 4 = .ok (.invokevirtual 63, 3) := by decide +kernel
theorem dL_isClosed_7 : decode cL_isClosed 7 = .ok (.ifCond .eq 7, 3) := by decide +kernel
theorem dL_isClosed_10 : decode cL_isClosed 10 = .ok (.lconst 1, 1) := by decide +kernel
theorem dL_isClosed_11 : decode cL_isClosed 11 = .ok (.goto 4, 3) := by decide +kernel
theorem dL_isClosed_14 : decode cL_isClosed 14 = .ok (.lconst 0, 1) := by decide +kernel
theorem dL_isClosed_15 : decode cL_isClosed 15 = .ok (.lastore, 1) := by decide +kernel
theorem dL_isClosed_16 : decode cL_isClosed 16 = .ok (.goto 6, 3) := by decide +kernel
theorem dL_isClosed_19 : decode cL_isClosed 19 = .ok (.astore_n 3, 1) := by decide +kernel
theorem dL_isClosed_20 : decode cL_isClosed 20 = .ok (.iconst 1, 1) := by decide +kernel
theorem dL_isClosed_21 : decode cL_isClosed 21 = .ok (.ireturn, 1) := by decide +kernel
theorem dL_isClosed_22 : decode cL_isClosed 22 = .ok (.iconst 0, 1) := by decide +kernel
theorem dL_isClosed_23 : decode cL_isClosed 23 = .ok (.ireturn, 1) := by decide +kernel
theorem dL_walkMinutes_0 : decode cL_walkMinutes 0 = .ok (.aload_n 3, 1) := by decide +kernel
theorem dL_walkMinutes_1 : decode cL_walkMinutes 1 = .ok (.iconst 0, 1) := by decide +kernel
theorem dL_walkMinutes_2 : decode cL_walkMinutes 2 = .ok (.aload_n 0, 1) := by decide +kernel
theorem dL_walkMinutes_3 : decode cL_walkMinutes 3 = .ok (.iload_n 1, 1) := by decide +kernel
theorem dL_walkMinutes_4 : decode cL_walkMinutes 4 = .ok (.iload_n 2, 1) := by decide +kernel
theorem dL_walkMinutes_5 : decode cL_walkMinutes 5 = .ok (.invokevirtual 67, 3) := by decide +kernel
theorem dL_walkMinutes_8 : decode cL_walkMinutes 8 = .ok (.i2l, 1) := by decide +kernel
theorem dL_walkMinutes_9 : decode cL_walkMinutes 9 = .ok (.lastore, 1) := by decide +kernel
theorem dL_walkMinutes_10 : decode cL_walkMinutes 10 = .ok (.goto 11, 3) := by decide +kernel
theorem dL_walkMinutes_13 : decode cL_walkMinutes 13 = .ok (.astore 4, 2) := by decide +kernel
theorem dL_walkMinutes_15 : decode cL_walkMinutes 15 = .ok (.iconst 1, 1) := by decide +kernel
theorem dL_walkMinutes_16 : decode cL_walkMinutes 16 = .ok (.ireturn, 1) := by decide +kernel
theorem dL_walkMinutes_17 : decode cL_walkMinutes 17 = .ok (.astore 4, 2) := by decide +kernel
theorem dL_walkMinutes_19 : decode cL_walkMinutes 19 = .ok (.iconst 2, 1) := by decide +kernel
theorem dL_walkMinutes_20 : decode cL_walkMinutes 20 = .ok (.ireturn, 1) := by decide +kernel
theorem dL_walkMinutes_21 : decode cL_walkMinutes 21 = .ok (.iconst 0, 1) := by decide +kernel
theorem dL_walkMinutes_22 : decode cL_walkMinutes 22 = .ok (.ireturn, 1) := by decide +kernel
theorem dL_ringSize_0 : decode cL_ringSize 0 = .ok (.aload_n 2, 1) := by decide +kernel
theorem dL_ringSize_1 : decode cL_ringSize 1 = .ok (.iconst 0, 1) := by decide +kernel
theorem dL_ringSize_2 : decode cL_ringSize 2 = .ok (.aload_n 0, 1) := by decide +kernel
theorem dL_ringSize_3 : decode cL_ringSize 3 = .ok (.iload_n 1, 1) := by decide +kernel
theorem dL_ringSize_4 : decode cL_ringSize 4 = .ok (.invokevirtual 70, 3) := by decide +kernel
theorem dL_ringSize_7 : decode cL_ringSize 7 = .ok (.i2l, 1) := by decide +kernel
theorem dL_ringSize_8 : decode cL_ringSize 8 = .ok (.lastore, 1) := by decide +kernel
theorem dL_ringSize_9 : decode cL_ringSize 9 = .ok (.goto 6, 3) := by decide +kernel
theorem dL_ringSize_12 : decode cL_ringSize 12 = .ok (.astore_n 3, 1) := by decide +kernel
theorem dL_ringSize_13 : decode cL_ringSize 13 = .ok (.iconst 1, 1) := by decide +kernel
theorem dL_ringSize_14 : decode cL_ringSize 14 = .ok (.ireturn, 1) := by decide +kernel
theorem dL_ringSize_15 : decode cL_ringSize 15 = .ok (.iconst 0, 1) := by decide +kernel
theorem dL_ringSize_16 : decode cL_ringSize 16 = .ok (.ireturn, 1) := by decide +kernel
theorem dL_stopAt_0 : decode cL_stopAt 0 = .ok (.aload_n 3, 1) := by decide +kernel
theorem dL_stopAt_1 : decode cL_stopAt 1 = .ok (.iconst 0, 1) := by decide +kernel
theorem dL_stopAt_2 : decode cL_stopAt 2 = .ok (.aload_n 0, 1) := by decide +kernel
theorem dL_stopAt_3 : decode cL_stopAt 3 = .ok (.iload_n 1, 1) := by decide +kernel
theorem dL_stopAt_4 : decode cL_stopAt 4 = .ok (.iload_n 2, 1) := by decide +kernel
theorem dL_stopAt_5 : decode cL_stopAt 5 = .ok (.invokevirtual 73, 3) := by decide +kernel
theorem dL_stopAt_8 : decode cL_stopAt 8 = .ok (.i2l, 1) := by decide +kernel
theorem dL_stopAt_9 : decode cL_stopAt 9 = .ok (.lastore, 1) := by decide +kernel
theorem dL_stopAt_10 : decode cL_stopAt 10 = .ok (.goto 11, 3) := by decide +kernel
theorem dL_stopAt_13 : decode cL_stopAt 13 = .ok (.astore 4, 2) := by decide +kernel
theorem dL_stopAt_15 : decode cL_stopAt 15 = .ok (.iconst 1, 1) := by decide +kernel
theorem dL_stopAt_16 : decode cL_stopAt 16 = .ok (.ireturn, 1) := by decide +kernel
theorem dL_stopAt_17 : decode cL_stopAt 17 = .ok (.astore 4, 2) := by decide +kernel
theorem dL_stopAt_19 : decode cL_stopAt 19 = .ok (.iconst 2, 1) := by decide +kernel
theorem dL_stopAt_20 : decode cL_stopAt 20 = .ok (.ireturn, 1) := by decide +kernel
theorem dL_stopAt_21 : decode cL_stopAt 21 = .ok (.iconst 0, 1) := by decide +kernel
theorem dL_stopAt_22 : decode cL_stopAt 22 = .ok (.ireturn, 1) := by decide +kernel
theorem dL_positionOf_0 : decode cL_positionOf 0 = .ok (.aload_n 3, 1) := by decide +kernel
theorem dL_positionOf_1 : decode cL_positionOf 1 = .ok (.iconst 0, 1) := by decide +kernel
theorem dL_positionOf_2 : decode cL_positionOf 2 = .ok (.aload_n 0, 1) := by decide +kernel
theorem dL_positionOf_3 : decode cL_positionOf 3 = .ok (.iload_n 1, 1) := by decide +kernel
theorem dL_positionOf_4 : decode cL_positionOf 4 = .ok (.iload_n 2, 1) := by decide +kernel
theorem dL_positionOf_5 : decode cL_positionOf 5 = .ok (.invokevirtual 76, 3) := by decide +kernel
theorem dL_positionOf_8 : decode cL_positionOf 8 = .ok (.i2l, 1) := by decide +kernel
theorem dL_positionOf_9 : decode cL_positionOf 9 = .ok (.lastore, 1) := by decide +kernel
theorem dL_positionOf_10 : decode cL_positionOf 10 = .ok (.goto 11, 3) := by decide +kernel
theorem dL_positionOf_13 : decode cL_positionOf 13 = .ok (.astore 4, 2) := by decide +kernel
theorem dL_positionOf_15 : decode cL_positionOf 15 = .ok (.iconst 1, 1) := by decide +kernel
theorem dL_positionOf_16 : decode cL_positionOf 16 = .ok (.ireturn, 1) := by decide +kernel
theorem dL_positionOf_17 : decode cL_positionOf 17 = .ok (.astore 4, 2) := by decide +kernel
theorem dL_positionOf_19 : decode cL_positionOf 19 = .ok (.iconst 2, 1) := by decide +kernel
theorem dL_positionOf_20 : decode cL_positionOf 20 = .ok (.ireturn, 1) := by decide +kernel
theorem dL_positionOf_21 : decode cL_positionOf 21 = .ok (.iconst 0, 1) := by decide +kernel
theorem dL_positionOf_22 : decode cL_positionOf 22 = .ok (.ireturn, 1) := by decide +kernel
theorem dL_hopMinutes_0 : decode cL_hopMinutes 0 = .ok (.aload_n 2, 1) := by decide +kernel
theorem dL_hopMinutes_1 : decode cL_hopMinutes 1 = .ok (.iconst 0, 1) := by decide +kernel
theorem dL_hopMinutes_2 : decode cL_hopMinutes 2 = .ok (.aload_n 0, 1) := by decide +kernel
theorem dL_hopMinutes_3 : decode cL_hopMinutes 3 = .ok (.iload_n 1, 1) := by decide +kernel
theorem dL_hopMinutes_4 : decode cL_hopMinutes 4 = .ok (.invokevirtual 79, 3) := by decide +kernel
theorem dL_hopMinutes_7 : decode cL_hopMinutes 7 = .ok (.i2l, 1) := by decide +kernel
theorem dL_hopMinutes_8 : decode cL_hopMinutes 8 = .ok (.lastore, 1) := by decide +kernel
theorem dL_hopMinutes_9 : decode cL_hopMinutes 9 = .ok (.goto 6, 3) := by decide +kernel
theorem dL_hopMinutes_12 : decode cL_hopMinutes 12 = .ok (.astore_n 3, 1) := by decide +kernel
theorem dL_hopMinutes_13 : decode cL_hopMinutes 13 = .ok (.iconst 1, 1) := by decide +kernel
theorem dL_hopMinutes_14 : decode cL_hopMinutes 14 = .ok (.ireturn, 1) := by decide +kernel
theorem dL_hopMinutes_15 : decode cL_hopMinutes 15 = .ok (.iconst 0, 1) := by decide +kernel
theorem dL_hopMinutes_16 : decode cL_hopMinutes 16 = .ok (.ireturn, 1) := by decide +kernel
theorem dL_runs_0 : decode cL_runs 0 = .ok (.aload_n 2, 1) := by decide +kernel
theorem dL_runs_1 : decode cL_runs 1 = .ok (.iconst 0, 1) := by decide +kernel
theorem dL_runs_2 : decode cL_runs 2 = .ok (.aload_n 0, 1) := by decide +kernel
theorem dL_runs_3 : decode cL_runs 3 = .ok (.iload_n 1, 1) := by decide +kernel
theorem dL_runs_4 : decode cL_runs 4 = .ok (.invokevirtual 82, 3) := by decide +kernel
theorem dL_runs_7 : decode cL_runs 7 = .ok (.ifCond .eq 7, 3) := by decide +kernel
theorem dL_runs_10 : decode cL_runs 10 = .ok (.lconst 1, 1) := by decide +kernel
theorem dL_runs_11 : decode cL_runs 11 = .ok (.goto 4, 3) := by decide +kernel
theorem dL_runs_14 : decode cL_runs 14 = .ok (.lconst 0, 1) := by decide +kernel
theorem dL_runs_15 : decode cL_runs 15 = .ok (.lastore, 1) := by decide +kernel
theorem dL_runs_16 : decode cL_runs 16 = .ok (.goto 6, 3) := by decide +kernel
theorem dL_runs_19 : decode cL_runs 19 = .ok (.astore_n 3, 1) := by decide +kernel
theorem dL_runs_20 : decode cL_runs 20 = .ok (.iconst 1, 1) := by decide +kernel
theorem dL_runs_21 : decode cL_runs 21 = .ok (.ireturn, 1) := by decide +kernel
theorem dL_runs_22 : decode cL_runs 22 = .ok (.iconst 0, 1) := by decide +kernel
theorem dL_runs_23 : decode cL_runs 23 = .ok (.ireturn, 1) := by decide +kernel
theorem dL_tripMinute_0 : decode cL_tripMinute 0 = .ok (.aload 4, 2) := by decide +kernel
theorem dL_tripMinute_2 : decode cL_tripMinute 2 = .ok (.iconst 0, 1) := by decide +kernel
theorem dL_tripMinute_3 : decode cL_tripMinute 3 = .ok (.aload_n 0, 1) := by decide +kernel
theorem dL_tripMinute_4 : decode cL_tripMinute 4 = .ok (.iload_n 1, 1) := by decide +kernel
theorem dL_tripMinute_5 : decode cL_tripMinute 5 = .ok (.iload_n 2, 1) := by decide +kernel
theorem dL_tripMinute_6 : decode cL_tripMinute 6 = .ok (.iload_n 3, 1) := by decide +kernel
theorem dL_tripMinute_7 : decode cL_tripMinute 7 = .ok (.invokevirtual 85, 3) := by decide +kernel
theorem dL_tripMinute_10 : decode cL_tripMinute 10 = .ok (.i2l, 1) := by decide +kernel
theorem dL_tripMinute_11 : decode cL_tripMinute 11 = .ok (.lastore, 1) := by decide +kernel
theorem dL_tripMinute_12 : decode cL_tripMinute 12 = .ok (.goto 15, 3) := by decide +kernel
theorem dL_tripMinute_15 : decode cL_tripMinute 15 = .ok (.astore 5, 2) := by decide +kernel
theorem dL_tripMinute_17 : decode cL_tripMinute 17 = .ok (.iconst 1, 1) := by decide +kernel
theorem dL_tripMinute_18 : decode cL_tripMinute 18 = .ok (.ireturn, 1) := by decide +kernel
theorem dL_tripMinute_19 : decode cL_tripMinute 19 = .ok (.astore 5, 2) := by decide +kernel
theorem dL_tripMinute_21 : decode cL_tripMinute 21 = .ok (.iconst 2, 1) := by decide +kernel
theorem dL_tripMinute_22 : decode cL_tripMinute 22 = .ok (.ireturn, 1) := by decide +kernel
theorem dL_tripMinute_23 : decode cL_tripMinute 23 = .ok (.astore 5, 2) := by decide +kernel
theorem dL_tripMinute_25 : decode cL_tripMinute 25 = .ok (.iconst 3, 1) := by decide +kernel
theorem dL_tripMinute_26 : decode cL_tripMinute 26 = .ok (.ireturn, 1) := by decide +kernel
theorem dL_tripMinute_27 : decode cL_tripMinute 27 = .ok (.iconst 0, 1) := by decide +kernel
theorem dL_tripMinute_28 : decode cL_tripMinute 28 = .ok (.ireturn, 1) := by decide +kernel
theorem dL_nextTrip_0 : decode cL_nextTrip 0 = .ok (.aload 4, 2) := by decide +kernel
theorem dL_nextTrip_2 : decode cL_nextTrip 2 = .ok (.iconst 0, 1) := by decide +kernel
theorem dL_nextTrip_3 : decode cL_nextTrip 3 = .ok (.aload_n 0, 1) := by decide +kernel
theorem dL_nextTrip_4 : decode cL_nextTrip 4 = .ok (.iload_n 1, 1) := by decide +kernel
theorem dL_nextTrip_5 : decode cL_nextTrip 5 = .ok (.iload_n 2, 1) := by decide +kernel
theorem dL_nextTrip_6 : decode cL_nextTrip 6 = .ok (.iload_n 3, 1) := by decide +kernel
theorem dL_nextTrip_7 : decode cL_nextTrip 7 = .ok (.invokevirtual 88, 3) := by decide +kernel
theorem dL_nextTrip_10 : decode cL_nextTrip 10 = .ok (.i2l, 1) := by decide +kernel
theorem dL_nextTrip_11 : decode cL_nextTrip 11 = .ok (.lastore, 1) := by decide +kernel
theorem dL_nextTrip_12 : decode cL_nextTrip 12 = .ok (.goto 15, 3) := by decide +kernel
theorem dL_nextTrip_15 : decode cL_nextTrip 15 = .ok (.astore 5, 2) := by decide +kernel
theorem dL_nextTrip_17 : decode cL_nextTrip 17 = .ok (.iconst 1, 1) := by decide +kernel
theorem dL_nextTrip_18 : decode cL_nextTrip 18 = .ok (.ireturn, 1) := by decide +kernel
theorem dL_nextTrip_19 : decode cL_nextTrip 19 = .ok (.astore 5, 2) := by decide +kernel
theorem dL_nextTrip_21 : decode cL_nextTrip 21 = .ok (.iconst 2, 1) := by decide +kernel
theorem dL_nextTrip_22 : decode cL_nextTrip 22 = .ok (.ireturn, 1) := by decide +kernel
theorem dL_nextTrip_23 : decode cL_nextTrip 23 = .ok (.astore 5, 2) := by decide +kernel
theorem dL_nextTrip_25 : decode cL_nextTrip 25 = .ok (.iconst 3, 1) := by decide +kernel
theorem dL_nextTrip_26 : decode cL_nextTrip 26 = .ok (.ireturn, 1) := by decide +kernel
theorem dL_nextTrip_27 : decode cL_nextTrip 27 = .ok (.iconst 0, 1) := by decide +kernel
theorem dL_nextTrip_28 : decode cL_nextTrip 28 = .ok (.ireturn, 1) := by decide +kernel
theorem dL_nextTripBySearch_0 : decode cL_nextTripBySearch 0 = .ok (.aload 4, 2) := by decide +kernel
theorem dL_nextTripBySearch_2 : decode cL_nextTripBySearch 2 = .ok (.iconst 0, 1) := by decide +kernel
theorem dL_nextTripBySearch_3 : decode cL_nextTripBySearch 3 = .ok (.aload_n 0, 1) := by decide +kernel
theorem dL_nextTripBySearch_4 : decode cL_nextTripBySearch 4 = .ok (.iload_n 1, 1) := by decide +kernel
theorem dL_nextTripBySearch_5 : decode cL_nextTripBySearch 5 = .ok (.iload_n 2, 1) := by decide +kernel
theorem dL_nextTripBySearch_6 : decode cL_nextTripBySearch 6 = .ok (.iload_n 3, 1) := by decide +kernel
theorem dL_nextTripBySearch_7 : decode cL_nextTripBySearch 7 = .ok (.invokevirtual 91, 3) := by decide +kernel
theorem dL_nextTripBySearch_10 : decode cL_nextTripBySearch 10 = .ok (.i2l, 1) := by decide +kernel
theorem dL_nextTripBySearch_11 : decode cL_nextTripBySearch 11 = .ok (.lastore, 1) := by decide +kernel
theorem dL_nextTripBySearch_12 : decode cL_nextTripBySearch 12 = .ok (.goto 15, 3) := by decide +kernel
theorem dL_nextTripBySearch_15 : decode cL_nextTripBySearch 15 = .ok (.astore 5, 2) := by decide +kernel
theorem dL_nextTripBySearch_17 : decode cL_nextTripBySearch 17 = .ok (.iconst 1, 1) := by decide +kernel
theorem dL_nextTripBySearch_18 : decode cL_nextTripBySearch 18 = .ok (.ireturn, 1) := by decide +kernel
theorem dL_nextTripBySearch_19 : decode cL_nextTripBySearch 19 = .ok (.astore 5, 2) := by decide +kernel
theorem dL_nextTripBySearch_21 : decode cL_nextTripBySearch 21 = .ok (.iconst 2, 1) := by decide +kernel
theorem dL_nextTripBySearch_22 : decode cL_nextTripBySearch 22 = .ok (.ireturn, 1) := by decide +kernel
theorem dL_nextTripBySearch_23 : decode cL_nextTripBySearch 23 = .ok (.astore 5, 2) := by decide +kernel
theorem dL_nextTripBySearch_25 : decode cL_nextTripBySearch 25 = .ok (.iconst 3, 1) := by decide +kernel
theorem dL_nextTripBySearch_26 : decode cL_nextTripBySearch 26 = .ok (.ireturn, 1) := by decide +kernel
theorem dL_nextTripBySearch_27 : decode cL_nextTripBySearch 27 = .ok (.iconst 0, 1) := by decide +kernel
theorem dL_nextTripBySearch_28 : decode cL_nextTripBySearch 28 = .ok (.ireturn, 1) := by decide +kernel
theorem dL_earliestArrival_0 : decode cL_earliestArrival 0 = .ok (.aload 4, 2) := by decide +kernel
theorem dL_earliestArrival_2 : decode cL_earliestArrival 2 = .ok (.iconst 0, 1) := by decide +kernel
theorem dL_earliestArrival_3 : decode cL_earliestArrival 3 = .ok (.aload_n 0, 1) := by decide +kernel
theorem dL_earliestArrival_4 : decode cL_earliestArrival 4 = .ok (.iload_n 1, 1) := by decide +kernel
theorem dL_earliestArrival_5 : decode cL_earliestArrival 5 = .ok (.iload_n 2, 1) := by decide +kernel
theorem dL_earliestArrival_6 : decode cL_earliestArrival 6 = .ok (.iload_n 3, 1) := by decide +kernel
theorem dL_earliestArrival_7 : decode cL_earliestArrival 7 = .ok (.invokevirtual 94, 3) := by decide +kernel
theorem dL_earliestArrival_10 : decode cL_earliestArrival 10 = .ok (.i2l, 1) := by decide +kernel
theorem dL_earliestArrival_11 : decode cL_earliestArrival 11 = .ok (.lastore, 1) := by decide +kernel
theorem dL_earliestArrival_12 : decode cL_earliestArrival 12 = .ok (.goto 15, 3) := by decide +kernel
theorem dL_earliestArrival_15 : decode cL_earliestArrival 15 = .ok (.astore 5, 2) := by decide +kernel
theorem dL_earliestArrival_17 : decode cL_earliestArrival 17 = .ok (.iconst 1, 1) := by decide +kernel
theorem dL_earliestArrival_18 : decode cL_earliestArrival 18 = .ok (.ireturn, 1) := by decide +kernel
theorem dL_earliestArrival_19 : decode cL_earliestArrival 19 = .ok (.astore 5, 2) := by decide +kernel
theorem dL_earliestArrival_21 : decode cL_earliestArrival 21 = .ok (.iconst 2, 1) := by decide +kernel
theorem dL_earliestArrival_22 : decode cL_earliestArrival 22 = .ok (.ireturn, 1) := by decide +kernel
theorem dL_earliestArrival_23 : decode cL_earliestArrival 23 = .ok (.astore 5, 2) := by decide +kernel
theorem dL_earliestArrival_25 : decode cL_earliestArrival 25 = .ok (.iconst 3, 1) := by decide +kernel
theorem dL_earliestArrival_26 : decode cL_earliestArrival 26 = .ok (.ireturn, 1) := by decide +kernel
theorem dL_earliestArrival_27 : decode cL_earliestArrival 27 = .ok (.iconst 0, 1) := by decide +kernel
theorem dL_earliestArrival_28 : decode cL_earliestArrival 28 = .ok (.ireturn, 1) := by decide +kernel
theorem dL_earliestArrivalByRounds_0 : decode cL_earliestArrivalByRounds 0 = .ok (.aload 4, 2) := by decide +kernel
theorem dL_earliestArrivalByRounds_2 : decode cL_earliestArrivalByRounds 2 = .ok (.iconst 0, 1) := by decide +kernel
theorem dL_earliestArrivalByRounds_3 : decode cL_earliestArrivalByRounds 3 = .ok (.aload_n 0, 1) := by decide +kernel
theorem dL_earliestArrivalByRounds_4 : decode cL_earliestArrivalByRounds 4 = .ok (.iload_n 1, 1) := by decide +kernel
theorem dL_earliestArrivalByRounds_5 : decode cL_earliestArrivalByRounds 5 = .ok (.iload_n 2, 1) := by decide +kernel
theorem dL_earliestArrivalByRounds_6 : decode cL_earliestArrivalByRounds 6 = .ok (.iload_n 3, 1) := by decide +kernel
theorem dL_earliestArrivalByRounds_7 : decode cL_earliestArrivalByRounds 7 = .ok (.invokevirtual 97, 3) := by decide +kernel
theorem dL_earliestArrivalByRounds_10 : decode cL_earliestArrivalByRounds 10 = .ok (.i2l, 1) := by decide +kernel
theorem dL_earliestArrivalByRounds_11 : decode cL_earliestArrivalByRounds 11 = .ok (.lastore, 1) := by decide +kernel
theorem dL_earliestArrivalByRounds_12 : decode cL_earliestArrivalByRounds 12 = .ok (.goto 15, 3) := by decide +kernel
theorem dL_earliestArrivalByRounds_15 : decode cL_earliestArrivalByRounds 15 = .ok (.astore 5, 2) := by decide +kernel
theorem dL_earliestArrivalByRounds_17 : decode cL_earliestArrivalByRounds 17 = .ok (.iconst 1, 1) := by decide +kernel
theorem dL_earliestArrivalByRounds_18 : decode cL_earliestArrivalByRounds 18 = .ok (.ireturn, 1) := by decide +kernel
theorem dL_earliestArrivalByRounds_19 : decode cL_earliestArrivalByRounds 19 = .ok (.astore 5, 2) := by decide +kernel
theorem dL_earliestArrivalByRounds_21 : decode cL_earliestArrivalByRounds 21 = .ok (.iconst 2, 1) := by decide +kernel
theorem dL_earliestArrivalByRounds_22 : decode cL_earliestArrivalByRounds 22 = .ok (.ireturn, 1) := by decide +kernel
theorem dL_earliestArrivalByRounds_23 : decode cL_earliestArrivalByRounds 23 = .ok (.astore 5, 2) := by decide +kernel
theorem dL_earliestArrivalByRounds_25 : decode cL_earliestArrivalByRounds 25 = .ok (.iconst 3, 1) := by decide +kernel
theorem dL_earliestArrivalByRounds_26 : decode cL_earliestArrivalByRounds 26 = .ok (.ireturn, 1) := by decide +kernel
theorem dL_earliestArrivalByRounds_27 : decode cL_earliestArrivalByRounds 27 = .ok (.iconst 0, 1) := by decide +kernel
theorem dL_earliestArrivalByRounds_28 : decode cL_earliestArrivalByRounds 28 = .ok (.ireturn, 1) := by decide +kernel
theorem dL_fewestBoardings_0 : decode cL_fewestBoardings 0 = .ok (.aload_n 3, 1) := by decide +kernel
theorem dL_fewestBoardings_1 : decode cL_fewestBoardings 1 = .ok (.iconst 0, 1) := by decide +kernel
theorem dL_fewestBoardings_2 : decode cL_fewestBoardings 2 = .ok (.aload_n 0, 1) := by decide +kernel
theorem dL_fewestBoardings_3 : decode cL_fewestBoardings 3 = .ok (.iload_n 1, 1) := by decide +kernel
theorem dL_fewestBoardings_4 : decode cL_fewestBoardings 4 = .ok (.iload_n 2, 1) := by decide +kernel
theorem dL_fewestBoardings_5 : decode cL_fewestBoardings 5 = .ok (.invokevirtual 100, 3) := by decide +kernel
theorem dL_fewestBoardings_8 : decode cL_fewestBoardings 8 = .ok (.i2l, 1) := by decide +kernel
theorem dL_fewestBoardings_9 : decode cL_fewestBoardings 9 = .ok (.lastore, 1) := by decide +kernel
theorem dL_fewestBoardings_10 : decode cL_fewestBoardings 10 = .ok (.goto 11, 3) := by decide +kernel
theorem dL_fewestBoardings_13 : decode cL_fewestBoardings 13 = .ok (.astore 4, 2) := by decide +kernel
theorem dL_fewestBoardings_15 : decode cL_fewestBoardings 15 = .ok (.iconst 1, 1) := by decide +kernel
theorem dL_fewestBoardings_16 : decode cL_fewestBoardings 16 = .ok (.ireturn, 1) := by decide +kernel
theorem dL_fewestBoardings_17 : decode cL_fewestBoardings 17 = .ok (.astore 4, 2) := by decide +kernel
theorem dL_fewestBoardings_19 : decode cL_fewestBoardings 19 = .ok (.iconst 2, 1) := by decide +kernel
theorem dL_fewestBoardings_20 : decode cL_fewestBoardings 20 = .ok (.ireturn, 1) := by decide +kernel
theorem dL_fewestBoardings_21 : decode cL_fewestBoardings 21 = .ok (.iconst 0, 1) := by decide +kernel
theorem dL_fewestBoardings_22 : decode cL_fewestBoardings 22 = .ok (.ireturn, 1) := by decide +kernel
theorem dL_fewestBoardingsByTable_0 : decode cL_fewestBoardingsByTable 0 = .ok (.aload_n 3, 1) := by decide +kernel
theorem dL_fewestBoardingsByTable_1 : decode cL_fewestBoardingsByTable 1 = .ok (.iconst 0, 1) := by decide +kernel
theorem dL_fewestBoardingsByTable_2 : decode cL_fewestBoardingsByTable 2 = .ok (.aload_n 0, 1) := by decide +kernel
theorem dL_fewestBoardingsByTable_3 : decode cL_fewestBoardingsByTable 3 = .ok (.iload_n 1, 1) := by decide +kernel
theorem dL_fewestBoardingsByTable_4 : decode cL_fewestBoardingsByTable 4 = .ok (.iload_n 2, 1) := by decide +kernel
theorem dL_fewestBoardingsByTable_5 : decode cL_fewestBoardingsByTable 5 = .ok (.invokevirtual 103, 3) := by decide +kernel
theorem dL_fewestBoardingsByTable_8 : decode cL_fewestBoardingsByTable 8 = .ok (.i2l, 1) := by decide +kernel
theorem dL_fewestBoardingsByTable_9 : decode cL_fewestBoardingsByTable 9 = .ok (.lastore, 1) := by decide +kernel
theorem dL_fewestBoardingsByTable_10 : decode cL_fewestBoardingsByTable 10 = .ok (.goto 11, 3) := by decide +kernel
theorem dL_fewestBoardingsByTable_13 : decode cL_fewestBoardingsByTable 13 = .ok (.astore 4, 2) := by decide +kernel
theorem dL_fewestBoardingsByTable_15 : decode cL_fewestBoardingsByTable 15 = .ok (.iconst 1, 1) := by decide +kernel
theorem dL_fewestBoardingsByTable_16 : decode cL_fewestBoardingsByTable 16 = .ok (.ireturn, 1) := by decide +kernel
theorem dL_fewestBoardingsByTable_17 : decode cL_fewestBoardingsByTable 17 = .ok (.astore 4, 2) := by decide +kernel
theorem dL_fewestBoardingsByTable_19 : decode cL_fewestBoardingsByTable 19 = .ok (.iconst 2, 1) := by decide +kernel
theorem dL_fewestBoardingsByTable_20 : decode cL_fewestBoardingsByTable 20 = .ok (.ireturn, 1) := by decide +kernel
theorem dL_fewestBoardingsByTable_21 : decode cL_fewestBoardingsByTable 21 = .ok (.iconst 0, 1) := by decide +kernel
theorem dL_fewestBoardingsByTable_22 : decode cL_fewestBoardingsByTable 22 = .ok (.ireturn, 1) := by decide +kernel
theorem dL_flow_0 : decode cL_flow 0 = .ok (.aload_n 3, 1) := by decide +kernel
theorem dL_flow_1 : decode cL_flow 1 = .ok (.iconst 0, 1) := by decide +kernel
theorem dL_flow_2 : decode cL_flow 2 = .ok (.aload_n 0, 1) := by decide +kernel
theorem dL_flow_3 : decode cL_flow 3 = .ok (.iload_n 1, 1) := by decide +kernel
theorem dL_flow_4 : decode cL_flow 4 = .ok (.iload_n 2, 1) := by decide +kernel
theorem dL_flow_5 : decode cL_flow 5 = .ok (.invokevirtual 106, 3) := by decide +kernel
theorem dL_flow_8 : decode cL_flow 8 = .ok (.i2l, 1) := by decide +kernel
theorem dL_flow_9 : decode cL_flow 9 = .ok (.lastore, 1) := by decide +kernel
theorem dL_flow_10 : decode cL_flow 10 = .ok (.goto 11, 3) := by decide +kernel
theorem dL_flow_13 : decode cL_flow 13 = .ok (.astore 4, 2) := by decide +kernel
theorem dL_flow_15 : decode cL_flow 15 = .ok (.iconst 1, 1) := by decide +kernel
theorem dL_flow_16 : decode cL_flow 16 = .ok (.ireturn, 1) := by decide +kernel
theorem dL_flow_17 : decode cL_flow 17 = .ok (.astore 4, 2) := by decide +kernel
theorem dL_flow_19 : decode cL_flow 19 = .ok (.iconst 2, 1) := by decide +kernel
theorem dL_flow_20 : decode cL_flow 20 = .ok (.ireturn, 1) := by decide +kernel
theorem dL_flow_21 : decode cL_flow 21 = .ok (.iconst 0, 1) := by decide +kernel
theorem dL_flow_22 : decode cL_flow 22 = .ok (.ireturn, 1) := by decide +kernel
theorem dL_smallestCut_0 : decode cL_smallestCut 0 = .ok (.aload_n 3, 1) := by decide +kernel
theorem dL_smallestCut_1 : decode cL_smallestCut 1 = .ok (.iconst 0, 1) := by decide +kernel
theorem dL_smallestCut_2 : decode cL_smallestCut 2 = .ok (.aload_n 0, 1) := by decide +kernel
theorem dL_smallestCut_3 : decode cL_smallestCut 3 = .ok (.iload_n 1, 1) := by decide +kernel
theorem dL_smallestCut_4 : decode cL_smallestCut 4 = .ok (.iload_n 2, 1) := by decide +kernel
theorem dL_smallestCut_5 : decode cL_smallestCut 5 = .ok (.invokevirtual 109, 3) := by decide +kernel
theorem dL_smallestCut_8 : decode cL_smallestCut 8 = .ok (.i2l, 1) := by decide +kernel
theorem dL_smallestCut_9 : decode cL_smallestCut 9 = .ok (.lastore, 1) := by decide +kernel
theorem dL_smallestCut_10 : decode cL_smallestCut 10 = .ok (.goto 11, 3) := by decide +kernel
theorem dL_smallestCut_13 : decode cL_smallestCut 13 = .ok (.astore 4, 2) := by decide +kernel
theorem dL_smallestCut_15 : decode cL_smallestCut 15 = .ok (.iconst 1, 1) := by decide +kernel
theorem dL_smallestCut_16 : decode cL_smallestCut 16 = .ok (.ireturn, 1) := by decide +kernel
theorem dL_smallestCut_17 : decode cL_smallestCut 17 = .ok (.astore 4, 2) := by decide +kernel
theorem dL_smallestCut_19 : decode cL_smallestCut 19 = .ok (.iconst 2, 1) := by decide +kernel
theorem dL_smallestCut_20 : decode cL_smallestCut 20 = .ok (.ireturn, 1) := by decide +kernel
theorem dL_smallestCut_21 : decode cL_smallestCut 21 = .ok (.iconst 0, 1) := by decide +kernel
theorem dL_smallestCut_22 : decode cL_smallestCut 22 = .ok (.ireturn, 1) := by decide +kernel
theorem dL_freeSeats_0 : decode cL_freeSeats 0 = .ok (.aload 5, 2) := by decide +kernel
theorem dL_freeSeats_2 : decode cL_freeSeats 2 = .ok (.iconst 0, 1) := by decide +kernel
theorem dL_freeSeats_3 : decode cL_freeSeats 3 = .ok (.aload_n 0, 1) := by decide +kernel
theorem dL_freeSeats_4 : decode cL_freeSeats 4 = .ok (.iload_n 1, 1) := by decide +kernel
theorem dL_freeSeats_5 : decode cL_freeSeats 5 = .ok (.iload_n 2, 1) := by decide +kernel
theorem dL_freeSeats_6 : decode cL_freeSeats 6 = .ok (.iload_n 3, 1) := by decide +kernel
theorem dL_freeSeats_7 : decode cL_freeSeats 7 = .ok (.iload 4, 2) := by decide +kernel
theorem dL_freeSeats_9 : decode cL_freeSeats 9 = .ok (.invokevirtual 112, 3) := by decide +kernel
theorem dL_freeSeats_12 : decode cL_freeSeats 12 = .ok (.i2l, 1) := by decide +kernel
theorem dL_freeSeats_13 : decode cL_freeSeats 13 = .ok (.lastore, 1) := by decide +kernel
theorem dL_freeSeats_14 : decode cL_freeSeats 14 = .ok (.goto 11, 3) := by decide +kernel
theorem dL_freeSeats_17 : decode cL_freeSeats 17 = .ok (.astore 6, 2) := by decide +kernel
theorem dL_freeSeats_19 : decode cL_freeSeats 19 = .ok (.iconst 1, 1) := by decide +kernel
theorem dL_freeSeats_20 : decode cL_freeSeats 20 = .ok (.ireturn, 1) := by decide +kernel
theorem dL_freeSeats_21 : decode cL_freeSeats 21 = .ok (.astore 6, 2) := by decide +kernel
theorem dL_freeSeats_23 : decode cL_freeSeats 23 = .ok (.iconst 2, 1) := by decide +kernel
theorem dL_freeSeats_24 : decode cL_freeSeats 24 = .ok (.ireturn, 1) := by decide +kernel
theorem dL_freeSeats_25 : decode cL_freeSeats 25 = .ok (.iconst 0, 1) := by decide +kernel
theorem dL_freeSeats_26 : decode cL_freeSeats 26 = .ok (.ireturn, 1) := by decide +kernel
theorem dL_freeSeatsBySweep_0 : decode cL_freeSeatsBySweep 0 = .ok (.aload 5, 2) := by decide +kernel
theorem dL_freeSeatsBySweep_2 : decode cL_freeSeatsBySweep 2 = .ok (.iconst 0, 1) := by decide +kernel
theorem dL_freeSeatsBySweep_3 : decode cL_freeSeatsBySweep 3 = .ok (.aload_n 0, 1) := by decide +kernel
theorem dL_freeSeatsBySweep_4 : decode cL_freeSeatsBySweep 4 = .ok (.iload_n 1, 1) := by decide +kernel
theorem dL_freeSeatsBySweep_5 : decode cL_freeSeatsBySweep 5 = .ok (.iload_n 2, 1) := by decide +kernel
theorem dL_freeSeatsBySweep_6 : decode cL_freeSeatsBySweep 6 = .ok (.iload_n 3, 1) := by decide +kernel
theorem dL_freeSeatsBySweep_7 : decode cL_freeSeatsBySweep 7 = .ok (.iload 4, 2) := by decide +kernel
theorem dL_freeSeatsBySweep_9 : decode cL_freeSeatsBySweep 9 = .ok (.invokevirtual 115, 3) := by decide +kernel
theorem dL_freeSeatsBySweep_12 : decode cL_freeSeatsBySweep 12 = .ok (.i2l, 1) := by decide +kernel
theorem dL_freeSeatsBySweep_13 : decode cL_freeSeatsBySweep 13 = .ok (.lastore, 1) := by decide +kernel
theorem dL_freeSeatsBySweep_14 : decode cL_freeSeatsBySweep 14 = .ok (.goto 11, 3) := by decide +kernel
theorem dL_freeSeatsBySweep_17 : decode cL_freeSeatsBySweep 17 = .ok (.astore 6, 2) := by decide +kernel
theorem dL_freeSeatsBySweep_19 : decode cL_freeSeatsBySweep 19 = .ok (.iconst 1, 1) := by decide +kernel
theorem dL_freeSeatsBySweep_20 : decode cL_freeSeatsBySweep 20 = .ok (.ireturn, 1) := by decide +kernel
theorem dL_freeSeatsBySweep_21 : decode cL_freeSeatsBySweep 21 = .ok (.astore 6, 2) := by decide +kernel
theorem dL_freeSeatsBySweep_23 : decode cL_freeSeatsBySweep 23 = .ok (.iconst 2, 1) := by decide +kernel
theorem dL_freeSeatsBySweep_24 : decode cL_freeSeatsBySweep 24 = .ok (.ireturn, 1) := by decide +kernel
theorem dL_freeSeatsBySweep_25 : decode cL_freeSeatsBySweep 25 = .ok (.iconst 0, 1) := by decide +kernel
theorem dL_freeSeatsBySweep_26 : decode cL_freeSeatsBySweep 26 = .ok (.ireturn, 1) := by decide +kernel
theorem dL_ticketAt_0 : decode cL_ticketAt 0 = .ok (.aload_n 2, 1) := by decide +kernel
theorem dL_ticketAt_1 : decode cL_ticketAt 1 = .ok (.iconst 0, 1) := by decide +kernel
theorem dL_ticketAt_2 : decode cL_ticketAt 2 = .ok (.aload_n 0, 1) := by decide +kernel
theorem dL_ticketAt_3 : decode cL_ticketAt 3 = .ok (.iload_n 1, 1) := by decide +kernel
theorem dL_ticketAt_4 : decode cL_ticketAt 4 = .ok (.invokevirtual 118, 3) := by decide +kernel
theorem dL_ticketAt_7 : decode cL_ticketAt 7 = .ok (.i2l, 1) := by decide +kernel
theorem dL_ticketAt_8 : decode cL_ticketAt 8 = .ok (.lastore, 1) := by decide +kernel
theorem dL_ticketAt_9 : decode cL_ticketAt 9 = .ok (.goto 6, 3) := by decide +kernel
theorem dL_ticketAt_12 : decode cL_ticketAt 12 = .ok (.astore_n 3, 1) := by decide +kernel
theorem dL_ticketAt_13 : decode cL_ticketAt 13 = .ok (.iconst 1, 1) := by decide +kernel
theorem dL_ticketAt_14 : decode cL_ticketAt 14 = .ok (.ireturn, 1) := by decide +kernel
theorem dL_ticketAt_15 : decode cL_ticketAt 15 = .ok (.iconst 0, 1) := by decide +kernel
theorem dL_ticketAt_16 : decode cL_ticketAt 16 = .ok (.ireturn, 1) := by decide +kernel
theorem dL_ticketLine_0 : decode cL_ticketLine 0 = .ok (.aload_n 2, 1) := by decide +kernel
theorem dL_ticketLine_1 : decode cL_ticketLine 1 = .ok (.iconst 0, 1) := by decide +kernel
theorem dL_ticketLine_2 : decode cL_ticketLine 2 = .ok (.aload_n 0, 1) := by decide +kernel
theorem dL_ticketLine_3 : decode cL_ticketLine 3 = .ok (.iload_n 1, 1) := by decide +kernel
theorem dL_ticketLine_4 : decode cL_ticketLine 4 = .ok (.invokevirtual 121, 3) := by decide +kernel
theorem dL_ticketLine_7 : decode cL_ticketLine 7 = .ok (.i2l, 1) := by decide +kernel
theorem dL_ticketLine_8 : decode cL_ticketLine 8 = .ok (.lastore, 1) := by decide +kernel
theorem dL_ticketLine_9 : decode cL_ticketLine 9 = .ok (.goto 6, 3) := by decide +kernel
theorem dL_ticketLine_12 : decode cL_ticketLine 12 = .ok (.astore_n 3, 1) := by decide +kernel
theorem dL_ticketLine_13 : decode cL_ticketLine 13 = .ok (.iconst 1, 1) := by decide +kernel
theorem dL_ticketLine_14 : decode cL_ticketLine 14 = .ok (.ireturn, 1) := by decide +kernel
theorem dL_ticketLine_15 : decode cL_ticketLine 15 = .ok (.iconst 0, 1) := by decide +kernel
theorem dL_ticketLine_16 : decode cL_ticketLine 16 = .ok (.ireturn, 1) := by decide +kernel
theorem dL_ticketTrip_0 : decode cL_ticketTrip 0 = .ok (.aload_n 2, 1) := by decide +kernel
theorem dL_ticketTrip_1 : decode cL_ticketTrip 1 = .ok (.iconst 0, 1) := by decide +kernel
theorem dL_ticketTrip_2 : decode cL_ticketTrip 2 = .ok (.aload_n 0, 1) := by decide +kernel
theorem dL_ticketTrip_3 : decode cL_ticketTrip 3 = .ok (.iload_n 1, 1) := by decide +kernel
theorem dL_ticketTrip_4 : decode cL_ticketTrip 4 = .ok (.invokevirtual 124, 3) := by decide +kernel
theorem dL_ticketTrip_7 : decode cL_ticketTrip 7 = .ok (.i2l, 1) := by decide +kernel
theorem dL_ticketTrip_8 : decode cL_ticketTrip 8 = .ok (.lastore, 1) := by decide +kernel
theorem dL_ticketTrip_9 : decode cL_ticketTrip 9 = .ok (.goto 6, 3) := by decide +kernel
theorem dL_ticketTrip_12 : decode cL_ticketTrip 12 = .ok (.astore_n 3, 1) := by decide +kernel
theorem dL_ticketTrip_13 : decode cL_ticketTrip 13 = .ok (.iconst 1, 1) := by decide +kernel
theorem dL_ticketTrip_14 : decode cL_ticketTrip 14 = .ok (.ireturn, 1) := by decide +kernel
theorem dL_ticketTrip_15 : decode cL_ticketTrip 15 = .ok (.iconst 0, 1) := by decide +kernel
theorem dL_ticketTrip_16 : decode cL_ticketTrip 16 = .ok (.ireturn, 1) := by decide +kernel
theorem dL_ticketFrom_0 : decode cL_ticketFrom 0 = .ok (.aload_n 2, 1) := by decide +kernel
theorem dL_ticketFrom_1 : decode cL_ticketFrom 1 = .ok (.iconst 0, 1) := by decide +kernel
theorem dL_ticketFrom_2 : decode cL_ticketFrom 2 = .ok (.aload_n 0, 1) := by decide +kernel
theorem dL_ticketFrom_3 : decode cL_ticketFrom 3 = .ok (.iload_n 1, 1) := by decide +kernel
theorem dL_ticketFrom_4 : decode cL_ticketFrom 4 = .ok (.invokevirtual 127, 3) := by decide +kernel
theorem dL_ticketFrom_7 : decode cL_ticketFrom 7 = .ok (.i2l, 1) := by decide +kernel
theorem dL_ticketFrom_8 : decode cL_ticketFrom 8 = .ok (.lastore, 1) := by decide +kernel
theorem dL_ticketFrom_9 : decode cL_ticketFrom 9 = .ok (.goto 6, 3) := by decide +kernel
theorem dL_ticketFrom_12 : decode cL_ticketFrom 12 = .ok (.astore_n 3, 1) := by decide +kernel
theorem dL_ticketFrom_13 : decode cL_ticketFrom 13 = .ok (.iconst 1, 1) := by decide +kernel
theorem dL_ticketFrom_14 : decode cL_ticketFrom 14 = .ok (.ireturn, 1) := by decide +kernel
theorem dL_ticketFrom_15 : decode cL_ticketFrom 15 = .ok (.iconst 0, 1) := by decide +kernel
theorem dL_ticketFrom_16 : decode cL_ticketFrom 16 = .ok (.ireturn, 1) := by decide +kernel
theorem dL_ticketTo_0 : decode cL_ticketTo 0 = .ok (.aload_n 2, 1) := by decide +kernel
theorem dL_ticketTo_1 : decode cL_ticketTo 1 = .ok (.iconst 0, 1) := by decide +kernel
theorem dL_ticketTo_2 : decode cL_ticketTo 2 = .ok (.aload_n 0, 1) := by decide +kernel
theorem dL_ticketTo_3 : decode cL_ticketTo 3 = .ok (.iload_n 1, 1) := by decide +kernel
theorem dL_ticketTo_4 : decode cL_ticketTo 4 = .ok (.invokevirtual 130, 3) := by decide +kernel
theorem dL_ticketTo_7 : decode cL_ticketTo 7 = .ok (.i2l, 1) := by decide +kernel
theorem dL_ticketTo_8 : decode cL_ticketTo 8 = .ok (.lastore, 1) := by decide +kernel
theorem dL_ticketTo_9 : decode cL_ticketTo 9 = .ok (.goto 6, 3) := by decide +kernel
theorem dL_ticketTo_12 : decode cL_ticketTo 12 = .ok (.astore_n 3, 1) := by decide +kernel
theorem dL_ticketTo_13 : decode cL_ticketTo 13 = .ok (.iconst 1, 1) := by decide +kernel
theorem dL_ticketTo_14 : decode cL_ticketTo 14 = .ok (.ireturn, 1) := by decide +kernel
theorem dL_ticketTo_15 : decode cL_ticketTo 15 = .ok (.iconst 0, 1) := by decide +kernel
theorem dL_ticketTo_16 : decode cL_ticketTo 16 = .ok (.ireturn, 1) := by decide +kernel
theorem dL_ticketPrice_0 : decode cL_ticketPrice 0 = .ok (.aload_n 2, 1) := by decide +kernel
theorem dL_ticketPrice_1 : decode cL_ticketPrice 1 = .ok (.iconst 0, 1) := by decide +kernel
theorem dL_ticketPrice_2 : decode cL_ticketPrice 2 = .ok (.aload_n 0, 1) := by decide +kernel
theorem dL_ticketPrice_3 : decode cL_ticketPrice 3 = .ok (.iload_n 1, 1) := by decide +kernel
theorem dL_ticketPrice_4 : decode cL_ticketPrice 4 = .ok (.invokevirtual 133, 3) := by decide +kernel
theorem dL_ticketPrice_7 : decode cL_ticketPrice 7 = .ok (.i2l, 1) := by decide +kernel
theorem dL_ticketPrice_8 : decode cL_ticketPrice 8 = .ok (.lastore, 1) := by decide +kernel
theorem dL_ticketPrice_9 : decode cL_ticketPrice 9 = .ok (.goto 6, 3) := by decide +kernel
theorem dL_ticketPrice_12 : decode cL_ticketPrice 12 = .ok (.astore_n 3, 1) := by decide +kernel
theorem dL_ticketPrice_13 : decode cL_ticketPrice 13 = .ok (.iconst 1, 1) := by decide +kernel
theorem dL_ticketPrice_14 : decode cL_ticketPrice 14 = .ok (.ireturn, 1) := by decide +kernel
theorem dL_ticketPrice_15 : decode cL_ticketPrice 15 = .ok (.iconst 0, 1) := by decide +kernel
theorem dL_ticketPrice_16 : decode cL_ticketPrice 16 = .ok (.ireturn, 1) := by decide +kernel
theorem dL_lineByTickets_0 : decode cL_lineByTickets 0 = .ok (.aload_n 2, 1) := by decide +kernel
theorem dL_lineByTickets_1 : decode cL_lineByTickets 1 = .ok (.iconst 0, 1) := by decide +kernel
theorem dL_lineByTickets_2 : decode cL_lineByTickets 2 = .ok (.aload_n 0, 1) := by decide +kernel
theorem dL_lineByTickets_3 : decode cL_lineByTickets 3 = .ok (.iload_n 1, 1) := by decide +kernel
theorem dL_lineByTickets_4 : decode cL_lineByTickets 4 = .ok (.invokevirtual 136, 3) := by decide +kernel
theorem dL_lineByTickets_7 : decode cL_lineByTickets 7 = .ok (.i2l, 1) := by decide +kernel
theorem dL_lineByTickets_8 : decode cL_lineByTickets 8 = .ok (.lastore, 1) := by decide +kernel
theorem dL_lineByTickets_9 : decode cL_lineByTickets 9 = .ok (.goto 6, 3) := by decide +kernel
theorem dL_lineByTickets_12 : decode cL_lineByTickets 12 = .ok (.astore_n 3, 1) := by decide +kernel
theorem dL_lineByTickets_13 : decode cL_lineByTickets 13 = .ok (.iconst 1, 1) := by decide +kernel
theorem dL_lineByTickets_14 : decode cL_lineByTickets 14 = .ok (.ireturn, 1) := by decide +kernel
theorem dL_lineByTickets_15 : decode cL_lineByTickets 15 = .ok (.iconst 0, 1) := by decide +kernel
theorem dL_lineByTickets_16 : decode cL_lineByTickets 16 = .ok (.ireturn, 1) := by decide +kernel
theorem dL_stopByLines_0 : decode cL_stopByLines 0 = .ok (.aload_n 2, 1) := by decide +kernel
theorem dL_stopByLines_1 : decode cL_stopByLines 1 = .ok (.iconst 0, 1) := by decide +kernel
theorem dL_stopByLines_2 : decode cL_stopByLines 2 = .ok (.aload_n 0, 1) := by decide +kernel
theorem dL_stopByLines_3 : decode cL_stopByLines 3 = .ok (.iload_n 1, 1) := by decide +kernel
theorem dL_stopByLines_4 : decode cL_stopByLines 4 = .ok (.invokevirtual 139, 3) := by decide +kernel
theorem dL_stopByLines_7 : decode cL_stopByLines 7 = .ok (.i2l, 1) := by decide +kernel
theorem dL_stopByLines_8 : decode cL_stopByLines 8 = .ok (.lastore, 1) := by decide +kernel
theorem dL_stopByLines_9 : decode cL_stopByLines 9 = .ok (.goto 6, 3) := by decide +kernel
theorem dL_stopByLines_12 : decode cL_stopByLines 12 = .ok (.astore_n 3, 1) := by decide +kernel
theorem dL_stopByLines_13 : decode cL_stopByLines 13 = .ok (.iconst 1, 1) := by decide +kernel
theorem dL_stopByLines_14 : decode cL_stopByLines 14 = .ok (.ireturn, 1) := by decide +kernel
theorem dL_stopByLines_15 : decode cL_stopByLines 15 = .ok (.iconst 0, 1) := by decide +kernel
theorem dL_stopByLines_16 : decode cL_stopByLines 16 = .ok (.ireturn, 1) := by decide +kernel
theorem dL_meanPrice_0 : decode cL_meanPrice 0 = .ok (.aload_n 1, 1) := by decide +kernel
theorem dL_meanPrice_1 : decode cL_meanPrice 1 = .ok (.iconst 0, 1) := by decide +kernel
theorem dL_meanPrice_2 : decode cL_meanPrice 2 = .ok (.aload_n 0, 1) := by decide +kernel
theorem dL_meanPrice_3 : decode cL_meanPrice 3 = .ok (.invokevirtual 142, 3) := by decide +kernel
theorem dL_meanPrice_6 : decode cL_meanPrice 6 = .ok (.dastore, 1) := by decide +kernel
theorem dL_meanPrice_7 : decode cL_meanPrice 7 = .ok (.goto 6, 3) := by decide +kernel
theorem dL_meanPrice_10 : decode cL_meanPrice 10 = .ok (.astore_n 2, 1) := by decide +kernel
theorem dL_meanPrice_11 : decode cL_meanPrice 11 = .ok (.iconst 1, 1) := by decide +kernel
theorem dL_meanPrice_12 : decode cL_meanPrice 12 = .ok (.ireturn, 1) := by decide +kernel
theorem dL_meanPrice_13 : decode cL_meanPrice 13 = .ok (.iconst 0, 1) := by decide +kernel
theorem dL_meanPrice_14 : decode cL_meanPrice 14 = .ok (.ireturn, 1) := by decide +kernel
theorem dL_closedShare_0 : decode cL_closedShare 0 = .ok (.aload_n 1, 1) := by decide +kernel
theorem dL_closedShare_1 : decode cL_closedShare 1 = .ok (.iconst 0, 1) := by decide +kernel
theorem dL_closedShare_2 : decode cL_closedShare 2 = .ok (.aload_n 0, 1) := by decide +kernel
theorem dL_closedShare_3 : decode cL_closedShare 3 = .ok (.invokevirtual 148, 3) := by decide +kernel
theorem dL_closedShare_6 : decode cL_closedShare 6 = .ok (.f2d, 1) := by decide +kernel
theorem dL_closedShare_7 : decode cL_closedShare 7 = .ok (.dastore, 1) := by decide +kernel
theorem dL_closedShare_8 : decode cL_closedShare 8 = .ok (.goto 6, 3) := by decide +kernel
theorem dL_closedShare_11 : decode cL_closedShare 11 = .ok (.astore_n 2, 1) := by decide +kernel
theorem dL_closedShare_12 : decode cL_closedShare 12 = .ok (.iconst 1, 1) := by decide +kernel
theorem dL_closedShare_13 : decode cL_closedShare 13 = .ok (.ireturn, 1) := by decide +kernel
theorem dL_closedShare_14 : decode cL_closedShare 14 = .ok (.iconst 0, 1) := by decide +kernel
theorem dL_closedShare_15 : decode cL_closedShare 15 = .ok (.ireturn, 1) := by decide +kernel
theorem dL_renderLine_0 : decode cL_renderLine 0 = .ok (.aload_n 2, 1) := by decide +kernel
theorem dL_renderLine_1 : decode cL_renderLine 1 = .ok (.iconst 0, 1) := by decide +kernel
theorem dL_renderLine_2 : decode cL_renderLine 2 = .ok (.aload_n 0, 1) := by decide +kernel
theorem dL_renderLine_3 : decode cL_renderLine 3 = .ok (.iload_n 1, 1) := by decide +kernel
theorem dL_renderLine_4 : decode cL_renderLine 4 = .ok (.invokevirtual 152, 3) := by decide +kernel
theorem dL_renderLine_7 : decode cL_renderLine 7 = .ok (.i2l, 1) := by decide +kernel
theorem dL_renderLine_8 : decode cL_renderLine 8 = .ok (.lastore, 1) := by decide +kernel
theorem dL_renderLine_9 : decode cL_renderLine 9 = .ok (.goto 6, 3) := by decide +kernel
theorem dL_renderLine_12 : decode cL_renderLine 12 = .ok (.astore_n 3, 1) := by decide +kernel
theorem dL_renderLine_13 : decode cL_renderLine 13 = .ok (.iconst 1, 1) := by decide +kernel
theorem dL_renderLine_14 : decode cL_renderLine 14 = .ok (.ireturn, 1) := by decide +kernel
theorem dL_renderLine_15 : decode cL_renderLine 15 = .ok (.iconst 0, 1) := by decide +kernel
theorem dL_renderLine_16 : decode cL_renderLine 16 = .ok (.ireturn, 1) := by decide +kernel
theorem dL_renderTicket_0 : decode cL_renderTicket 0 = .ok (.aload_n 2, 1) := by decide +kernel
theorem dL_renderTicket_1 : decode cL_renderTicket 1 = .ok (.iconst 0, 1) := by decide +kernel
theorem dL_renderTicket_2 : decode cL_renderTicket 2 = .ok (.aload_n 0, 1) := by decide +kernel
theorem dL_renderTicket_3 : decode cL_renderTicket 3 = .ok (.iload_n 1, 1) := by decide +kernel
theorem dL_renderTicket_4 : decode cL_renderTicket 4 = .ok (.invokevirtual 155, 3) := by decide +kernel
theorem dL_renderTicket_7 : decode cL_renderTicket 7 = .ok (.i2l, 1) := by decide +kernel
theorem dL_renderTicket_8 : decode cL_renderTicket 8 = .ok (.lastore, 1) := by decide +kernel
theorem dL_renderTicket_9 : decode cL_renderTicket 9 = .ok (.goto 6, 3) := by decide +kernel
theorem dL_renderTicket_12 : decode cL_renderTicket 12 = .ok (.astore_n 3, 1) := by decide +kernel
theorem dL_renderTicket_13 : decode cL_renderTicket 13 = .ok (.iconst 1, 1) := by decide +kernel
theorem dL_renderTicket_14 : decode cL_renderTicket 14 = .ok (.ireturn, 1) := by decide +kernel
theorem dL_renderTicket_15 : decode cL_renderTicket 15 = .ok (.iconst 0, 1) := by decide +kernel
theorem dL_renderTicket_16 : decode cL_renderTicket 16 = .ok (.ireturn, 1) := by decide +kernel
theorem dL_outputAt_0 : decode cL_outputAt 0 = .ok (.aload_n 2, 1) := by decide +kernel
theorem dL_outputAt_1 : decode cL_outputAt 1 = .ok (.iconst 0, 1) := by decide +kernel
theorem dL_outputAt_2 : decode cL_outputAt 2 = .ok (.aload_n 0, 1) := by decide +kernel
theorem dL_outputAt_3 : decode cL_outputAt 3 = .ok (.iload_n 1, 1) := by decide +kernel
theorem dL_outputAt_4 : decode cL_outputAt 4 = .ok (.invokevirtual 158, 3) := by decide +kernel
theorem dL_outputAt_7 : decode cL_outputAt 7 = .ok (.i2l, 1) := by decide +kernel
theorem dL_outputAt_8 : decode cL_outputAt 8 = .ok (.lastore, 1) := by decide +kernel
theorem dL_outputAt_9 : decode cL_outputAt 9 = .ok (.goto 6, 3) := by decide +kernel
theorem dL_outputAt_12 : decode cL_outputAt 12 = .ok (.astore_n 3, 1) := by decide +kernel
theorem dL_outputAt_13 : decode cL_outputAt 13 = .ok (.iconst 1, 1) := by decide +kernel
theorem dL_outputAt_14 : decode cL_outputAt 14 = .ok (.ireturn, 1) := by decide +kernel
theorem dL_outputAt_15 : decode cL_outputAt 15 = .ok (.iconst 0, 1) := by decide +kernel
theorem dL_outputAt_16 : decode cL_outputAt 16 = .ok (.ireturn, 1) := by decide +kernel
theorem dL_type_0 : decode cL_type 0 = .ok (.aload_n 2, 1) := by decide +kernel
theorem dL_type_1 : decode cL_type 1 = .ok (.iconst 0, 1) := by decide +kernel
theorem dL_type_2 : decode cL_type 2 = .ok (.aload_n 0, 1) := by decide +kernel
theorem dL_type_3 : decode cL_type 3 = .ok (.iload_n 1, 1) := by decide +kernel
theorem dL_type_4 : decode cL_type 4 = .ok (.invokevirtual 162, 3) := by decide +kernel
theorem dL_type_7 : decode cL_type 7 = .ok (.i2l, 1) := by decide +kernel
theorem dL_type_8 : decode cL_type 8 = .ok (.lastore, 1) := by decide +kernel
theorem dL_type_9 : decode cL_type 9 = .ok (.goto 9, 3) := by decide +kernel
theorem dL_type_12 : decode cL_type 12 = .ok (.astore_n 3, 1) := by decide +kernel
theorem dL_type_13 : decode cL_type 13 = .ok (.iconst 1, 1) := by decide +kernel
theorem dL_type_14 : decode cL_type 14 = .ok (.ireturn, 1) := by decide +kernel
theorem dL_type_15 : decode cL_type 15 = .ok (.astore_n 3, 1) := by decide +kernel
theorem dL_type_16 : decode cL_type 16 = .ok (.iconst 2, 1) := by decide +kernel
theorem dL_type_17 : decode cL_type 17 = .ok (.ireturn, 1) := by decide +kernel
theorem dL_type_18 : decode cL_type 18 = .ok (.iconst 0, 1) := by decide +kernel
theorem dL_type_19 : decode cL_type 19 = .ok (.ireturn, 1) := by decide +kernel
theorem dL_runScript_0 : decode cL_runScript 0 = .ok (.aload_n 1, 1) := by decide +kernel
theorem dL_runScript_1 : decode cL_runScript 1 = .ok (.iconst 0, 1) := by decide +kernel
theorem dL_runScript_2 : decode cL_runScript 2 = .ok (.aload_n 0, 1) := by decide +kernel
theorem dL_runScript_3 : decode cL_runScript 3 = .ok (.invokevirtual 166, 3) := by decide +kernel
theorem dL_runScript_6 : decode cL_runScript 6 = .ok (.i2l, 1) := by decide +kernel
theorem dL_runScript_7 : decode cL_runScript 7 = .ok (.lastore, 1) := by decide +kernel
theorem dL_runScript_8 : decode cL_runScript 8 = .ok (.goto 9, 3) := by decide +kernel
theorem dL_runScript_11 : decode cL_runScript 11 = .ok (.astore_n 2, 1) := by decide +kernel
theorem dL_runScript_12 : decode cL_runScript 12 = .ok (.iconst 1, 1) := by decide +kernel
theorem dL_runScript_13 : decode cL_runScript 13 = .ok (.ireturn, 1) := by decide +kernel
theorem dL_runScript_14 : decode cL_runScript 14 = .ok (.astore_n 2, 1) := by decide +kernel
theorem dL_runScript_15 : decode cL_runScript 15 = .ok (.iconst 2, 1) := by decide +kernel
theorem dL_runScript_16 : decode cL_runScript 16 = .ok (.ireturn, 1) := by decide +kernel
theorem dL_runScript_17 : decode cL_runScript 17 = .ok (.iconst 0, 1) := by decide +kernel
theorem dL_runScript_18 : decode cL_runScript 18 = .ok (.ireturn, 1) := by decide +kernel
theorem dL_errorPosition_0 : decode cL_errorPosition 0 = .ok (.aload_n 1, 1) := by decide +kernel
theorem dL_errorPosition_1 : decode cL_errorPosition 1 = .ok (.iconst 0, 1) := by decide +kernel
theorem dL_errorPosition_2 : decode cL_errorPosition 2 = .ok (.aload_n 0, 1) := by decide +kernel
theorem dL_errorPosition_3 : decode cL_errorPosition 3 = .ok (.invokevirtual 170, 3) := by decide +kernel
theorem dL_errorPosition_6 : decode cL_errorPosition 6 = .ok (.i2l, 1) := by decide +kernel
theorem dL_errorPosition_7 : decode cL_errorPosition 7 = .ok (.lastore, 1) := by decide +kernel
theorem dL_errorPosition_8 : decode cL_errorPosition 8 = .ok (.goto 6, 3) := by decide +kernel
theorem dL_errorPosition_11 : decode cL_errorPosition 11 = .ok (.astore_n 2, 1) := by decide +kernel
theorem dL_errorPosition_12 : decode cL_errorPosition 12 = .ok (.iconst 1, 1) := by decide +kernel
theorem dL_errorPosition_13 : decode cL_errorPosition 13 = .ok (.ireturn, 1) := by decide +kernel
theorem dL_errorPosition_14 : decode cL_errorPosition 14 = .ok (.iconst 0, 1) := by decide +kernel
theorem dL_errorPosition_15 : decode cL_errorPosition 15 = .ok (.ireturn, 1) := by decide +kernel
theorem dL_failedCommand_0 : decode cL_failedCommand 0 = .ok (.aload_n 1, 1) := by decide +kernel
theorem dL_failedCommand_1 : decode cL_failedCommand 1 = .ok (.iconst 0, 1) := by decide +kernel
theorem dL_failedCommand_2 : decode cL_failedCommand 2 = .ok (.aload_n 0, 1) := by decide +kernel
theorem dL_failedCommand_3 : decode cL_failedCommand 3 = .ok (.invokevirtual 173, 3) := by decide +kernel
theorem dL_failedCommand_6 : decode cL_failedCommand 6 = .ok (.i2l, 1) := by decide +kernel
theorem dL_failedCommand_7 : decode cL_failedCommand 7 = .ok (.lastore, 1) := by decide +kernel
theorem dL_failedCommand_8 : decode cL_failedCommand 8 = .ok (.goto 6, 3) := by decide +kernel
theorem dL_failedCommand_11 : decode cL_failedCommand 11 = .ok (.astore_n 2, 1) := by decide +kernel
theorem dL_failedCommand_12 : decode cL_failedCommand 12 = .ok (.iconst 1, 1) := by decide +kernel
theorem dL_failedCommand_13 : decode cL_failedCommand 13 = .ok (.ireturn, 1) := by decide +kernel
theorem dL_failedCommand_14 : decode cL_failedCommand 14 = .ok (.iconst 0, 1) := by decide +kernel
theorem dL_failedCommand_15 : decode cL_failedCommand 15 = .ok (.ireturn, 1) := by decide +kernel
theorem dL_undo_0 : decode cL_undo 0 = .ok (.aload_n 1, 1) := by decide +kernel
theorem dL_undo_1 : decode cL_undo 1 = .ok (.iconst 0, 1) := by decide +kernel
theorem dL_undo_2 : decode cL_undo 2 = .ok (.aload_n 0, 1) := by decide +kernel
theorem dL_undo_3 : decode cL_undo 3 = .ok (.invokevirtual 176, 3) := by decide +kernel
theorem dL_undo_6 : decode cL_undo 6 = .ok (.i2l, 1) := by decide +kernel
theorem dL_undo_7 : decode cL_undo 7 = .ok (.lastore, 1) := by decide +kernel
theorem dL_undo_8 : decode cL_undo 8 = .ok (.goto 6, 3) := by decide +kernel
theorem dL_undo_11 : decode cL_undo 11 = .ok (.astore_n 2, 1) := by decide +kernel
theorem dL_undo_12 : decode cL_undo 12 = .ok (.iconst 1, 1) := by decide +kernel
theorem dL_undo_13 : decode cL_undo 13 = .ok (.ireturn, 1) := by decide +kernel
theorem dL_undo_14 : decode cL_undo 14 = .ok (.iconst 0, 1) := by decide +kernel
theorem dL_undo_15 : decode cL_undo 15 = .ok (.ireturn, 1) := by decide +kernel
theorem dL_restore_0 : decode cL_restore 0 = .ok (.aload_n 1, 1) := by decide +kernel
theorem dL_restore_1 : decode cL_restore 1 = .ok (.iconst 0, 1) := by decide +kernel
theorem dL_restore_2 : decode cL_restore 2 = .ok (.aload_n 0, 1) := by decide +kernel
theorem dL_restore_3 : decode cL_restore 3 = .ok (.invokevirtual 179, 3) := by decide +kernel
theorem dL_restore_6 : decode cL_restore 6 = .ok (.i2l, 1) := by decide +kernel
theorem dL_restore_7 : decode cL_restore 7 = .ok (.lastore, 1) := by decide +kernel
theorem dL_restore_8 : decode cL_restore 8 = .ok (.goto 6, 3) := by decide +kernel
theorem dL_restore_11 : decode cL_restore 11 = .ok (.astore_n 2, 1) := by decide +kernel
theorem dL_restore_12 : decode cL_restore 12 = .ok (.iconst 1, 1) := by decide +kernel
theorem dL_restore_13 : decode cL_restore 13 = .ok (.ireturn, 1) := by decide +kernel
theorem dL_restore_14 : decode cL_restore 14 = .ok (.iconst 0, 1) := by decide +kernel
theorem dL_restore_15 : decode cL_restore 15 = .ok (.ireturn, 1) := by decide +kernel

theorem kl_0 : Cond.methodLink RL 7 yX12_addStop ∈ lwG := lwG_of (tb_3 (List.mem_of_getElem? (i := 178) (by decide +kernel))) (by decide +kernel)
theorem kl_1 : Cond.classLink RL 13 "java/lang/IllegalArgumentException" ∈ lwG := lwG_of (tb_3 (List.mem_of_getElem? (i := 176) (by decide +kernel))) (by decide +kernel)
theorem kl_2 : Cond.classLink RL 15 "java/lang/IllegalStateException" ∈ lwG := lwG_of (tb_3 (List.mem_of_getElem? (i := 177) (by decide +kernel))) (by decide +kernel)
theorem kl_3 : Cond.codeWith yL_addStop cL_addStop 4 (some .int) [(0, 9, 12, 13), (0, 9, 15, 15)] ∈ lwG := lwG_of (tb_3 (List.mem_of_getElem? (i := 175) (by decide +kernel))) (by decide +kernel)
theorem kl_4 : Cond.initialized RL ∈ lwG := lwG_of (tb_1 (List.mem_of_getElem? (i := 0) (by decide +kernel))) (by decide +kernel)
theorem kl_5 : Cond.static yL_addStop ∈ lwG := lwG_of (tb_3 (List.mem_of_getElem? (i := 174) (by decide +kernel))) (by decide +kernel)
theorem kl_6 : Cond.methodLink RL 17 yX12_addWalk ∈ lwG := lwG_of (tb_4 (List.mem_of_getElem? (i := 127) (by decide +kernel))) (by decide +kernel)
theorem kl_7 : Cond.classLink RL 21 "java/lang/IndexOutOfBoundsException" ∈ lwG := lwG_of (tb_4 (List.mem_of_getElem? (i := 106) (by decide +kernel))) (by decide +kernel)
theorem kl_8 : Cond.codeWith yL_addWalk cL_addWalk 6 (some .int) [(0, 12, 15, 21), (0, 12, 19, 13), (0, 12, 23, 15)] ∈ lwG := lwG_of (tb_4 (List.mem_of_getElem? (i := 105) (by decide +kernel))) (by decide +kernel)
theorem kl_9 : Cond.static yL_addWalk ∈ lwG := lwG_of (tb_4 (List.mem_of_getElem? (i := 104) (by decide +kernel))) (by decide +kernel)
theorem kl_10 : Cond.methodLink RL 23 yX12_removeWalk ∈ lwG := lwG_of (tb_4 (List.mem_of_getElem? (i := 149) (by decide +kernel))) (by decide +kernel)
theorem kl_11 : Cond.classLink RL 27 "java/util/NoSuchElementException" ∈ lwG := lwG_of (tb_4 (List.mem_of_getElem? (i := 148) (by decide +kernel))) (by decide +kernel)
theorem kl_12 : Cond.codeWith yL_removeWalk cL_removeWalk 5 (some .int) [(0, 10, 13, 21), (0, 10, 17, 27)] ∈ lwG := lwG_of (tb_4 (List.mem_of_getElem? (i := 147) (by decide +kernel))) (by decide +kernel)
theorem kl_13 : Cond.static yL_removeWalk ∈ lwG := lwG_of (tb_4 (List.mem_of_getElem? (i := 146) (by decide +kernel))) (by decide +kernel)
theorem kl_14 : Cond.methodLink RL 29 yX12_addLine ∈ lwG := lwG_of (tb_4 (List.mem_of_getElem? (i := 166) (by decide +kernel))) (by decide +kernel)
theorem kl_15 : Cond.codeWith yL_addLine cL_addLine 7 (some .int) [(0, 14, 17, 13), (0, 14, 21, 15)] ∈ lwG := lwG_of (tb_4 (List.mem_of_getElem? (i := 165) (by decide +kernel))) (by decide +kernel)
theorem kl_16 : Cond.static yL_addLine ∈ lwG := lwG_of (tb_4 (List.mem_of_getElem? (i := 164) (by decide +kernel))) (by decide +kernel)
theorem kl_17 : Cond.methodLink RL 33 yX12_extendLine ∈ lwG := lwG_of (tb_4 (List.mem_of_getElem? (i := 186) (by decide +kernel))) (by decide +kernel)
theorem kl_18 : Cond.classLink RL 36 "java/lang/UnsupportedOperationException" ∈ lwG := lwG_of (tb_4 (List.mem_of_getElem? (i := 185) (by decide +kernel))) (by decide +kernel)
theorem kl_19 : Cond.codeWith yL_extendLine cL_extendLine 5 (some .int) [(0, 10, 13, 21), (0, 10, 17, 15), (0, 10, 21, 36)] ∈ lwG := lwG_of (tb_4 (List.mem_of_getElem? (i := 184) (by decide +kernel))) (by decide +kernel)
theorem kl_20 : Cond.static yL_extendLine ∈ lwG := lwG_of (tb_4 (List.mem_of_getElem? (i := 183) (by decide +kernel))) (by decide +kernel)
theorem kl_21 : Cond.methodLink RL 38 yX12_shortenLine ∈ lwG := lwG_of (tb_4 (List.mem_of_getElem? (i := 212) (by decide +kernel))) (by decide +kernel)
theorem kl_22 : Cond.codeWith yL_shortenLine cL_shortenLine 4 (some .int) [(0, 9, 12, 21), (0, 9, 15, 27), (0, 9, 18, 15)] ∈ lwG := lwG_of (tb_4 (List.mem_of_getElem? (i := 211) (by decide +kernel))) (by decide +kernel)
theorem kl_23 : Cond.static yL_shortenLine ∈ lwG := lwG_of (tb_4 (List.mem_of_getElem? (i := 210) (by decide +kernel))) (by decide +kernel)
theorem kl_24 : Cond.methodLink RL 41 yX12_setRainDelay ∈ lwG := lwG_of (tb_4 (List.mem_of_getElem? (i := 227) (by decide +kernel))) (by decide +kernel)
theorem kl_25 : Cond.codeWith yL_setRainDelay cL_setRainDelay 5 (some .int) [(0, 10, 13, 21), (0, 10, 17, 13)] ∈ lwG := lwG_of (tb_4 (List.mem_of_getElem? (i := 226) (by decide +kernel))) (by decide +kernel)
theorem kl_26 : Cond.static yL_setRainDelay ∈ lwG := lwG_of (tb_4 (List.mem_of_getElem? (i := 225) (by decide +kernel))) (by decide +kernel)
theorem kl_27 : Cond.methodLink RL 44 yX12_setClosed ∈ lwG := lwG_of (tb_4 (List.mem_of_getElem? (i := 238) (by decide +kernel))) (by decide +kernel)
theorem kl_28 : Cond.codeWith yL_setClosed cL_setClosed 5 (some .int) [(0, 17, 20, 21)] ∈ lwG := lwG_of (tb_4 (List.mem_of_getElem? (i := 237) (by decide +kernel))) (by decide +kernel)
theorem kl_29 : Cond.static yL_setClosed ∈ lwG := lwG_of (tb_4 (List.mem_of_getElem? (i := 236) (by decide +kernel))) (by decide +kernel)
theorem kl_30 : Cond.methodLink RL 48 yX12_setSuspended ∈ lwG := lwG_of (tb_5 (List.mem_of_getElem? (i := 9) (by decide +kernel))) (by decide +kernel)
theorem kl_31 : Cond.codeWith yL_setSuspended cL_setSuspended 5 (some .int) [(0, 17, 20, 21)] ∈ lwG := lwG_of (tb_5 (List.mem_of_getElem? (i := 8) (by decide +kernel))) (by decide +kernel)
theorem kl_32 : Cond.static yL_setSuspended ∈ lwG := lwG_of (tb_5 (List.mem_of_getElem? (i := 7) (by decide +kernel))) (by decide +kernel)
theorem kl_33 : Cond.methodLink RL 51 yX12_sellTicket ∈ lwG := lwG_of (tb_5 (List.mem_of_getElem? (i := 20) (by decide +kernel))) (by decide +kernel)
theorem kl_34 : Cond.codeWith yL_sellTicket cL_sellTicket 7 (some .int) [(0, 14, 17, 21), (0, 14, 21, 13), (0, 14, 25, 15), (0, 14, 29, 36)] ∈ lwG := lwG_of (tb_5 (List.mem_of_getElem? (i := 19) (by decide +kernel))) (by decide +kernel)
theorem kl_35 : Cond.static yL_sellTicket ∈ lwG := lwG_of (tb_5 (List.mem_of_getElem? (i := 18) (by decide +kernel))) (by decide +kernel)
theorem kl_36 : Cond.methodLink RL 54 yX12_refund ∈ lwG := lwG_of (tb_5 (List.mem_of_getElem? (i := 45) (by decide +kernel))) (by decide +kernel)
theorem kl_37 : Cond.codeWith yL_refund cL_refund 4 (some .int) [(0, 9, 12, 27)] ∈ lwG := lwG_of (tb_5 (List.mem_of_getElem? (i := 44) (by decide +kernel))) (by decide +kernel)
theorem kl_38 : Cond.static yL_refund ∈ lwG := lwG_of (tb_5 (List.mem_of_getElem? (i := 43) (by decide +kernel))) (by decide +kernel)
theorem kl_39 : Cond.methodLink RL 57 yX12_advance ∈ lwG := lwG_of (tb_5 (List.mem_of_getElem? (i := 69) (by decide +kernel))) (by decide +kernel)
theorem kl_40 : Cond.codeWith yL_advance cL_advance 4 (some .int) [(0, 9, 12, 13)] ∈ lwG := lwG_of (tb_5 (List.mem_of_getElem? (i := 68) (by decide +kernel))) (by decide +kernel)
theorem kl_41 : Cond.static yL_advance ∈ lwG := lwG_of (tb_5 (List.mem_of_getElem? (i := 67) (by decide +kernel))) (by decide +kernel)
theorem kl_42 : Cond.methodLink RL 60 yX12_transferMinutes ∈ lwG := lwG_of (tb_5 (List.mem_of_getElem? (i := 86) (by decide +kernel))) (by decide +kernel)
theorem kl_43 : Cond.codeWith yL_transferMinutes cL_transferMinutes 4 (some .int) [(0, 9, 12, 21)] ∈ lwG := lwG_of (tb_5 (List.mem_of_getElem? (i := 85) (by decide +kernel))) (by decide +kernel)
theorem kl_44 : Cond.static yL_transferMinutes ∈ lwG := lwG_of (tb_5 (List.mem_of_getElem? (i := 84) (by decide +kernel))) (by decide +kernel)
theorem kl_45 : Cond.methodLink RL 63 yX12_isClosed ∈ lwG := lwG_of (tb_5 (List.mem_of_getElem? (i := 93) (by decide +kernel))) (by decide +kernel)
theorem kl_46 : Cond.codeWith yL_isClosed cL_isClosed 4 (some .int) [(0, 16, 19, 21)] ∈ lwG := lwG_of (tb_5 (List.mem_of_getElem? (i := 92) (by decide +kernel))) (by decide +kernel)
theorem kl_47 : Cond.static yL_isClosed ∈ lwG := lwG_of (tb_5 (List.mem_of_getElem? (i := 91) (by decide +kernel))) (by decide +kernel)
theorem kl_48 : Cond.methodLink RL 67 yX12_walkMinutes ∈ lwG := lwG_of (tb_5 (List.mem_of_getElem? (i := 100) (by decide +kernel))) (by decide +kernel)
theorem kl_49 : Cond.codeWith yL_walkMinutes cL_walkMinutes 5 (some .int) [(0, 10, 13, 21), (0, 10, 17, 27)] ∈ lwG := lwG_of (tb_5 (List.mem_of_getElem? (i := 99) (by decide +kernel))) (by decide +kernel)
theorem kl_50 : Cond.static yL_walkMinutes ∈ lwG := lwG_of (tb_5 (List.mem_of_getElem? (i := 98) (by decide +kernel))) (by decide +kernel)
theorem kl_51 : Cond.methodLink RL 70 yX12_ringSize ∈ lwG := lwG_of (tb_5 (List.mem_of_getElem? (i := 108) (by decide +kernel))) (by decide +kernel)
theorem kl_52 : Cond.codeWith yL_ringSize cL_ringSize 4 (some .int) [(0, 9, 12, 21)] ∈ lwG := lwG_of (tb_5 (List.mem_of_getElem? (i := 107) (by decide +kernel))) (by decide +kernel)
theorem kl_53 : Cond.static yL_ringSize ∈ lwG := lwG_of (tb_5 (List.mem_of_getElem? (i := 106) (by decide +kernel))) (by decide +kernel)
theorem kl_54 : Cond.methodLink RL 73 yX12_stopAt ∈ lwG := lwG_of (tb_5 (List.mem_of_getElem? (i := 115) (by decide +kernel))) (by decide +kernel)
theorem kl_55 : Cond.codeWith yL_stopAt cL_stopAt 5 (some .int) [(0, 10, 13, 21), (0, 10, 17, 27)] ∈ lwG := lwG_of (tb_5 (List.mem_of_getElem? (i := 114) (by decide +kernel))) (by decide +kernel)
theorem kl_56 : Cond.static yL_stopAt ∈ lwG := lwG_of (tb_5 (List.mem_of_getElem? (i := 113) (by decide +kernel))) (by decide +kernel)
theorem kl_57 : Cond.methodLink RL 76 yX12_positionOf ∈ lwG := lwG_of (tb_5 (List.mem_of_getElem? (i := 128) (by decide +kernel))) (by decide +kernel)
theorem kl_58 : Cond.codeWith yL_positionOf cL_positionOf 5 (some .int) [(0, 10, 13, 21), (0, 10, 17, 27)] ∈ lwG := lwG_of (tb_5 (List.mem_of_getElem? (i := 127) (by decide +kernel))) (by decide +kernel)
theorem kl_59 : Cond.static yL_positionOf ∈ lwG := lwG_of (tb_5 (List.mem_of_getElem? (i := 126) (by decide +kernel))) (by decide +kernel)
theorem kl_60 : Cond.methodLink RL 79 yX12_hopMinutes ∈ lwG := lwG_of (tb_5 (List.mem_of_getElem? (i := 141) (by decide +kernel))) (by decide +kernel)
theorem kl_61 : Cond.codeWith yL_hopMinutes cL_hopMinutes 4 (some .int) [(0, 9, 12, 21)] ∈ lwG := lwG_of (tb_5 (List.mem_of_getElem? (i := 140) (by decide +kernel))) (by decide +kernel)
theorem kl_62 : Cond.static yL_hopMinutes ∈ lwG := lwG_of (tb_5 (List.mem_of_getElem? (i := 139) (by decide +kernel))) (by decide +kernel)
theorem kl_63 : Cond.methodLink RL 82 yX12_runs ∈ lwG := lwG_of (tb_5 (List.mem_of_getElem? (i := 149) (by decide +kernel))) (by decide +kernel)
theorem kl_64 : Cond.codeWith yL_runs cL_runs 4 (some .int) [(0, 16, 19, 21)] ∈ lwG := lwG_of (tb_5 (List.mem_of_getElem? (i := 148) (by decide +kernel))) (by decide +kernel)
theorem kl_65 : Cond.static yL_runs ∈ lwG := lwG_of (tb_5 (List.mem_of_getElem? (i := 147) (by decide +kernel))) (by decide +kernel)
theorem kl_66 : Cond.methodLink RL 85 yX12_tripMinute ∈ lwG := lwG_of (tb_5 (List.mem_of_getElem? (i := 157) (by decide +kernel))) (by decide +kernel)
theorem kl_67 : Cond.codeWith yL_tripMinute cL_tripMinute 6 (some .int) [(0, 12, 15, 21), (0, 12, 19, 13), (0, 12, 23, 15)] ∈ lwG := lwG_of (tb_5 (List.mem_of_getElem? (i := 156) (by decide +kernel))) (by decide +kernel)
theorem kl_68 : Cond.static yL_tripMinute ∈ lwG := lwG_of (tb_5 (List.mem_of_getElem? (i := 155) (by decide +kernel))) (by decide +kernel)
theorem kl_69 : Cond.methodLink RL 88 yX12_nextTrip ∈ lwG := lwG_of (tb_5 (List.mem_of_getElem? (i := 170) (by decide +kernel))) (by decide +kernel)
theorem kl_70 : Cond.codeWith yL_nextTrip cL_nextTrip 6 (some .int) [(0, 12, 15, 21), (0, 12, 19, 13), (0, 12, 23, 15)] ∈ lwG := lwG_of (tb_5 (List.mem_of_getElem? (i := 169) (by decide +kernel))) (by decide +kernel)
theorem kl_71 : Cond.static yL_nextTrip ∈ lwG := lwG_of (tb_5 (List.mem_of_getElem? (i := 168) (by decide +kernel))) (by decide +kernel)
theorem kl_72 : Cond.methodLink RL 91 yX12_nextTripBySearch ∈ lwG := lwG_of (tb_5 (List.mem_of_getElem? (i := 182) (by decide +kernel))) (by decide +kernel)
theorem kl_73 : Cond.codeWith yL_nextTripBySearch cL_nextTripBySearch 6 (some .int) [(0, 12, 15, 21), (0, 12, 19, 13), (0, 12, 23, 15)] ∈ lwG := lwG_of (tb_5 (List.mem_of_getElem? (i := 181) (by decide +kernel))) (by decide +kernel)
theorem kl_74 : Cond.static yL_nextTripBySearch ∈ lwG := lwG_of (tb_5 (List.mem_of_getElem? (i := 180) (by decide +kernel))) (by decide +kernel)
theorem kl_75 : Cond.methodLink RL 94 yX12_earliestArrival ∈ lwG := lwG_of (tb_5 (List.mem_of_getElem? (i := 194) (by decide +kernel))) (by decide +kernel)
theorem kl_76 : Cond.codeWith yL_earliestArrival cL_earliestArrival 6 (some .int) [(0, 12, 15, 21), (0, 12, 19, 13), (0, 12, 23, 27)] ∈ lwG := lwG_of (tb_5 (List.mem_of_getElem? (i := 193) (by decide +kernel))) (by decide +kernel)
theorem kl_77 : Cond.static yL_earliestArrival ∈ lwG := lwG_of (tb_5 (List.mem_of_getElem? (i := 192) (by decide +kernel))) (by decide +kernel)
theorem kl_78 : Cond.methodLink RL 97 yX12_earliestArrivalByRounds ∈ lwG := lwG_of (tb_5 (List.mem_of_getElem? (i := 210) (by decide +kernel))) (by decide +kernel)
theorem kl_79 : Cond.codeWith yL_earliestArrivalByRounds cL_earliestArrivalByRounds 6 (some .int) [(0, 12, 15, 21), (0, 12, 19, 13), (0, 12, 23, 27)] ∈ lwG := lwG_of (tb_5 (List.mem_of_getElem? (i := 209) (by decide +kernel))) (by decide +kernel)
theorem kl_80 : Cond.static yL_earliestArrivalByRounds ∈ lwG := lwG_of (tb_5 (List.mem_of_getElem? (i := 208) (by decide +kernel))) (by decide +kernel)
theorem kl_81 : Cond.methodLink RL 100 yX12_fewestBoardings ∈ lwG := lwG_of (tb_5 (List.mem_of_getElem? (i := 217) (by decide +kernel))) (by decide +kernel)
theorem kl_82 : Cond.codeWith yL_fewestBoardings cL_fewestBoardings 5 (some .int) [(0, 10, 13, 21), (0, 10, 17, 27)] ∈ lwG := lwG_of (tb_5 (List.mem_of_getElem? (i := 216) (by decide +kernel))) (by decide +kernel)
theorem kl_83 : Cond.static yL_fewestBoardings ∈ lwG := lwG_of (tb_5 (List.mem_of_getElem? (i := 215) (by decide +kernel))) (by decide +kernel)
theorem kl_84 : Cond.methodLink RL 103 yX12_fewestBoardingsByTable ∈ lwG := lwG_of (tb_5 (List.mem_of_getElem? (i := 228) (by decide +kernel))) (by decide +kernel)
theorem kl_85 : Cond.codeWith yL_fewestBoardingsByTable cL_fewestBoardingsByTable 5 (some .int) [(0, 10, 13, 21), (0, 10, 17, 27)] ∈ lwG := lwG_of (tb_5 (List.mem_of_getElem? (i := 227) (by decide +kernel))) (by decide +kernel)
theorem kl_86 : Cond.static yL_fewestBoardingsByTable ∈ lwG := lwG_of (tb_5 (List.mem_of_getElem? (i := 226) (by decide +kernel))) (by decide +kernel)
theorem kl_87 : Cond.methodLink RL 106 yX12_flow ∈ lwG := lwG_of (tb_5 (List.mem_of_getElem? (i := 235) (by decide +kernel))) (by decide +kernel)
theorem kl_88 : Cond.codeWith yL_flow cL_flow 5 (some .int) [(0, 10, 13, 21), (0, 10, 17, 13)] ∈ lwG := lwG_of (tb_5 (List.mem_of_getElem? (i := 234) (by decide +kernel))) (by decide +kernel)
theorem kl_89 : Cond.static yL_flow ∈ lwG := lwG_of (tb_5 (List.mem_of_getElem? (i := 233) (by decide +kernel))) (by decide +kernel)
theorem kl_90 : Cond.methodLink RL 109 yX12_smallestCut ∈ lwG := lwG_of (tb_6 (List.mem_of_getElem? (i := 6) (by decide +kernel))) (by decide +kernel)
theorem kl_91 : Cond.codeWith yL_smallestCut cL_smallestCut 5 (some .int) [(0, 10, 13, 21), (0, 10, 17, 13)] ∈ lwG := lwG_of (tb_6 (List.mem_of_getElem? (i := 5) (by decide +kernel))) (by decide +kernel)
theorem kl_92 : Cond.static yL_smallestCut ∈ lwG := lwG_of (tb_6 (List.mem_of_getElem? (i := 4) (by decide +kernel))) (by decide +kernel)
theorem kl_93 : Cond.methodLink RL 112 yX12_freeSeats ∈ lwG := lwG_of (tb_6 (List.mem_of_getElem? (i := 13) (by decide +kernel))) (by decide +kernel)
theorem kl_94 : Cond.codeWith yL_freeSeats cL_freeSeats 7 (some .int) [(0, 14, 17, 21), (0, 14, 21, 13)] ∈ lwG := lwG_of (tb_6 (List.mem_of_getElem? (i := 12) (by decide +kernel))) (by decide +kernel)
theorem kl_95 : Cond.static yL_freeSeats ∈ lwG := lwG_of (tb_6 (List.mem_of_getElem? (i := 11) (by decide +kernel))) (by decide +kernel)
theorem kl_96 : Cond.methodLink RL 115 yX12_freeSeatsBySweep ∈ lwG := lwG_of (tb_6 (List.mem_of_getElem? (i := 21) (by decide +kernel))) (by decide +kernel)
theorem kl_97 : Cond.codeWith yL_freeSeatsBySweep cL_freeSeatsBySweep 7 (some .int) [(0, 14, 17, 21), (0, 14, 21, 13)] ∈ lwG := lwG_of (tb_6 (List.mem_of_getElem? (i := 20) (by decide +kernel))) (by decide +kernel)
theorem kl_98 : Cond.static yL_freeSeatsBySweep ∈ lwG := lwG_of (tb_6 (List.mem_of_getElem? (i := 19) (by decide +kernel))) (by decide +kernel)
theorem kl_99 : Cond.methodLink RL 118 yX12_ticketAt ∈ lwG := lwG_of (tb_6 (List.mem_of_getElem? (i := 28) (by decide +kernel))) (by decide +kernel)
theorem kl_100 : Cond.codeWith yL_ticketAt cL_ticketAt 4 (some .int) [(0, 9, 12, 21)] ∈ lwG := lwG_of (tb_6 (List.mem_of_getElem? (i := 27) (by decide +kernel))) (by decide +kernel)
theorem kl_101 : Cond.static yL_ticketAt ∈ lwG := lwG_of (tb_6 (List.mem_of_getElem? (i := 26) (by decide +kernel))) (by decide +kernel)
theorem kl_102 : Cond.methodLink RL 121 yX12_ticketLine ∈ lwG := lwG_of (tb_6 (List.mem_of_getElem? (i := 35) (by decide +kernel))) (by decide +kernel)
theorem kl_103 : Cond.codeWith yL_ticketLine cL_ticketLine 4 (some .int) [(0, 9, 12, 27)] ∈ lwG := lwG_of (tb_6 (List.mem_of_getElem? (i := 34) (by decide +kernel))) (by decide +kernel)
theorem kl_104 : Cond.static yL_ticketLine ∈ lwG := lwG_of (tb_6 (List.mem_of_getElem? (i := 33) (by decide +kernel))) (by decide +kernel)
theorem kl_105 : Cond.methodLink RL 124 yX12_ticketTrip ∈ lwG := lwG_of (tb_6 (List.mem_of_getElem? (i := 42) (by decide +kernel))) (by decide +kernel)
theorem kl_106 : Cond.codeWith yL_ticketTrip cL_ticketTrip 4 (some .int) [(0, 9, 12, 27)] ∈ lwG := lwG_of (tb_6 (List.mem_of_getElem? (i := 41) (by decide +kernel))) (by decide +kernel)
theorem kl_107 : Cond.static yL_ticketTrip ∈ lwG := lwG_of (tb_6 (List.mem_of_getElem? (i := 40) (by decide +kernel))) (by decide +kernel)
theorem kl_108 : Cond.methodLink RL 127 yX12_ticketFrom ∈ lwG := lwG_of (tb_6 (List.mem_of_getElem? (i := 49) (by decide +kernel))) (by decide +kernel)
theorem kl_109 : Cond.codeWith yL_ticketFrom cL_ticketFrom 4 (some .int) [(0, 9, 12, 27)] ∈ lwG := lwG_of (tb_6 (List.mem_of_getElem? (i := 48) (by decide +kernel))) (by decide +kernel)
theorem kl_110 : Cond.static yL_ticketFrom ∈ lwG := lwG_of (tb_6 (List.mem_of_getElem? (i := 47) (by decide +kernel))) (by decide +kernel)
theorem kl_111 : Cond.methodLink RL 130 yX12_ticketTo ∈ lwG := lwG_of (tb_6 (List.mem_of_getElem? (i := 56) (by decide +kernel))) (by decide +kernel)
theorem kl_112 : Cond.codeWith yL_ticketTo cL_ticketTo 4 (some .int) [(0, 9, 12, 27)] ∈ lwG := lwG_of (tb_6 (List.mem_of_getElem? (i := 55) (by decide +kernel))) (by decide +kernel)
theorem kl_113 : Cond.static yL_ticketTo ∈ lwG := lwG_of (tb_6 (List.mem_of_getElem? (i := 54) (by decide +kernel))) (by decide +kernel)
theorem kl_114 : Cond.methodLink RL 133 yX12_ticketPrice ∈ lwG := lwG_of (tb_6 (List.mem_of_getElem? (i := 63) (by decide +kernel))) (by decide +kernel)
theorem kl_115 : Cond.codeWith yL_ticketPrice cL_ticketPrice 4 (some .int) [(0, 9, 12, 27)] ∈ lwG := lwG_of (tb_6 (List.mem_of_getElem? (i := 62) (by decide +kernel))) (by decide +kernel)
theorem kl_116 : Cond.static yL_ticketPrice ∈ lwG := lwG_of (tb_6 (List.mem_of_getElem? (i := 61) (by decide +kernel))) (by decide +kernel)
theorem kl_117 : Cond.methodLink RL 136 yX12_lineByTickets ∈ lwG := lwG_of (tb_6 (List.mem_of_getElem? (i := 70) (by decide +kernel))) (by decide +kernel)
theorem kl_118 : Cond.codeWith yL_lineByTickets cL_lineByTickets 4 (some .int) [(0, 9, 12, 27)] ∈ lwG := lwG_of (tb_6 (List.mem_of_getElem? (i := 69) (by decide +kernel))) (by decide +kernel)
theorem kl_119 : Cond.static yL_lineByTickets ∈ lwG := lwG_of (tb_6 (List.mem_of_getElem? (i := 68) (by decide +kernel))) (by decide +kernel)
theorem kl_120 : Cond.methodLink RL 139 yX12_stopByLines ∈ lwG := lwG_of (tb_6 (List.mem_of_getElem? (i := 86) (by decide +kernel))) (by decide +kernel)
theorem kl_121 : Cond.codeWith yL_stopByLines cL_stopByLines 4 (some .int) [(0, 9, 12, 27)] ∈ lwG := lwG_of (tb_6 (List.mem_of_getElem? (i := 85) (by decide +kernel))) (by decide +kernel)
theorem kl_122 : Cond.static yL_stopByLines ∈ lwG := lwG_of (tb_6 (List.mem_of_getElem? (i := 84) (by decide +kernel))) (by decide +kernel)
theorem kl_123 : Cond.methodLink RL 142 yX12_meanPrice ∈ lwG := lwG_of (tb_6 (List.mem_of_getElem? (i := 123) (by decide +kernel))) (by decide +kernel)
theorem kl_124 : Cond.classLink RL 146 "java/lang/ArithmeticException" ∈ lwG := lwG_of (tb_6 (List.mem_of_getElem? (i := 109) (by decide +kernel))) (by decide +kernel)
theorem kl_125 : Cond.codeWith yL_meanPrice cL_meanPrice 3 (some .int) [(0, 7, 10, 146)] ∈ lwG := lwG_of (tb_6 (List.mem_of_getElem? (i := 108) (by decide +kernel))) (by decide +kernel)
theorem kl_126 : Cond.static yL_meanPrice ∈ lwG := lwG_of (tb_6 (List.mem_of_getElem? (i := 107) (by decide +kernel))) (by decide +kernel)
theorem kl_127 : Cond.methodLink RL 148 yX12_closedShare ∈ lwG := lwG_of (tb_6 (List.mem_of_getElem? (i := 137) (by decide +kernel))) (by decide +kernel)
theorem kl_128 : Cond.codeWith yL_closedShare cL_closedShare 3 (some .int) [(0, 8, 11, 146)] ∈ lwG := lwG_of (tb_6 (List.mem_of_getElem? (i := 136) (by decide +kernel))) (by decide +kernel)
theorem kl_129 : Cond.static yL_closedShare ∈ lwG := lwG_of (tb_6 (List.mem_of_getElem? (i := 135) (by decide +kernel))) (by decide +kernel)
theorem kl_130 : Cond.methodLink RL 162 yX12_type ∈ lwG := lwG_of (tb_7 (List.mem_of_getElem? (i := 216) (by decide +kernel))) (by decide +kernel)
theorem kl_131 : Cond.codeWith yL_type cL_type 4 (some .int) [(0, 9, 12, 13), (0, 9, 15, 15)] ∈ lwG := lwG_of (tb_7 (List.mem_of_getElem? (i := 215) (by decide +kernel))) (by decide +kernel)
theorem kl_132 : Cond.static yL_type ∈ lwG := lwG_of (tb_7 (List.mem_of_getElem? (i := 214) (by decide +kernel))) (by decide +kernel)
theorem kl_133 : Cond.methodLink RL 166 yX12_runScript ∈ lwG := lwG_of (tb_7 (List.mem_of_getElem? (i := 229) (by decide +kernel))) (by decide +kernel)
theorem kl_134 : Cond.codeWith yL_runScript cL_runScript 3 (some .int) [(0, 8, 11, 13), (0, 8, 14, 15)] ∈ lwG := lwG_of (tb_7 (List.mem_of_getElem? (i := 228) (by decide +kernel))) (by decide +kernel)
theorem kl_135 : Cond.static yL_runScript ∈ lwG := lwG_of (tb_7 (List.mem_of_getElem? (i := 227) (by decide +kernel))) (by decide +kernel)
theorem kl_136 : Cond.methodLink RL 170 yX12_errorPosition ∈ lwG := lwG_of (tb_8 (List.mem_of_getElem? (i := 67) (by decide +kernel))) (by decide +kernel)
theorem kl_137 : Cond.codeWith yL_errorPosition cL_errorPosition 3 (some .int) [(0, 8, 11, 27)] ∈ lwG := lwG_of (tb_8 (List.mem_of_getElem? (i := 66) (by decide +kernel))) (by decide +kernel)
theorem kl_138 : Cond.static yL_errorPosition ∈ lwG := lwG_of (tb_8 (List.mem_of_getElem? (i := 65) (by decide +kernel))) (by decide +kernel)
theorem kl_139 : Cond.methodLink RL 173 yX12_failedCommand ∈ lwG := lwG_of (tb_8 (List.mem_of_getElem? (i := 75) (by decide +kernel))) (by decide +kernel)
theorem kl_140 : Cond.codeWith yL_failedCommand cL_failedCommand 3 (some .int) [(0, 8, 11, 27)] ∈ lwG := lwG_of (tb_8 (List.mem_of_getElem? (i := 74) (by decide +kernel))) (by decide +kernel)
theorem kl_141 : Cond.static yL_failedCommand ∈ lwG := lwG_of (tb_8 (List.mem_of_getElem? (i := 73) (by decide +kernel))) (by decide +kernel)
theorem kl_142 : Cond.methodLink RL 176 yX12_undo ∈ lwG := lwG_of (tb_8 (List.mem_of_getElem? (i := 83) (by decide +kernel))) (by decide +kernel)
theorem kl_143 : Cond.codeWith yL_undo cL_undo 3 (some .int) [(0, 8, 11, 15)] ∈ lwG := lwG_of (tb_8 (List.mem_of_getElem? (i := 82) (by decide +kernel))) (by decide +kernel)
theorem kl_144 : Cond.static yL_undo ∈ lwG := lwG_of (tb_8 (List.mem_of_getElem? (i := 81) (by decide +kernel))) (by decide +kernel)
theorem kl_145 : Cond.methodLink RL 179 yX12_restore ∈ lwG := lwG_of (tb_8 (List.mem_of_getElem? (i := 95) (by decide +kernel))) (by decide +kernel)
theorem kl_146 : Cond.codeWith yL_restore cL_restore 3 (some .int) [(0, 8, 11, 15)] ∈ lwG := lwG_of (tb_8 (List.mem_of_getElem? (i := 94) (by decide +kernel))) (by decide +kernel)
theorem kl_147 : Cond.static yL_restore ∈ lwG := lwG_of (tb_8 (List.mem_of_getElem? (i := 93) (by decide +kernel))) (by decide +kernel)
