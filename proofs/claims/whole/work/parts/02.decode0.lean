theorem dX0_tryOne_0 : decode cX0_tryOne 0 = .ok (.aload_n 0, 1) := by decide +kernel
theorem dX0_tryOne_1 : decode cX0_tryOne 1 = .ok (.invokevirtual 9, 3) := by decide +kernel
theorem dX0_tryOne_4 : decode cX0_tryOne 4 = .ok (.istore_n 1, 1) := by decide +kernel
theorem dX0_tryOne_5 : decode cX0_tryOne 5 = .ok (.aload_n 0, 1) := by decide +kernel
theorem dX0_tryOne_6 : decode cX0_tryOne 6 = .ok (.iload_n 1, 1) := by decide +kernel
theorem dX0_tryOne_7 : decode cX0_tryOne 7 = .ok (.invokevirtual 15, 3) := by decide +kernel
theorem dX0_tryOne_10 : decode cX0_tryOne 10 = .ok (.istore_n 2, 1) := by decide +kernel
theorem dX0_tryOne_11 : decode cX0_tryOne 11 = .ok (.aload_n 0, 1) := by decide +kernel
theorem dX0_tryOne_12 : decode cX0_tryOne 12 = .ok (.iload_n 2, 1) := by decide +kernel
theorem dX0_tryOne_13 : decode cX0_tryOne 13 = .ok (.invokestatic 19, 3) := by decide +kernel
theorem dX0_tryOne_16 : decode cX0_tryOne 16 = .ok (.aload_n 0, 1) := by decide +kernel
theorem dX0_tryOne_17 : decode cX0_tryOne 17 = .ok (.iload_n 1, 1) := by decide +kernel
theorem dX0_tryOne_18 : decode cX0_tryOne 18 = .ok (.iload_n 2, 1) := by decide +kernel
theorem dX0_tryOne_19 : decode cX0_tryOne 19 = .ok (.invokestatic 25, 3) := by decide +kernel
theorem dX0_tryOne_22 : decode cX0_tryOne 22 = .ok (.istore_n 3, 1) := by decide +kernel
theorem dX0_tryOne_23 : decode cX0_tryOne 23 = .ok (.iload_n 3, 1) := by decide +kernel
theorem dX0_tryOne_24 : decode cX0_tryOne 24 = .ok (.iconst (-1), 1) := by decide +kernel
theorem dX0_tryOne_25 : decode cX0_tryOne 25 = .ok (.if_icmp .ne 5, 3) := by decide +kernel
theorem dX0_tryOne_28 : decode cX0_tryOne 28 = .ok (.iconst 0, 1) := by decide +kernel
theorem dX0_tryOne_29 : decode cX0_tryOne 29 = .ok (.ireturn, 1) := by decide +kernel
theorem dX0_tryOne_30 : decode cX0_tryOne 30 = .ok (.aload_n 0, 1) := by decide +kernel
theorem dX0_tryOne_31 : decode cX0_tryOne 31 = .ok (.iload_n 3, 1) := by decide +kernel
theorem dX0_tryOne_32 : decode cX0_tryOne 32 = .ok (.invokestatic 29, 3) := by decide +kernel
theorem dX0_tryOne_35 : decode cX0_tryOne 35 = .ok (.aload_n 0, 1) := by decide +kernel
theorem dX0_tryOne_36 : decode cX0_tryOne 36 = .ok (.iload_n 1, 1) := by decide +kernel
theorem dX0_tryOne_37 : decode cX0_tryOne 37 = .ok (.iload_n 3, 1) := by decide +kernel
theorem dX0_tryOne_38 : decode cX0_tryOne 38 = .ok (.invokestatic 32, 3) := by decide +kernel
theorem dX0_tryOne_41 : decode cX0_tryOne 41 = .ok (.aload_n 0, 1) := by decide +kernel
theorem dX0_tryOne_42 : decode cX0_tryOne 42 = .ok (.invokestatic 36, 3) := by decide +kernel
theorem dX0_tryOne_45 : decode cX0_tryOne 45 = .ok (.aload_n 0, 1) := by decide +kernel
theorem dX0_tryOne_46 : decode cX0_tryOne 46 = .ok (.invokevirtual 40, 3) := by decide +kernel
theorem dX0_tryOne_49 : decode cX0_tryOne 49 = .ok (.iconst 1, 1) := by decide +kernel
theorem dX0_tryOne_50 : decode cX0_tryOne 50 = .ok (.ireturn, 1) := by decide +kernel
theorem dX0_look_0 : decode cX0_look 0 = .ok (.iconst 1, 1) := by decide +kernel
theorem dX0_look_1 : decode cX0_look 1 = .ok (.istore_n 2, 1) := by decide +kernel
theorem dX0_look_2 : decode cX0_look 2 = .ok (.iload_n 2, 1) := by decide +kernel
theorem dX0_look_3 : decode cX0_look 3 = .ok (.bipush 12, 2) := by decide +kernel
theorem dX0_look_5 : decode cX0_look 5 = .ok (.if_icmp .gt 31, 3) := by decide +kernel
theorem dX0_look_8 : decode cX0_look 8 = .ok (.iload_n 1, 1) := by decide +kernel
theorem dX0_look_9 : decode cX0_look 9 = .ok (.iload_n 2, 1) := by decide +kernel
theorem dX0_look_10 : decode cX0_look 10 = .ok (.invokestatic 43, 3) := by decide +kernel
theorem dX0_look_13 : decode cX0_look 13 = .ok (.ifCond .eq 17, 3) := by decide +kernel
theorem dX0_look_16 : decode cX0_look 16 = .ok (.aload_n 0, 1) := by decide +kernel
theorem dX0_look_17 : decode cX0_look 17 = .ok (.getfield 47, 3) := by decide +kernel
theorem dX0_look_20 : decode cX0_look 20 = .ok (.iload_n 2, 1) := by decide +kernel
theorem dX0_look_21 : decode cX0_look 21 = .ok (.aaload, 1) := by decide +kernel
theorem dX0_look_22 : decode cX0_look 22 = .ok (.aload_n 0, 1) := by decide +kernel
theorem dX0_look_23 : decode cX0_look 23 = .ok (.iload_n 2, 1) := by decide +kernel
theorem dX0_look_24 : decode cX0_look 24 = .ok (.invokestatic 51, 3) := by decide +kernel
theorem dX0_look_27 : decode cX0_look 27 = .ok (.putfield 55, 3) := by decide +kernel
theorem dX0_look_30 : decode cX0_look 30 = .ok (.iinc 2 1, 3) := by decide +kernel
theorem dX0_look_33 : decode cX0_look 33 = .ok (.goto (-31), 3) := by decide +kernel
theorem dX0_look_36 : decode cX0_look 36 = .ok (.aload_n 0, 1) := by decide +kernel
theorem dX0_look_37 : decode cX0_look 37 = .ok (.iload_n 1, 1) := by decide +kernel
theorem dX0_look_38 : decode cX0_look 38 = .ok (.putfield 61, 3) := by decide +kernel
theorem dX0_look_41 : decode cX0_look 41 = .ok (.return_, 1) := by decide +kernel
theorem dX0_turnOnLook_0 : decode cX0_turnOnLook 0 = .ok (.aload_n 0, 1) := by decide +kernel
theorem dX0_turnOnLook_1 : decode cX0_turnOnLook 1 = .ok (.getfield 47, 3) := by decide +kernel
theorem dX0_turnOnLook_4 : decode cX0_turnOnLook 4 = .ok (.iload_n 1, 1) := by decide +kernel
theorem dX0_turnOnLook_5 : decode cX0_turnOnLook 5 = .ok (.aaload, 1) := by decide +kernel
theorem dX0_turnOnLook_6 : decode cX0_turnOnLook 6 = .ok (.astore_n 2, 1) := by decide +kernel
theorem dX0_turnOnLook_7 : decode cX0_turnOnLook 7 = .ok (.aload_n 0, 1) := by decide +kernel
theorem dX0_turnOnLook_8 : decode cX0_turnOnLook 8 = .ok (.getfield 61, 3) := by decide +kernel
theorem dX0_turnOnLook_11 : decode cX0_turnOnLook 11 = .ok (.iload_n 1, 1) := by decide +kernel
theorem dX0_turnOnLook_12 : decode cX0_turnOnLook 12 = .ok (.invokestatic 43, 3) := by decide +kernel
theorem dX0_turnOnLook_15 : decode cX0_turnOnLook 15 = .ok (.ifCond .eq 8, 3) := by decide +kernel
theorem dX0_turnOnLook_18 : decode cX0_turnOnLook 18 = .ok (.aload_n 2, 1) := by decide +kernel
theorem dX0_turnOnLook_19 : decode cX0_turnOnLook 19 = .ok (.getfield 55, 3) := by decide +kernel
theorem dX0_turnOnLook_22 : decode cX0_turnOnLook 22 = .ok (.lreturn, 1) := by decide +kernel
theorem dX0_turnOnLook_23 : decode cX0_turnOnLook 23 = .ok (.aload_n 2, 1) := by decide +kernel
theorem dX0_turnOnLook_24 : decode cX0_turnOnLook 24 = .ok (.getfield 55, 3) := by decide +kernel
theorem dX0_turnOnLook_27 : decode cX0_turnOnLook 27 = .ok (.aload_n 0, 1) := by decide +kernel
theorem dX0_turnOnLook_28 : decode cX0_turnOnLook 28 = .ok (.getfield 47, 3) := by decide +kernel
theorem dX0_turnOnLook_31 : decode cX0_turnOnLook 31 = .ok (.aload_n 2, 1) := by decide +kernel
theorem dX0_turnOnLook_32 : decode cX0_turnOnLook 32 = .ok (.getfield 65, 3) := by decide +kernel
theorem dX0_turnOnLook_35 : decode cX0_turnOnLook 35 = .ok (.aaload, 1) := by decide +kernel
theorem dX0_turnOnLook_36 : decode cX0_turnOnLook 36 = .ok (.getfield 68, 3) := by decide +kernel
theorem dX0_turnOnLook_39 : decode cX0_turnOnLook 39 = .ok (.invokestatic 71, 3) := by decide +kernel
theorem dX0_turnOnLook_42 : decode cX0_turnOnLook 42 = .ok (.lreturn, 1) := by decide +kernel
theorem dX0_sender_0 : decode cX0_sender 0 = .ok (.aload_n 0, 1) := by decide +kernel
theorem dX0_sender_1 : decode cX0_sender 1 = .ok (.getfield 77, 3) := by decide +kernel
theorem dX0_sender_4 : decode cX0_sender 4 = .ok (.ifCond .eq 7, 3) := by decide +kernel
theorem dX0_sender_7 : decode cX0_sender 7 = .ok (.iload_n 1, 1) := by decide +kernel
theorem dX0_sender_8 : decode cX0_sender 8 = .ok (.ifCond .ne 5, 3) := by decide +kernel
theorem dX0_sender_11 : decode cX0_sender 11 = .ok (.iconst (-1), 1) := by decide +kernel
theorem dX0_sender_12 : decode cX0_sender 12 = .ok (.ireturn, 1) := by decide +kernel
theorem dX0_sender_13 : decode cX0_sender 13 = .ok (.aload_n 0, 1) := by decide +kernel
theorem dX0_sender_14 : decode cX0_sender 14 = .ok (.getfield 80, 3) := by decide +kernel
theorem dX0_sender_17 : decode cX0_sender 17 = .ok (.ifCond .ne 12, 3) := by decide +kernel
theorem dX0_sender_20 : decode cX0_sender 20 = .ok (.aload_n 0, 1) := by decide +kernel
theorem dX0_sender_21 : decode cX0_sender 21 = .ok (.iload_n 1, 1) := by decide +kernel
theorem dX0_sender_22 : decode cX0_sender 22 = .ok (.iload_n 2, 1) := by decide +kernel
theorem dX0_sender_23 : decode cX0_sender 23 = .ok (.invokestatic 83, 3) := by decide +kernel
theorem dX0_sender_26 : decode cX0_sender 26 = .ok (.goto 8, 3) := by decide +kernel
theorem dX0_sender_29 : decode cX0_sender 29 = .ok (.aload_n 0, 1) := by decide +kernel
theorem dX0_sender_30 : decode cX0_sender 30 = .ok (.iload_n 1, 1) := by decide +kernel
theorem dX0_sender_31 : decode cX0_sender 31 = .ok (.invokestatic 86, 3) := by decide +kernel
theorem dX0_sender_34 : decode cX0_sender 34 = .ok (.ireturn, 1) := by decide +kernel
theorem dX0_byTree_0 : decode cX0_byTree 0 = .ok (.iconst 0, 1) := by decide +kernel
theorem dX0_byTree_1 : decode cX0_byTree 1 = .ok (.istore_n 3, 1) := by decide +kernel
theorem dX0_byTree_2 : decode cX0_byTree 2 = .ok (.iconst 0, 1) := by decide +kernel
theorem dX0_byTree_3 : decode cX0_byTree 3 = .ok (.istore 4, 2) := by decide +kernel
theorem dX0_byTree_5 : decode cX0_byTree 5 = .ok (.iload 4, 2) := by decide +kernel
theorem dX0_byTree_7 : decode cX0_byTree 7 = .ok (.bipush 12, 2) := by decide +kernel
theorem dX0_byTree_9 : decode cX0_byTree 9 = .ok (.if_icmp .ge 31, 3) := by decide +kernel
theorem dX0_byTree_12 : decode cX0_byTree 12 = .ok (.aload_n 0, 1) := by decide +kernel
theorem dX0_byTree_13 : decode cX0_byTree 13 = .ok (.iload_n 3, 1) := by decide +kernel
theorem dX0_byTree_14 : decode cX0_byTree 14 = .ok (.iload_n 2, 1) := by decide +kernel
theorem dX0_byTree_15 : decode cX0_byTree 15 = .ok (.invokestatic 90, 3) := by decide +kernel
theorem dX0_byTree_18 : decode cX0_byTree 18 = .ok (.istore_n 3, 1) := by decide +kernel
theorem dX0_byTree_19 : decode cX0_byTree 19 = .ok (.iload_n 3, 1) := by decide +kernel
theorem dX0_byTree_20 : decode cX0_byTree 20 = .ok (.iconst (-1), 1) := by decide +kernel
theorem dX0_byTree_21 : decode cX0_byTree 21 = .ok (.if_icmp .eq 11, 3) := by decide +kernel
theorem dX0_byTree_24 : decode cX0_byTree 24 = .ok (.iload_n 1, 1) := by decide +kernel
theorem dX0_byTree_25 : decode cX0_byTree 25 = .ok (.iload_n 3, 1) := by decide +kernel
theorem dX0_byTree_26 : decode cX0_byTree 26 = .ok (.invokestatic 43, 3) := by decide +kernel
theorem dX0_byTree_29 : decode cX0_byTree 29 = .ok (.ifCond .eq 5, 3) := by decide +kernel
theorem dX0_byTree_32 : decode cX0_byTree 32 = .ok (.iload_n 3, 1) := by decide +kernel
theorem dX0_byTree_33 : decode cX0_byTree 33 = .ok (.ireturn, 1) := by decide +kernel
theorem dX0_byTree_34 : decode cX0_byTree 34 = .ok (.iinc 4 1, 3) := by decide +kernel
theorem dX0_byTree_37 : decode cX0_byTree 37 = .ok (.goto (-32), 3) := by decide +kernel
theorem dX0_byTree_40 : decode cX0_byTree 40 = .ok (.iconst (-1), 1) := by decide +kernel
theorem dX0_byTree_41 : decode cX0_byTree 41 = .ok (.ireturn, 1) := by decide +kernel
theorem dX0_leastTurn_0 : decode cX0_leastTurn 0 = .ok (.iconst (-1), 1) := by decide +kernel
theorem dX0_leastTurn_1 : decode cX0_leastTurn 1 = .ok (.istore_n 3, 1) := by decide +kernel
theorem dX0_leastTurn_2 : decode cX0_leastTurn 2 = .ok (.lconst 0, 1) := by decide +kernel
theorem dX0_leastTurn_3 : decode cX0_leastTurn 3 = .ok (.lstore 4, 2) := by decide +kernel
theorem dX0_leastTurn_5 : decode cX0_leastTurn 5 = .ok (.iconst 1, 1) := by decide +kernel
theorem dX0_leastTurn_6 : decode cX0_leastTurn 6 = .ok (.istore 6, 2) := by decide +kernel
theorem dX0_leastTurn_8 : decode cX0_leastTurn 8 = .ok (.iload 6, 2) := by decide +kernel
theorem dX0_leastTurn_10 : decode cX0_leastTurn 10 = .ok (.bipush 12, 2) := by decide +kernel
theorem dX0_leastTurn_12 : decode cX0_leastTurn 12 = .ok (.if_icmp .gt 60, 3) := by decide +kernel
theorem dX0_leastTurn_15 : decode cX0_leastTurn 15 = .ok (.iload_n 2, 1) := by decide +kernel
theorem dX0_leastTurn_16 : decode cX0_leastTurn 16 = .ok (.iload 6, 2) := by decide +kernel
theorem dX0_leastTurn_18 : decode cX0_leastTurn 18 = .ok (.invokestatic 43, 3) := by decide +kernel
theorem dX0_leastTurn_21 : decode cX0_leastTurn 21 = .ok (.ifCond .eq 45, 3) := by decide +kernel
theorem dX0_leastTurn_24 : decode cX0_leastTurn 24 = .ok (.aload_n 0, 1) := by decide +kernel
theorem dX0_leastTurn_25 : decode cX0_leastTurn 25 = .ok (.getfield 47, 3) := by decide +kernel
theorem dX0_leastTurn_28 : decode cX0_leastTurn 28 = .ok (.iload 6, 2) := by decide +kernel
theorem dX0_leastTurn_30 : decode cX0_leastTurn 30 = .ok (.aaload, 1) := by decide +kernel
theorem dX0_leastTurn_31 : decode cX0_leastTurn 31 = .ok (.getfield 65, 3) := by decide +kernel
theorem dX0_leastTurn_34 : decode cX0_leastTurn 34 = .ok (.iload_n 1, 1) := by decide +kernel
theorem dX0_leastTurn_35 : decode cX0_leastTurn 35 = .ok (.if_icmp .ne 31, 3) := by decide +kernel
theorem dX0_leastTurn_38 : decode cX0_leastTurn 38 = .ok (.aload_n 0, 1) := by decide +kernel
theorem dX0_leastTurn_39 : decode cX0_leastTurn 39 = .ok (.iload 6, 2) := by decide +kernel
theorem dX0_leastTurn_41 : decode cX0_leastTurn 41 = .ok (.invokestatic 51, 3) := by decide +kernel
theorem dX0_leastTurn_44 : decode cX0_leastTurn 44 = .ok (.lstore 7, 2) := by decide +kernel
theorem dX0_leastTurn_46 : decode cX0_leastTurn 46 = .ok (.iload_n 3, 1) := by decide +kernel
theorem dX0_leastTurn_47 : decode cX0_leastTurn 47 = .ok (.iconst (-1), 1) := by decide +kernel
theorem dX0_leastTurn_48 : decode cX0_leastTurn 48 = .ok (.if_icmp .eq 11, 3) := by decide +kernel
theorem dX0_leastTurn_51 : decode cX0_leastTurn 51 = .ok (.lload 7, 2) := by decide +kernel
theorem dX0_leastTurn_53 : decode cX0_leastTurn 53 = .ok (.lload 4, 2) := by decide +kernel
theorem dX0_leastTurn_55 : decode cX0_leastTurn 55 = .ok (.lcmp, 1) := by decide +kernel
theorem dX0_leastTurn_56 : decode cX0_leastTurn 56 = .ok (.ifCond .ge 10, 3) := by decide +kernel
theorem dX0_leastTurn_59 : decode cX0_leastTurn 59 = .ok (.iload 6, 2) := by decide +kernel
theorem dX0_leastTurn_61 : decode cX0_leastTurn 61 = .ok (.istore_n 3, 1) := by decide +kernel
theorem dX0_leastTurn_62 : decode cX0_leastTurn 62 = .ok (.lload 7, 2) := by decide +kernel
theorem dX0_leastTurn_64 : decode cX0_leastTurn 64 = .ok (.lstore 4, 2) := by decide +kernel
theorem dX0_leastTurn_66 : decode cX0_leastTurn 66 = .ok (.iinc 6 1, 3) := by decide +kernel
theorem dX0_leastTurn_69 : decode cX0_leastTurn 69 = .ok (.goto (-61), 3) := by decide +kernel
theorem dX0_leastTurn_72 : decode cX0_leastTurn 72 = .ok (.iload_n 3, 1) := by decide +kernel
theorem dX0_leastTurn_73 : decode cX0_leastTurn 73 = .ok (.ireturn, 1) := by decide +kernel
theorem dX0_byUrgency_0 : decode cX0_byUrgency 0 = .ok (.iconst (-1), 1) := by decide +kernel
theorem dX0_byUrgency_1 : decode cX0_byUrgency 1 = .ok (.istore_n 2, 1) := by decide +kernel
theorem dX0_byUrgency_2 : decode cX0_byUrgency 2 = .ok (.iconst 1, 1) := by decide +kernel
theorem dX0_byUrgency_3 : decode cX0_byUrgency 3 = .ok (.istore_n 3, 1) := by decide +kernel
theorem dX0_byUrgency_4 : decode cX0_byUrgency 4 = .ok (.iload_n 3, 1) := by decide +kernel
theorem dX0_byUrgency_5 : decode cX0_byUrgency 5 = .ok (.bipush 12, 2) := by decide +kernel
theorem dX0_byUrgency_7 : decode cX0_byUrgency 7 = .ok (.if_icmp .gt 42, 3) := by decide +kernel
theorem dX0_byUrgency_10 : decode cX0_byUrgency 10 = .ok (.iload_n 1, 1) := by decide +kernel
theorem dX0_byUrgency_11 : decode cX0_byUrgency 11 = .ok (.iload_n 3, 1) := by decide +kernel
theorem dX0_byUrgency_12 : decode cX0_byUrgency 12 = .ok (.invokestatic 43, 3) := by decide +kernel
theorem dX0_byUrgency_15 : decode cX0_byUrgency 15 = .ok (.ifCond .eq 28, 3) := by decide +kernel
theorem dX0_byUrgency_18 : decode cX0_byUrgency 18 = .ok (.iload_n 2, 1) := by decide +kernel
theorem dX0_byUrgency_19 : decode cX0_byUrgency 19 = .ok (.iconst (-1), 1) := by decide +kernel
theorem dX0_byUrgency_20 : decode cX0_byUrgency 20 = .ok (.if_icmp .eq 21, 3) := by decide +kernel
theorem dX0_byUrgency_23 : decode cX0_byUrgency 23 = .ok (.aload_n 0, 1) := by decide +kernel
theorem dX0_byUrgency_24 : decode cX0_byUrgency 24 = .ok (.getfield 47, 3) := by decide +kernel
theorem dX0_byUrgency_27 : decode cX0_byUrgency 27 = .ok (.iload_n 3, 1) := by decide +kernel
theorem dX0_byUrgency_28 : decode cX0_byUrgency 28 = .ok (.aaload, 1) := by decide +kernel
theorem dX0_byUrgency_29 : decode cX0_byUrgency 29 = .ok (.aload_n 0, 1) := by decide +kernel
theorem dX0_byUrgency_30 : decode cX0_byUrgency 30 = .ok (.getfield 47, 3) := by decide +kernel
theorem dX0_byUrgency_33 : decode cX0_byUrgency 33 = .ok (.iload_n 2, 1) := by decide +kernel
theorem dX0_byUrgency_34 : decode cX0_byUrgency 34 = .ok (.aaload, 1) := by decide +kernel
theorem dX0_byUrgency_35 : decode cX0_byUrgency 35 = .ok (.invokestatic 93, 3) := by decide +kernel
theorem dX0_byUrgency_38 : decode cX0_byUrgency 38 = .ok (.ifCond .eq 5, 3) := by decide +kernel
theorem dX0_byUrgency_41 : decode cX0_byUrgency 41 = .ok (.iload_n 3, 1) := by decide +kernel
theorem dX0_byUrgency_42 : decode cX0_byUrgency 42 = .ok (.istore_n 2, 1) := by decide +kernel
theorem dX0_byUrgency_43 : decode cX0_byUrgency 43 = .ok (.iinc 3 1, 3) := by decide +kernel
theorem dX0_byUrgency_46 : decode cX0_byUrgency 46 = .ok (.goto (-42), 3) := by decide +kernel
theorem dX0_byUrgency_49 : decode cX0_byUrgency 49 = .ok (.iload_n 2, 1) := by decide +kernel
theorem dX0_byUrgency_50 : decode cX0_byUrgency 50 = .ok (.ireturn, 1) := by decide +kernel
theorem dX0_isAhead_0 : decode cX0_isAhead 0 = .ok (.aload_n 0, 1) := by decide +kernel
theorem dX0_isAhead_1 : decode cX0_isAhead 1 = .ok (.getfield 97, 3) := by decide +kernel
theorem dX0_isAhead_4 : decode cX0_isAhead 4 = .ok (.aload_n 1, 1) := by decide +kernel
theorem dX0_isAhead_5 : decode cX0_isAhead 5 = .ok (.getfield 97, 3) := by decide +kernel
theorem dX0_isAhead_8 : decode cX0_isAhead 8 = .ok (.if_icmp .eq 20, 3) := by decide +kernel
theorem dX0_isAhead_11 : decode cX0_isAhead 11 = .ok (.aload_n 0, 1) := by decide +kernel
theorem dX0_isAhead_12 : decode cX0_isAhead 12 = .ok (.getfield 97, 3) := by decide +kernel
theorem dX0_isAhead_15 : decode cX0_isAhead 15 = .ok (.aload_n 1, 1) := by decide +kernel
theorem dX0_isAhead_16 : decode cX0_isAhead 16 = .ok (.getfield 97, 3) := by decide +kernel
theorem dX0_isAhead_19 : decode cX0_isAhead 19 = .ok (.if_icmp .ge 7, 3) := by decide +kernel
theorem dX0_isAhead_22 : decode cX0_isAhead 22 = .ok (.iconst 1, 1) := by decide +kernel
theorem dX0_isAhead_23 : decode cX0_isAhead 23 = .ok (.goto 4, 3) := by decide +kernel
theorem dX0_isAhead_26 : decode cX0_isAhead 26 = .ok (.iconst 0, 1) := by decide +kernel
theorem dX0_isAhead_27 : decode cX0_isAhead 27 = .ok (.ireturn, 1) := by decide +kernel
theorem dX0_isAhead_28 : decode cX0_isAhead 28 = .ok (.aload_n 0, 1) := by decide +kernel
theorem dX0_isAhead_29 : decode cX0_isAhead 29 = .ok (.getfield 100, 3) := by decide +kernel
theorem dX0_isAhead_32 : decode cX0_isAhead 32 = .ok (.aload_n 1, 1) := by decide +kernel
theorem dX0_isAhead_33 : decode cX0_isAhead 33 = .ok (.getfield 100, 3) := by decide +kernel
theorem dX0_isAhead_36 : decode cX0_isAhead 36 = .ok (.if_icmp .eq 20, 3) := by decide +kernel
theorem dX0_isAhead_39 : decode cX0_isAhead 39 = .ok (.aload_n 0, 1) := by decide +kernel
theorem dX0_isAhead_40 : decode cX0_isAhead 40 = .ok (.getfield 100, 3) := by decide +kernel
theorem dX0_isAhead_43 : decode cX0_isAhead 43 = .ok (.aload_n 1, 1) := by decide +kernel
theorem dX0_isAhead_44 : decode cX0_isAhead 44 = .ok (.getfield 100, 3) := by decide +kernel
theorem dX0_isAhead_47 : decode cX0_isAhead 47 = .ok (.if_icmp .ge 7, 3) := by decide +kernel
theorem dX0_isAhead_50 : decode cX0_isAhead 50 = .ok (.iconst 1, 1) := by decide +kernel
theorem dX0_isAhead_51 : decode cX0_isAhead 51 = .ok (.goto 4, 3) := by decide +kernel
theorem dX0_isAhead_54 : decode cX0_isAhead 54 = .ok (.iconst 0, 1) := by decide +kernel
theorem dX0_isAhead_55 : decode cX0_isAhead 55 = .ok (.ireturn, 1) := by decide +kernel
theorem dX0_isAhead_56 : decode cX0_isAhead 56 = .ok (.aload_n 0, 1) := by decide +kernel
theorem dX0_isAhead_57 : decode cX0_isAhead 57 = .ok (.getfield 100, 3) := by decide +kernel
theorem dX0_isAhead_60 : decode cX0_isAhead 60 = .ok (.iconst 1, 1) := by decide +kernel
theorem dX0_isAhead_61 : decode cX0_isAhead 61 = .ok (.if_icmp .ne 18, 3) := by decide +kernel
theorem dX0_isAhead_64 : decode cX0_isAhead 64 = .ok (.aload_n 0, 1) := by decide +kernel
theorem dX0_isAhead_65 : decode cX0_isAhead 65 = .ok (.getfield 103, 3) := by decide +kernel
theorem dX0_isAhead_68 : decode cX0_isAhead 68 = .ok (.aload_n 1, 1) := by decide +kernel
theorem dX0_isAhead_69 : decode cX0_isAhead 69 = .ok (.getfield 103, 3) := by decide +kernel
theorem dX0_isAhead_72 : decode cX0_isAhead 72 = .ok (.if_icmp .ge 7, 3) := by decide +kernel
theorem dX0_isAhead_75 : decode cX0_isAhead 75 = .ok (.iconst 1, 1) := by decide +kernel
theorem dX0_isAhead_76 : decode cX0_isAhead 76 = .ok (.goto 4, 3) := by decide +kernel
theorem dX0_isAhead_79 : decode cX0_isAhead 79 = .ok (.iconst 0, 1) := by decide +kernel
theorem dX0_isAhead_80 : decode cX0_isAhead 80 = .ok (.ireturn, 1) := by decide +kernel
theorem dX0_send_0 : decode cX0_send 0 = .ok (.aload_n 0, 1) := by decide +kernel
theorem dX0_send_1 : decode cX0_send 1 = .ok (.getfield 47, 3) := by decide +kernel
theorem dX0_send_4 : decode cX0_send 4 = .ok (.iload_n 1, 1) := by decide +kernel
theorem dX0_send_5 : decode cX0_send 5 = .ok (.aaload, 1) := by decide +kernel
theorem dX0_send_6 : decode cX0_send 6 = .ok (.astore_n 2, 1) := by decide +kernel
theorem dX0_send_7 : decode cX0_send 7 = .ok (.aload_n 0, 1) := by decide +kernel
theorem dX0_send_8 : decode cX0_send 8 = .ok (.getfield 106, 3) := by decide +kernel
theorem dX0_send_11 : decode cX0_send 11 = .ok (.aload_n 0, 1) := by decide +kernel
theorem dX0_send_12 : decode cX0_send 12 = .ok (.getfield 77, 3) := by decide +kernel
theorem dX0_send_15 : decode cX0_send 15 = .ok (.invokestatic 109, 3) := by decide +kernel
theorem dX0_send_18 : decode cX0_send 18 = .ok (.aload_n 2, 1) := by decide +kernel
theorem dX0_send_19 : decode cX0_send 19 = .ok (.getfield 113, 3) := by decide +kernel
theorem dX0_send_22 : decode cX0_send 22 = .ok (.aload_n 2, 1) := by decide +kernel
theorem dX0_send_23 : decode cX0_send 23 = .ok (.getfield 116, 3) := by decide +kernel
theorem dX0_send_26 : decode cX0_send 26 = .ok (.invokestatic 109, 3) := by decide +kernel
theorem dX0_send_29 : decode cX0_send 29 = .ok (.invokestatic 109, 3) := by decide +kernel
theorem dX0_send_32 : decode cX0_send 32 = .ok (.istore_n 3, 1) := by decide +kernel
theorem dX0_send_33 : decode cX0_send 33 = .ok (.aload_n 0, 1) := by decide +kernel
theorem dX0_send_34 : decode cX0_send 34 = .ok (.dup, 1) := by decide +kernel
theorem dX0_send_35 : decode cX0_send 35 = .ok (.getfield 77, 3) := by decide +kernel
theorem dX0_send_38 : decode cX0_send 38 = .ok (.iload_n 3, 1) := by decide +kernel
theorem dX0_send_39 : decode cX0_send 39 = .ok (.isub, 1) := by decide +kernel
theorem dX0_send_40 : decode cX0_send 40 = .ok (.putfield 77, 3) := by decide +kernel
theorem dX0_send_43 : decode cX0_send 43 = .ok (.aload_n 2, 1) := by decide +kernel
theorem dX0_send_44 : decode cX0_send 44 = .ok (.dup, 1) := by decide +kernel
theorem dX0_send_45 : decode cX0_send 45 = .ok (.getfield 113, 3) := by decide +kernel
theorem dX0_send_48 : decode cX0_send 48 = .ok (.iload_n 3, 1) := by decide +kernel
theorem dX0_send_49 : decode cX0_send 49 = .ok (.isub, 1) := by decide +kernel
theorem dX0_send_50 : decode cX0_send 50 = .ok (.putfield 113, 3) := by decide +kernel
theorem dX0_send_53 : decode cX0_send 53 = .ok (.aload_n 2, 1) := by decide +kernel
theorem dX0_send_54 : decode cX0_send 54 = .ok (.dup, 1) := by decide +kernel
theorem dX0_send_55 : decode cX0_send 55 = .ok (.getfield 116, 3) := by decide +kernel
theorem dX0_send_58 : decode cX0_send 58 = .ok (.iload_n 3, 1) := by decide +kernel
theorem dX0_send_59 : decode cX0_send 59 = .ok (.isub, 1) := by decide +kernel
theorem dX0_send_60 : decode cX0_send 60 = .ok (.putfield 116, 3) := by decide +kernel
theorem dX0_send_63 : decode cX0_send 63 = .ok (.aload_n 2, 1) := by decide +kernel
theorem dX0_send_64 : decode cX0_send 64 = .ok (.dup, 1) := by decide +kernel
theorem dX0_send_65 : decode cX0_send 65 = .ok (.getfield 119, 3) := by decide +kernel
theorem dX0_send_68 : decode cX0_send 68 = .ok (.iload_n 3, 1) := by decide +kernel
theorem dX0_send_69 : decode cX0_send 69 = .ok (.iadd, 1) := by decide +kernel
theorem dX0_send_70 : decode cX0_send 70 = .ok (.putfield 119, 3) := by decide +kernel
theorem dX0_send_73 : decode cX0_send 73 = .ok (.aload_n 0, 1) := by decide +kernel
theorem dX0_send_74 : decode cX0_send 74 = .ok (.getfield 80, 3) := by decide +kernel
theorem dX0_send_77 : decode cX0_send 77 = .ok (.ifCond .ne 9, 3) := by decide +kernel
theorem dX0_send_80 : decode cX0_send 80 = .ok (.aload_n 0, 1) := by decide +kernel
theorem dX0_send_81 : decode cX0_send 81 = .ok (.iload_n 1, 1) := by decide +kernel
theorem dX0_send_82 : decode cX0_send 82 = .ok (.iload_n 3, 1) := by decide +kernel
theorem dX0_send_83 : decode cX0_send 83 = .ok (.invokestatic 122, 3) := by decide +kernel
theorem dX0_send_86 : decode cX0_send 86 = .ok (.aload_n 0, 1) := by decide +kernel
theorem dX0_send_87 : decode cX0_send 87 = .ok (.dup, 1) := by decide +kernel
theorem dX0_send_88 : decode cX0_send 88 = .ok (.getfield 125, 3) := by decide +kernel
theorem dX0_send_91 : decode cX0_send 91 = .ok (.iconst 1, 1) := by decide +kernel
theorem dX0_send_92 : decode cX0_send 92 = .ok (.iadd, 1) := by decide +kernel
theorem dX0_send_93 : decode cX0_send 93 = .ok (.putfield 125, 3) := by decide +kernel
theorem dX0_send_96 : decode cX0_send 96 = .ok (.aload_n 2, 1) := by decide +kernel
theorem dX0_send_97 : decode cX0_send 97 = .ok (.aload_n 0, 1) := by decide +kernel
theorem dX0_send_98 : decode cX0_send 98 = .ok (.getfield 125, 3) := by decide +kernel
theorem dX0_send_101 : decode cX0_send 101 = .ok (.putfield 103, 3) := by decide +kernel
theorem dX0_send_104 : decode cX0_send 104 = .ok (.aload_n 0, 1) := by decide +kernel
theorem dX0_send_105 : decode cX0_send 105 = .ok (.iload_n 3, 1) := by decide +kernel
theorem dX0_send_106 : decode cX0_send 106 = .ok (.putfield 128, 3) := by decide +kernel
theorem dX0_send_109 : decode cX0_send 109 = .ok (.aload_n 0, 1) := by decide +kernel
theorem dX0_send_110 : decode cX0_send 110 = .ok (.iload_n 1, 1) := by decide +kernel
theorem dX0_send_111 : decode cX0_send 111 = .ok (.putfield 131, 3) := by decide +kernel
theorem dX0_send_114 : decode cX0_send 114 = .ok (.return_, 1) := by decide +kernel
theorem dX0_chargeLine_0 : decode cX0_chargeLine 0 = .ok (.iload_n 1, 1) := by decide +kernel
theorem dX0_chargeLine_1 : decode cX0_chargeLine 1 = .ok (.istore_n 3, 1) := by decide +kernel
theorem dX0_chargeLine_2 : decode cX0_chargeLine 2 = .ok (.iconst 0, 1) := by decide +kernel
theorem dX0_chargeLine_3 : decode cX0_chargeLine 3 = .ok (.istore 4, 2) := by decide +kernel
theorem dX0_chargeLine_5 : decode cX0_chargeLine 5 = .ok (.iload 4, 2) := by decide +kernel
theorem dX0_chargeLine_7 : decode cX0_chargeLine 7 = .ok (.bipush 12, 2) := by decide +kernel
theorem dX0_chargeLine_9 : decode cX0_chargeLine 9 = .ok (.if_icmp .ge 70, 3) := by decide +kernel
theorem dX0_chargeLine_12 : decode cX0_chargeLine 12 = .ok (.iload_n 3, 1) := by decide +kernel
theorem dX0_chargeLine_13 : decode cX0_chargeLine 13 = .ok (.ifCond .eq 66, 3) := by decide +kernel
theorem dX0_chargeLine_16 : decode cX0_chargeLine 16 = .ok (.aload_n 0, 1) := by decide +kernel
theorem dX0_chargeLine_17 : decode cX0_chargeLine 17 = .ok (.getfield 47, 3) := by decide +kernel
theorem dX0_chargeLine_20 : decode cX0_chargeLine 20 = .ok (.iload_n 3, 1) := by decide +kernel
theorem dX0_chargeLine_21 : decode cX0_chargeLine 21 = .ok (.aaload, 1) := by decide +kernel
theorem dX0_chargeLine_22 : decode cX0_chargeLine 22 = .ok (.astore 5, 2) := by decide +kernel
theorem dX0_chargeLine_24 : decode cX0_chargeLine 24 = .ok (.aload_n 0, 1) := by decide +kernel
theorem dX0_chargeLine_25 : decode cX0_chargeLine 25 = .ok (.getfield 47, 3) := by decide +kernel
theorem dX0_chargeLine_28 : decode cX0_chargeLine 28 = .ok (.aload 5, 2) := by decide +kernel
theorem dX0_chargeLine_30 : decode cX0_chargeLine 30 = .ok (.getfield 65, 3) := by decide +kernel
theorem dX0_chargeLine_33 : decode cX0_chargeLine 33 = .ok (.aaload, 1) := by decide +kernel
theorem dX0_chargeLine_34 : decode cX0_chargeLine 34 = .ok (.aload 5, 2) := by decide +kernel
theorem dX0_chargeLine_36 : decode cX0_chargeLine 36 = .ok (.getfield 55, 3) := by decide +kernel
theorem dX0_chargeLine_39 : decode cX0_chargeLine 39 = .ok (.putfield 68, 3) := by decide +kernel
theorem dX0_chargeLine_42 : decode cX0_chargeLine 42 = .ok (.aload 5, 2) := by decide +kernel
theorem dX0_chargeLine_44 : decode cX0_chargeLine 44 = .ok (.dup, 1) := by decide +kernel
theorem dX0_chargeLine_45 : decode cX0_chargeLine 45 = .ok (.getfield 55, 3) := by decide +kernel
theorem dX0_chargeLine_48 : decode cX0_chargeLine 48 = .ok (.iload_n 2, 1) := by decide +kernel
theorem dX0_chargeLine_49 : decode cX0_chargeLine 49 = .ok (.i2l, 1) := by decide +kernel
theorem dX0_chargeLine_50 : decode cX0_chargeLine 50 = .ok (.ldc2_w 134, 3) := by decide +kernel
theorem dX0_chargeLine_53 : decode cX0_chargeLine 53 = .ok (.lmul, 1) := by decide +kernel
theorem dX0_chargeLine_54 : decode cX0_chargeLine 54 = .ok (.aload 5, 2) := by decide +kernel
theorem dX0_chargeLine_56 : decode cX0_chargeLine 56 = .ok (.getfield 136, 3) := by decide +kernel
theorem dX0_chargeLine_59 : decode cX0_chargeLine 59 = .ok (.i2l, 1) := by decide +kernel
theorem dX0_chargeLine_60 : decode cX0_chargeLine 60 = .ok (.invokestatic 139, 3) := by decide +kernel
theorem dX0_chargeLine_63 : decode cX0_chargeLine 63 = .ok (.ladd, 1) := by decide +kernel
theorem dX0_chargeLine_64 : decode cX0_chargeLine 64 = .ok (.putfield 55, 3) := by decide +kernel
theorem dX0_chargeLine_67 : decode cX0_chargeLine 67 = .ok (.aload 5, 2) := by decide +kernel
theorem dX0_chargeLine_69 : decode cX0_chargeLine 69 = .ok (.getfield 65, 3) := by decide +kernel
theorem dX0_chargeLine_72 : decode cX0_chargeLine 72 = .ok (.istore_n 3, 1) := by decide +kernel
theorem dX0_chargeLine_73 : decode cX0_chargeLine 73 = .ok (.iinc 4 1, 3) := by decide +kernel
theorem dX0_chargeLine_76 : decode cX0_chargeLine 76 = .ok (.goto (-71), 3) := by decide +kernel
theorem dX0_chargeLine_79 : decode cX0_chargeLine 79 = .ok (.return_, 1) := by decide +kernel
theorem dX0_countWaits_0 : decode cX0_countWaits 0 = .ok (.iconst 1, 1) := by decide +kernel
theorem dX0_countWaits_1 : decode cX0_countWaits 1 = .ok (.istore_n 3, 1) := by decide +kernel
theorem dX0_countWaits_2 : decode cX0_countWaits 2 = .ok (.iload_n 3, 1) := by decide +kernel
theorem dX0_countWaits_3 : decode cX0_countWaits 3 = .ok (.bipush 12, 2) := by decide +kernel
theorem dX0_countWaits_5 : decode cX0_countWaits 5 = .ok (.if_icmp .gt 31, 3) := by decide +kernel
theorem dX0_countWaits_8 : decode cX0_countWaits 8 = .ok (.iload_n 1, 1) := by decide +kernel
theorem dX0_countWaits_9 : decode cX0_countWaits 9 = .ok (.iload_n 3, 1) := by decide +kernel
theorem dX0_countWaits_10 : decode cX0_countWaits 10 = .ok (.invokestatic 43, 3) := by decide +kernel
theorem dX0_countWaits_13 : decode cX0_countWaits 13 = .ok (.ifCond .eq 17, 3) := by decide +kernel
theorem dX0_countWaits_16 : decode cX0_countWaits 16 = .ok (.iload_n 3, 1) := by decide +kernel
theorem dX0_countWaits_17 : decode cX0_countWaits 17 = .ok (.iload_n 2, 1) := by decide +kernel
theorem dX0_countWaits_18 : decode cX0_countWaits 18 = .ok (.if_icmp .eq 12, 3) := by decide +kernel
theorem dX0_countWaits_21 : decode cX0_countWaits 21 = .ok (.aload_n 0, 1) := by decide +kernel
theorem dX0_countWaits_22 : decode cX0_countWaits 22 = .ok (.getfield 47, 3) := by decide +kernel
theorem dX0_countWaits_25 : decode cX0_countWaits 25 = .ok (.iload_n 3, 1) := by decide +kernel
theorem dX0_countWaits_26 : decode cX0_countWaits 26 = .ok (.aaload, 1) := by decide +kernel
theorem dX0_countWaits_27 : decode cX0_countWaits 27 = .ok (.invokevirtual 142, 3) := by decide +kernel
theorem dX0_countWaits_30 : decode cX0_countWaits 30 = .ok (.iinc 3 1, 3) := by decide +kernel
theorem dX0_countWaits_33 : decode cX0_countWaits 33 = .ok (.goto (-31), 3) := by decide +kernel
theorem dX0_countWaits_36 : decode cX0_countWaits 36 = .ok (.aload_n 0, 1) := by decide +kernel
theorem dX0_countWaits_37 : decode cX0_countWaits 37 = .ok (.getfield 47, 3) := by decide +kernel
theorem dX0_countWaits_40 : decode cX0_countWaits 40 = .ok (.iload_n 2, 1) := by decide +kernel
theorem dX0_countWaits_41 : decode cX0_countWaits 41 = .ok (.aaload, 1) := by decide +kernel
theorem dX0_countWaits_42 : decode cX0_countWaits 42 = .ok (.iconst 0, 1) := by decide +kernel
theorem dX0_countWaits_43 : decode cX0_countWaits 43 = .ok (.putfield 145, 3) := by decide +kernel
theorem dX0_countWaits_46 : decode cX0_countWaits 46 = .ok (.return_, 1) := by decide +kernel
theorem dX0_growOld_0 : decode cX0_growOld 0 = .ok (.iconst 1, 1) := by decide +kernel
theorem dX0_growOld_1 : decode cX0_growOld 1 = .ok (.istore_n 1, 1) := by decide +kernel
theorem dX0_growOld_2 : decode cX0_growOld 2 = .ok (.iload_n 1, 1) := by decide +kernel
theorem dX0_growOld_3 : decode cX0_growOld 3 = .ok (.bipush 12, 2) := by decide +kernel
theorem dX0_growOld_5 : decode cX0_growOld 5 = .ok (.if_icmp .gt 47, 3) := by decide +kernel
theorem dX0_growOld_8 : decode cX0_growOld 8 = .ok (.aload_n 0, 1) := by decide +kernel
theorem dX0_growOld_9 : decode cX0_growOld 9 = .ok (.getfield 148, 3) := by decide +kernel
theorem dX0_growOld_12 : decode cX0_growOld 12 = .ok (.iload_n 1, 1) := by decide +kernel
theorem dX0_growOld_13 : decode cX0_growOld 13 = .ok (.invokestatic 43, 3) := by decide +kernel
theorem dX0_growOld_16 : decode cX0_growOld 16 = .ok (.ifCond .eq 30, 3) := by decide +kernel
theorem dX0_growOld_19 : decode cX0_growOld 19 = .ok (.aload_n 0, 1) := by decide +kernel
theorem dX0_growOld_20 : decode cX0_growOld 20 = .ok (.getfield 47, 3) := by decide +kernel
theorem dX0_growOld_23 : decode cX0_growOld 23 = .ok (.iload_n 1, 1) := by decide +kernel
theorem dX0_growOld_24 : decode cX0_growOld 24 = .ok (.aaload, 1) := by decide +kernel
theorem dX0_growOld_25 : decode cX0_growOld 25 = .ok (.getfield 151, 3) := by decide +kernel
theorem dX0_growOld_28 : decode cX0_growOld 28 = .ok (.ifCond .ne 18, 3) := by decide +kernel
theorem dX0_growOld_31 : decode cX0_growOld 31 = .ok (.aload_n 0, 1) := by decide +kernel
theorem dX0_growOld_32 : decode cX0_growOld 32 = .ok (.getfield 47, 3) := by decide +kernel
theorem dX0_growOld_35 : decode cX0_growOld 35 = .ok (.iload_n 1, 1) := by decide +kernel
theorem dX0_growOld_36 : decode cX0_growOld 36 = .ok (.aaload, 1) := by decide +kernel
theorem dX0_growOld_37 : decode cX0_growOld 37 = .ok (.dup, 1) := by decide +kernel
theorem dX0_growOld_38 : decode cX0_growOld 38 = .ok (.getfield 155, 3) := by decide +kernel
theorem dX0_growOld_41 : decode cX0_growOld 41 = .ok (.iconst 1, 1) := by decide +kernel
theorem dX0_growOld_42 : decode cX0_growOld 42 = .ok (.iadd, 1) := by decide +kernel
theorem dX0_growOld_43 : decode cX0_growOld 43 = .ok (.putfield 155, 3) := by decide +kernel
theorem dX0_growOld_46 : decode cX0_growOld 46 = .ok (.iinc 1 1, 3) := by decide +kernel
theorem dX0_growOld_49 : decode cX0_growOld 49 = .ok (.goto (-47), 3) := by decide +kernel
theorem dX0_growOld_52 : decode cX0_growOld 52 = .ok (.return_, 1) := by decide +kernel
theorem dX1_term_0 : decode cX1_term 0 = .ok (.aload_n 0, 1) := by decide +kernel
theorem dX1_term_1 : decode cX1_term 1 = .ok (.invokevirtual 9, 3) := by decide +kernel
theorem dX1_term_4 : decode cX1_term 4 = .ok (.istore_n 3, 1) := by decide +kernel
theorem dX1_term_5 : decode cX1_term 5 = .ok (.aload_n 0, 1) := by decide +kernel
theorem dX1_term_6 : decode cX1_term 6 = .ok (.iload_n 3, 1) := by decide +kernel
theorem dX1_term_7 : decode cX1_term 7 = .ok (.invokevirtual 15, 3) := by decide +kernel
theorem dX1_term_10 : decode cX1_term 10 = .ok (.istore 4, 2) := by decide +kernel
theorem dX1_term_12 : decode cX1_term 12 = .ok (.aload_n 0, 1) := by decide +kernel
theorem dX1_term_13 : decode cX1_term 13 = .ok (.iload_n 1, 1) := by decide +kernel
theorem dX1_term_14 : decode cX1_term 14 = .ok (.invokevirtual 19, 3) := by decide +kernel
theorem dX1_term_17 : decode cX1_term 17 = .ok (.istore 5, 2) := by decide +kernel
theorem dX1_term_19 : decode cX1_term 19 = .ok (.iload 4, 2) := by decide +kernel
theorem dX1_term_21 : decode cX1_term 21 = .ok (.iload_n 1, 1) := by decide +kernel
theorem dX1_term_22 : decode cX1_term 22 = .ok (.invokestatic 22, 3) := by decide +kernel
theorem dX1_term_25 : decode cX1_term 25 = .ok (.ifCond .eq 16, 3) := by decide +kernel
theorem dX1_term_28 : decode cX1_term 28 = .ok (.iload 5, 2) := by decide +kernel
theorem dX1_term_30 : decode cX1_term 30 = .ok (.iconst 1, 1) := by decide +kernel
theorem dX1_term_31 : decode cX1_term 31 = .ok (.iload_n 1, 1) := by decide +kernel
theorem dX1_term_32 : decode cX1_term 32 = .ok (.ishl, 1) := by decide +kernel
theorem dX1_term_33 : decode cX1_term 33 = .ok (.iconst (-1), 1) := by decide +kernel
theorem dX1_term_34 : decode cX1_term 34 = .ok (.ixor, 1) := by decide +kernel
theorem dX1_term_35 : decode cX1_term 35 = .ok (.iand, 1) := by decide +kernel
theorem dX1_term_36 : decode cX1_term 36 = .ok (.iload_n 3, 1) := by decide +kernel
theorem dX1_term_37 : decode cX1_term 37 = .ok (.iand, 1) := by decide +kernel
theorem dX1_term_38 : decode cX1_term 38 = .ok (.ifCond .eq 13, 3) := by decide +kernel
theorem dX1_term_41 : decode cX1_term 41 = .ok (.iload_n 2, 1) := by decide +kernel
theorem dX1_term_42 : decode cX1_term 42 = .ok (.ifCond .eq 7, 3) := by decide +kernel
theorem dX1_term_45 : decode cX1_term 45 = .ok (.lconst 0, 1) := by decide +kernel
theorem dX1_term_46 : decode cX1_term 46 = .ok (.goto 4, 3) := by decide +kernel
theorem dX1_term_49 : decode cX1_term 49 = .ok (.lconst 1, 1) := by decide +kernel
theorem dX1_term_50 : decode cX1_term 50 = .ok (.lreturn, 1) := by decide +kernel
theorem dX1_term_51 : decode cX1_term 51 = .ok (.lconst 1, 1) := by decide +kernel
theorem dX1_term_52 : decode cX1_term 52 = .ok (.lstore 6, 2) := by decide +kernel
theorem dX1_term_54 : decode cX1_term 54 = .ok (.lconst 1, 1) := by decide +kernel
theorem dX1_term_55 : decode cX1_term 55 = .ok (.lstore 8, 2) := by decide +kernel
theorem dX1_term_57 : decode cX1_term 57 = .ok (.iload_n 1, 1) := by decide +kernel
theorem dX1_term_58 : decode cX1_term 58 = .ok (.istore 10, 2) := by decide +kernel
theorem dX1_term_60 : decode cX1_term 60 = .ok (.iconst 0, 1) := by decide +kernel
theorem dX1_term_61 : decode cX1_term 61 = .ok (.istore 11, 2) := by decide +kernel
theorem dX1_term_63 : decode cX1_term 63 = .ok (.iload 11, 2) := by decide +kernel
theorem dX1_term_65 : decode cX1_term 65 = .ok (.bipush 12, 2) := by decide +kernel
theorem dX1_term_67 : decode cX1_term 67 = .ok (.if_icmp .ge 56, 3) := by decide +kernel
theorem dX1_term_70 : decode cX1_term 70 = .ok (.iload 10, 2) := by decide +kernel
theorem dX1_term_72 : decode cX1_term 72 = .ok (.ifCond .eq 51, 3) := by decide +kernel
theorem dX1_term_75 : decode cX1_term 75 = .ok (.lload 6, 2) := by decide +kernel
theorem dX1_term_77 : decode cX1_term 77 = .ok (.aload_n 0, 1) := by decide +kernel
theorem dX1_term_78 : decode cX1_term 78 = .ok (.getfield 26, 3) := by decide +kernel
theorem dX1_term_81 : decode cX1_term 81 = .ok (.iload 10, 2) := by decide +kernel
theorem dX1_term_83 : decode cX1_term 83 = .ok (.aaload, 1) := by decide +kernel
theorem dX1_term_84 : decode cX1_term 84 = .ok (.getfield 30, 3) := by decide +kernel
theorem dX1_term_87 : decode cX1_term 87 = .ok (.i2l, 1) := by decide +kernel
theorem dX1_term_88 : decode cX1_term 88 = .ok (.lmul, 1) := by decide +kernel
theorem dX1_term_89 : decode cX1_term 89 = .ok (.lstore 6, 2) := by decide +kernel
theorem dX1_term_91 : decode cX1_term 91 = .ok (.aload_n 0, 1) := by decide +kernel
theorem dX1_term_92 : decode cX1_term 92 = .ok (.getfield 26, 3) := by decide +kernel
theorem dX1_term_95 : decode cX1_term 95 = .ok (.iload 10, 2) := by decide +kernel
theorem dX1_term_97 : decode cX1_term 97 = .ok (.aaload, 1) := by decide +kernel
theorem dX1_term_98 : decode cX1_term 98 = .ok (.getfield 36, 3) := by decide +kernel
theorem dX1_term_101 : decode cX1_term 101 = .ok (.istore 10, 2) := by decide +kernel
theorem dX1_term_103 : decode cX1_term 103 = .ok (.lload 8, 2) := by decide +kernel
theorem dX1_term_105 : decode cX1_term 105 = .ok (.aload_n 0, 1) := by decide +kernel
theorem dX1_term_106 : decode cX1_term 106 = .ok (.iload 10, 2) := by decide +kernel
theorem dX1_term_108 : decode cX1_term 108 = .ok (.iload 4, 2) := by decide +kernel
theorem dX1_term_110 : decode cX1_term 110 = .ok (.invokevirtual 39, 3) := by decide +kernel
theorem dX1_term_113 : decode cX1_term 113 = .ok (.i2l, 1) := by decide +kernel
theorem dX1_term_114 : decode cX1_term 114 = .ok (.lmul, 1) := by decide +kernel
theorem dX1_term_115 : decode cX1_term 115 = .ok (.lstore 8, 2) := by decide +kernel
theorem dX1_term_117 : decode cX1_term 117 = .ok (.iinc 11 1, 3) := by decide +kernel
theorem dX1_term_120 : decode cX1_term 120 = .ok (.goto (-57), 3) := by decide +kernel
theorem dX1_term_123 : decode cX1_term 123 = .ok (.iload_n 2, 1) := by decide +kernel
theorem dX1_term_124 : decode cX1_term 124 = .ok (.ifCond .eq 8, 3) := by decide +kernel
theorem dX1_term_127 : decode cX1_term 127 = .ok (.lload 6, 2) := by decide +kernel
theorem dX1_term_129 : decode cX1_term 129 = .ok (.goto 5, 3) := by decide +kernel
theorem dX1_term_132 : decode cX1_term 132 = .ok (.lload 8, 2) := by decide +kernel
theorem dX1_term_134 : decode cX1_term 134 = .ok (.lload 6, 2) := by decide +kernel
theorem dX1_term_136 : decode cX1_term 136 = .ok (.lload 8, 2) := by decide +kernel
theorem dX1_term_138 : decode cX1_term 138 = .ok (.invokestatic 43, 3) := by decide +kernel
theorem dX1_term_141 : decode cX1_term 141 = .ok (.invokestatic 49, 3) := by decide +kernel
theorem dX1_term_144 : decode cX1_term 144 = .ok (.lreturn, 1) := by decide +kernel
theorem dX1_gcd_0 : decode cX1_gcd 0 = .ok (.lload_n 0, 1) := by decide +kernel
theorem dX1_gcd_1 : decode cX1_gcd 1 = .ok (.lstore 4, 2) := by decide +kernel
theorem dX1_gcd_3 : decode cX1_gcd 3 = .ok (.lload_n 2, 1) := by decide +kernel
theorem dX1_gcd_4 : decode cX1_gcd 4 = .ok (.lstore 6, 2) := by decide +kernel
theorem dX1_gcd_6 : decode cX1_gcd 6 = .ok (.iconst 0, 1) := by decide +kernel
theorem dX1_gcd_7 : decode cX1_gcd 7 = .ok (.istore 8, 2) := by decide +kernel
theorem dX1_gcd_9 : decode cX1_gcd 9 = .ok (.iload 8, 2) := by decide +kernel
theorem dX1_gcd_11 : decode cX1_gcd 11 = .ok (.sipush 200, 3) := by decide +kernel
theorem dX1_gcd_14 : decode cX1_gcd 14 = .ok (.if_icmp .ge 31, 3) := by decide +kernel
theorem dX1_gcd_17 : decode cX1_gcd 17 = .ok (.lload 6, 2) := by decide +kernel
theorem dX1_gcd_19 : decode cX1_gcd 19 = .ok (.lconst 0, 1) := by decide +kernel
theorem dX1_gcd_20 : decode cX1_gcd 20 = .ok (.lcmp, 1) := by decide +kernel
theorem dX1_gcd_21 : decode cX1_gcd 21 = .ok (.ifCond .eq 24, 3) := by decide +kernel
theorem dX1_gcd_24 : decode cX1_gcd 24 = .ok (.lload 4, 2) := by decide +kernel
theorem dX1_gcd_26 : decode cX1_gcd 26 = .ok (.lload 6, 2) := by decide +kernel
theorem dX1_gcd_28 : decode cX1_gcd 28 = .ok (.lrem, 1) := by decide +kernel
theorem dX1_gcd_29 : decode cX1_gcd 29 = .ok (.lstore 9, 2) := by decide +kernel
theorem dX1_gcd_31 : decode cX1_gcd 31 = .ok (.lload 6, 2) := by decide +kernel
theorem dX1_gcd_33 : decode cX1_gcd 33 = .ok (.lstore 4, 2) := by decide +kernel
theorem dX1_gcd_35 : decode cX1_gcd 35 = .ok (.lload 9, 2) := by decide +kernel
theorem dX1_gcd_37 : decode cX1_gcd 37 = .ok (.lstore 6, 2) := by decide +kernel
theorem dX1_gcd_39 : decode cX1_gcd 39 = .ok (.iinc 8 1, 3) := by decide +kernel
theorem dX1_gcd_42 : decode cX1_gcd 42 = .ok (.goto (-33), 3) := by decide +kernel
theorem dX1_gcd_45 : decode cX1_gcd 45 = .ok (.lload 4, 2) := by decide +kernel
theorem dX1_gcd_47 : decode cX1_gcd 47 = .ok (.lreturn, 1) := by decide +kernel
theorem dX2_init_0 : decode cX2_init 0 = .ok (.aload_n 0, 1) := by decide +kernel
theorem dX2_init_1 : decode cX2_init 1 = .ok (.invokespecial 3, 3) := by decide +kernel
theorem dX2_init_4 : decode cX2_init 4 = .ok (.return_, 1) := by decide +kernel
theorem dX2_begin_0 : decode cX2_begin 0 = .ok (.aload_n 0, 1) := by decide +kernel
theorem dX2_begin_1 : decode cX2_begin 1 = .ok (.iconst 0, 1) := by decide +kernel
theorem dX2_begin_2 : decode cX2_begin 2 = .ok (.putfield 9, 3) := by decide +kernel
theorem dX2_begin_5 : decode cX2_begin 5 = .ok (.aload_n 0, 1) := by decide +kernel
theorem dX2_begin_6 : decode cX2_begin 6 = .ok (.iload_n 1, 1) := by decide +kernel
theorem dX2_begin_7 : decode cX2_begin 7 = .ok (.putfield 15, 3) := by decide +kernel
theorem dX2_begin_10 : decode cX2_begin 10 = .ok (.aload_n 0, 1) := by decide +kernel
theorem dX2_begin_11 : decode cX2_begin 11 = .ok (.iconst 0, 1) := by decide +kernel
theorem dX2_begin_12 : decode cX2_begin 12 = .ok (.putfield 18, 3) := by decide +kernel
theorem dX2_begin_15 : decode cX2_begin 15 = .ok (.aload_n 0, 1) := by decide +kernel
theorem dX2_begin_16 : decode cX2_begin 16 = .ok (.sipush 1000, 3) := by decide +kernel
theorem dX2_begin_19 : decode cX2_begin 19 = .ok (.putfield 21, 3) := by decide +kernel
theorem dX2_begin_22 : decode cX2_begin 22 = .ok (.aload_n 0, 1) := by decide +kernel
theorem dX2_begin_23 : decode cX2_begin 23 = .ok (.iconst 3, 1) := by decide +kernel
theorem dX2_begin_24 : decode cX2_begin 24 = .ok (.putfield 24, 3) := by decide +kernel
theorem dX2_begin_27 : decode cX2_begin 27 = .ok (.aload_n 0, 1) := by decide +kernel
theorem dX2_begin_28 : decode cX2_begin 28 = .ok (.iconst 0, 1) := by decide +kernel
theorem dX2_begin_29 : decode cX2_begin 29 = .ok (.putfield 27, 3) := by decide +kernel
theorem dX2_begin_32 : decode cX2_begin 32 = .ok (.aload_n 0, 1) := by decide +kernel
theorem dX2_begin_33 : decode cX2_begin 33 = .ok (.iconst 1, 1) := by decide +kernel
theorem dX2_begin_34 : decode cX2_begin 34 = .ok (.putfield 30, 3) := by decide +kernel
theorem dX2_begin_37 : decode cX2_begin 37 = .ok (.aload_n 0, 1) := by decide +kernel
theorem dX2_begin_38 : decode cX2_begin 38 = .ok (.iconst 0, 1) := by decide +kernel
theorem dX2_begin_39 : decode cX2_begin 39 = .ok (.putfield 34, 3) := by decide +kernel
theorem dX2_begin_42 : decode cX2_begin 42 = .ok (.aload_n 0, 1) := by decide +kernel
theorem dX2_begin_43 : decode cX2_begin 43 = .ok (.iconst 0, 1) := by decide +kernel
theorem dX2_begin_44 : decode cX2_begin 44 = .ok (.putfield 37, 3) := by decide +kernel
theorem dX2_begin_47 : decode cX2_begin 47 = .ok (.aload_n 0, 1) := by decide +kernel
theorem dX2_begin_48 : decode cX2_begin 48 = .ok (.iconst 0, 1) := by decide +kernel
theorem dX2_begin_49 : decode cX2_begin 49 = .ok (.putfield 40, 3) := by decide +kernel
theorem dX2_begin_52 : decode cX2_begin 52 = .ok (.aload_n 0, 1) := by decide +kernel
theorem dX2_begin_53 : decode cX2_begin 53 = .ok (.iconst 0, 1) := by decide +kernel
theorem dX2_begin_54 : decode cX2_begin 54 = .ok (.putfield 43, 3) := by decide +kernel
theorem dX2_begin_57 : decode cX2_begin 57 = .ok (.aload_n 0, 1) := by decide +kernel
theorem dX2_begin_58 : decode cX2_begin 58 = .ok (.iconst (-1), 1) := by decide +kernel
theorem dX2_begin_59 : decode cX2_begin 59 = .ok (.putfield 46, 3) := by decide +kernel
theorem dX2_begin_62 : decode cX2_begin 62 = .ok (.aload_n 0, 1) := by decide +kernel
theorem dX2_begin_63 : decode cX2_begin 63 = .ok (.lconst 0, 1) := by decide +kernel
theorem dX2_begin_64 : decode cX2_begin 64 = .ok (.putfield 49, 3) := by decide +kernel
theorem dX2_begin_67 : decode cX2_begin 67 = .ok (.aload_n 0, 1) := by decide +kernel
theorem dX2_begin_68 : decode cX2_begin 68 = .ok (.lconst 0, 1) := by decide +kernel
theorem dX2_begin_69 : decode cX2_begin 69 = .ok (.putfield 53, 3) := by decide +kernel
theorem dX2_begin_72 : decode cX2_begin 72 = .ok (.return_, 1) := by decide +kernel
theorem dX2_copyFrom_0 : decode cX2_copyFrom 0 = .ok (.aload_n 0, 1) := by decide +kernel
theorem dX2_copyFrom_1 : decode cX2_copyFrom 1 = .ok (.aload_n 1, 1) := by decide +kernel
theorem dX2_copyFrom_2 : decode cX2_copyFrom 2 = .ok (.getfield 9, 3) := by decide +kernel
theorem dX2_copyFrom_5 : decode cX2_copyFrom 5 = .ok (.putfield 9, 3) := by decide +kernel
theorem dX2_copyFrom_8 : decode cX2_copyFrom 8 = .ok (.aload_n 0, 1) := by decide +kernel
theorem dX2_copyFrom_9 : decode cX2_copyFrom 9 = .ok (.aload_n 1, 1) := by decide +kernel
theorem dX2_copyFrom_10 : decode cX2_copyFrom 10 = .ok (.getfield 15, 3) := by decide +kernel
theorem dX2_copyFrom_13 : decode cX2_copyFrom 13 = .ok (.putfield 15, 3) := by decide +kernel
theorem dX2_copyFrom_16 : decode cX2_copyFrom 16 = .ok (.aload_n 0, 1) := by decide +kernel
theorem dX2_copyFrom_17 : decode cX2_copyFrom 17 = .ok (.aload_n 1, 1) := by decide +kernel
theorem dX2_copyFrom_18 : decode cX2_copyFrom 18 = .ok (.getfield 18, 3) := by decide +kernel
theorem dX2_copyFrom_21 : decode cX2_copyFrom 21 = .ok (.putfield 18, 3) := by decide +kernel
theorem dX2_copyFrom_24 : decode cX2_copyFrom 24 = .ok (.aload_n 0, 1) := by decide +kernel
theorem dX2_copyFrom_25 : decode cX2_copyFrom 25 = .ok (.aload_n 1, 1) := by decide +kernel
theorem dX2_copyFrom_26 : decode cX2_copyFrom 26 = .ok (.getfield 21, 3) := by decide +kernel
theorem dX2_copyFrom_29 : decode cX2_copyFrom 29 = .ok (.putfield 21, 3) := by decide +kernel
theorem dX2_copyFrom_32 : decode cX2_copyFrom 32 = .ok (.aload_n 0, 1) := by decide +kernel
theorem dX2_copyFrom_33 : decode cX2_copyFrom 33 = .ok (.aload_n 1, 1) := by decide +kernel
theorem dX2_copyFrom_34 : decode cX2_copyFrom 34 = .ok (.getfield 24, 3) := by decide +kernel
theorem dX2_copyFrom_37 : decode cX2_copyFrom 37 = .ok (.putfield 24, 3) := by decide +kernel
theorem dX2_copyFrom_40 : decode cX2_copyFrom 40 = .ok (.aload_n 0, 1) := by decide +kernel
theorem dX2_copyFrom_41 : decode cX2_copyFrom 41 = .ok (.aload_n 1, 1) := by decide +kernel
theorem dX2_copyFrom_42 : decode cX2_copyFrom 42 = .ok (.getfield 27, 3) := by decide +kernel
theorem dX2_copyFrom_45 : decode cX2_copyFrom 45 = .ok (.putfield 27, 3) := by decide +kernel
theorem dX2_copyFrom_48 : decode cX2_copyFrom 48 = .ok (.aload_n 0, 1) := by decide +kernel
theorem dX2_copyFrom_49 : decode cX2_copyFrom 49 = .ok (.aload_n 1, 1) := by decide +kernel
theorem dX2_copyFrom_50 : decode cX2_copyFrom 50 = .ok (.getfield 30, 3) := by decide +kernel
theorem dX2_copyFrom_53 : decode cX2_copyFrom 53 = .ok (.putfield 30, 3) := by decide +kernel
theorem dX2_copyFrom_56 : decode cX2_copyFrom 56 = .ok (.aload_n 0, 1) := by decide +kernel
theorem dX2_copyFrom_57 : decode cX2_copyFrom 57 = .ok (.aload_n 1, 1) := by decide +kernel
theorem dX2_copyFrom_58 : decode cX2_copyFrom 58 = .ok (.getfield 34, 3) := by decide +kernel
theorem dX2_copyFrom_61 : decode cX2_copyFrom 61 = .ok (.putfield 34, 3) := by decide +kernel
theorem dX2_copyFrom_64 : decode cX2_copyFrom 64 = .ok (.aload_n 0, 1) := by decide +kernel
theorem dX2_copyFrom_65 : decode cX2_copyFrom 65 = .ok (.aload_n 1, 1) := by decide +kernel
theorem dX2_copyFrom_66 : decode cX2_copyFrom 66 = .ok (.getfield 37, 3) := by decide +kernel
theorem dX2_copyFrom_69 : decode cX2_copyFrom 69 = .ok (.putfield 37, 3) := by decide +kernel
theorem dX2_copyFrom_72 : decode cX2_copyFrom 72 = .ok (.aload_n 0, 1) := by decide +kernel
theorem dX2_copyFrom_73 : decode cX2_copyFrom 73 = .ok (.aload_n 1, 1) := by decide +kernel
theorem dX2_copyFrom_74 : decode cX2_copyFrom 74 = .ok (.getfield 40, 3) := by decide +kernel
theorem dX2_copyFrom_77 : decode cX2_copyFrom 77 = .ok (.putfield 40, 3) := by decide +kernel
theorem dX2_copyFrom_80 : decode cX2_copyFrom 80 = .ok (.aload_n 0, 1) := by decide +kernel
theorem dX2_copyFrom_81 : decode cX2_copyFrom 81 = .ok (.aload_n 1, 1) := by decide +kernel
theorem dX2_copyFrom_82 : decode cX2_copyFrom 82 = .ok (.getfield 43, 3) := by decide +kernel
theorem dX2_copyFrom_85 : decode cX2_copyFrom 85 = .ok (.putfield 43, 3) := by decide +kernel
theorem dX2_copyFrom_88 : decode cX2_copyFrom 88 = .ok (.aload_n 0, 1) := by decide +kernel
theorem dX2_copyFrom_89 : decode cX2_copyFrom 89 = .ok (.aload_n 1, 1) := by decide +kernel
theorem dX2_copyFrom_90 : decode cX2_copyFrom 90 = .ok (.getfield 46, 3) := by decide +kernel
theorem dX2_copyFrom_93 : decode cX2_copyFrom 93 = .ok (.putfield 46, 3) := by decide +kernel
theorem dX2_copyFrom_96 : decode cX2_copyFrom 96 = .ok (.aload_n 0, 1) := by decide +kernel
theorem dX2_copyFrom_97 : decode cX2_copyFrom 97 = .ok (.aload_n 1, 1) := by decide +kernel
theorem dX2_copyFrom_98 : decode cX2_copyFrom 98 = .ok (.getfield 49, 3) := by decide +kernel
theorem dX2_copyFrom_101 : decode cX2_copyFrom 101 = .ok (.putfield 49, 3) := by decide +kernel
theorem dX2_copyFrom_104 : decode cX2_copyFrom 104 = .ok (.aload_n 0, 1) := by decide +kernel
theorem dX2_copyFrom_105 : decode cX2_copyFrom 105 = .ok (.aload_n 1, 1) := by decide +kernel
theorem dX2_copyFrom_106 : decode cX2_copyFrom 106 = .ok (.getfield 53, 3) := by decide +kernel
theorem dX2_copyFrom_109 : decode cX2_copyFrom 109 = .ok (.putfield 53, 3) := by decide +kernel
theorem dX2_copyFrom_112 : decode cX2_copyFrom 112 = .ok (.return_, 1) := by decide +kernel
theorem dX2_can_0 : decode cX2_can 0 = .ok (.aload_n 0, 1) := by decide +kernel
theorem dX2_can_1 : decode cX2_can 1 = .ok (.getfield 30, 3) := by decide +kernel
theorem dX2_can_4 : decode cX2_can 4 = .ok (.ifCond .eq 21, 3) := by decide +kernel
theorem dX2_can_7 : decode cX2_can 7 = .ok (.aload_n 0, 1) := by decide +kernel
theorem dX2_can_8 : decode cX2_can 8 = .ok (.getfield 18, 3) := by decide +kernel
theorem dX2_can_11 : decode cX2_can 11 = .ok (.ifCond .le 14, 3) := by decide +kernel
theorem dX2_can_14 : decode cX2_can 14 = .ok (.aload_n 0, 1) := by decide +kernel
theorem dX2_can_15 : decode cX2_can 15 = .ok (.getfield 21, 3) := by decide +kernel
theorem dX2_can_18 : decode cX2_can 18 = .ok (.ifCond .le 7, 3) := by decide +kernel
theorem dX2_can_21 : decode cX2_can 21 = .ok (.iconst 1, 1) := by decide +kernel
theorem dX2_can_22 : decode cX2_can 22 = .ok (.goto 4, 3) := by decide +kernel
theorem dX2_can_25 : decode cX2_can 25 = .ok (.iconst 0, 1) := by decide +kernel
theorem dX2_can_26 : decode cX2_can 26 = .ok (.ireturn, 1) := by decide +kernel
theorem dX2_held_0 : decode cX2_held 0 = .ok (.iload_n 1, 1) := by decide +kernel
theorem dX2_held_1 : decode cX2_held 1 = .ok (.tableswitch 122 0 10 #[59, 64, 69, 74, 79, 84, 89, 102, 107, 112, 117], 59) := by decide +kernel
theorem dX2_held_60 : decode cX2_held 60 = .ok (.aload_n 0, 1) := by decide +kernel
theorem dX2_held_61 : decode cX2_held 61 = .ok (.getfield 9, 3) := by decide +kernel
theorem dX2_held_64 : decode cX2_held 64 = .ok (.ireturn, 1) := by decide +kernel
theorem dX2_held_65 : decode cX2_held 65 = .ok (.aload_n 0, 1) := by decide +kernel
theorem dX2_held_66 : decode cX2_held 66 = .ok (.getfield 15, 3) := by decide +kernel
theorem dX2_held_69 : decode cX2_held 69 = .ok (.ireturn, 1) := by decide +kernel
theorem dX2_held_70 : decode cX2_held 70 = .ok (.aload_n 0, 1) := by decide +kernel
theorem dX2_held_71 : decode cX2_held 71 = .ok (.getfield 18, 3) := by decide +kernel
theorem dX2_held_74 : decode cX2_held 74 = .ok (.ireturn, 1) := by decide +kernel
theorem dX2_held_75 : decode cX2_held 75 = .ok (.aload_n 0, 1) := by decide +kernel
theorem dX2_held_76 : decode cX2_held 76 = .ok (.getfield 21, 3) := by decide +kernel
theorem dX2_held_79 : decode cX2_held 79 = .ok (.ireturn, 1) := by decide +kernel
theorem dX2_held_80 : decode cX2_held 80 = .ok (.aload_n 0, 1) := by decide +kernel
theorem dX2_held_81 : decode cX2_held 81 = .ok (.getfield 24, 3) := by decide +kernel
theorem dX2_held_84 : decode cX2_held 84 = .ok (.ireturn, 1) := by decide +kernel
theorem dX2_held_85 : decode cX2_held 85 = .ok (.aload_n 0, 1) := by decide +kernel
theorem dX2_held_86 : decode cX2_held 86 = .ok (.getfield 27, 3) := by decide +kernel
theorem dX2_held_89 : decode cX2_held 89 = .ok (.ireturn, 1) := by decide +kernel
theorem dX2_held_90 : decode cX2_held 90 = .ok (.aload_n 0, 1) := by decide +kernel
theorem dX2_held_91 : decode cX2_held 91 = .ok (.getfield 30, 3) := by decide +kernel
theorem dX2_held_94 : decode cX2_held 94 = .ok (.ifCond .eq 7, 3) := by decide +kernel
theorem dX2_held_97 : decode cX2_held 97 = .ok (.iconst 1, 1) := by decide +kernel
theorem dX2_held_98 : decode cX2_held 98 = .ok (.goto 4, 3) := by decide +kernel
theorem dX2_held_101 : decode cX2_held 101 = .ok (.iconst 0, 1) := by decide +kernel
theorem dX2_held_102 : decode cX2_held 102 = .ok (.ireturn, 1) := by decide +kernel
theorem dX2_held_103 : decode cX2_held 103 = .ok (.aload_n 0, 1) := by decide +kernel
theorem dX2_held_104 : decode cX2_held 104 = .ok (.getfield 34, 3) := by decide +kernel
theorem dX2_held_107 : decode cX2_held 107 = .ok (.ireturn, 1) := by decide +kernel
theorem dX2_held_108 : decode cX2_held 108 = .ok (.aload_n 0, 1) := by decide +kernel
theorem dX2_held_109 : decode cX2_held 109 = .ok (.getfield 37, 3) := by decide +kernel
theorem dX2_held_112 : decode cX2_held 112 = .ok (.ireturn, 1) := by decide +kernel
theorem dX2_held_113 : decode cX2_held 113 = .ok (.aload_n 0, 1) := by decide +kernel
theorem dX2_held_114 : decode cX2_held 114 = .ok (.getfield 40, 3) := by decide +kernel
theorem dX2_held_117 : decode cX2_held 117 = .ok (.ireturn, 1) := by decide +kernel
theorem dX2_held_118 : decode cX2_held 118 = .ok (.aload_n 0, 1) := by decide +kernel
theorem dX2_held_119 : decode cX2_held 119 = .ok (.getfield 43, 3) := by decide +kernel
theorem dX2_held_122 : decode cX2_held 122 = .ok (.ireturn, 1) := by decide +kernel
theorem dX2_held_123 : decode cX2_held 123 = .ok (.aload_n 0, 1) := by decide +kernel
theorem dX2_held_124 : decode cX2_held 124 = .ok (.getfield 46, 3) := by decide +kernel
theorem dX2_held_127 : decode cX2_held 127 = .ok (.ireturn, 1) := by decide +kernel
theorem dX2_change_0 : decode cX2_change 0 = .ok (.iload_n 1, 1) := by decide +kernel
theorem dX2_change_1 : decode cX2_change 1 = .ok (.ifCond .ne 16, 3) := by decide +kernel
theorem dX2_change_4 : decode cX2_change 4 = .ok (.aload_n 0, 1) := by decide +kernel
theorem dX2_change_5 : decode cX2_change 5 = .ok (.getfield 15, 3) := by decide +kernel
theorem dX2_change_8 : decode cX2_change 8 = .ok (.istore_n 3, 1) := by decide +kernel
theorem dX2_change_9 : decode cX2_change 9 = .ok (.aload_n 0, 1) := by decide +kernel
theorem dX2_change_10 : decode cX2_change 10 = .ok (.iload_n 2, 1) := by decide +kernel
theorem dX2_change_11 : decode cX2_change 11 = .ok (.putfield 15, 3) := by decide +kernel
theorem dX2_change_14 : decode cX2_change 14 = .ok (.goto 31, 3) := by decide +kernel
theorem dX2_change_17 : decode cX2_change 17 = .ok (.iload_n 1, 1) := by decide +kernel
theorem dX2_change_18 : decode cX2_change 18 = .ok (.iconst 1, 1) := by decide +kernel
theorem dX2_change_19 : decode cX2_change 19 = .ok (.if_icmp .ne 16, 3) := by decide +kernel
theorem dX2_change_22 : decode cX2_change 22 = .ok (.aload_n 0, 1) := by decide +kernel
theorem dX2_change_23 : decode cX2_change 23 = .ok (.getfield 24, 3) := by decide +kernel
theorem dX2_change_26 : decode cX2_change 26 = .ok (.istore_n 3, 1) := by decide +kernel
theorem dX2_change_27 : decode cX2_change 27 = .ok (.aload_n 0, 1) := by decide +kernel
theorem dX2_change_28 : decode cX2_change 28 = .ok (.iload_n 2, 1) := by decide +kernel
theorem dX2_change_29 : decode cX2_change 29 = .ok (.putfield 24, 3) := by decide +kernel
theorem dX2_change_32 : decode cX2_change 32 = .ok (.goto 13, 3) := by decide +kernel
theorem dX2_change_35 : decode cX2_change 35 = .ok (.aload_n 0, 1) := by decide +kernel
theorem dX2_change_36 : decode cX2_change 36 = .ok (.getfield 27, 3) := by decide +kernel
theorem dX2_change_39 : decode cX2_change 39 = .ok (.istore_n 3, 1) := by decide +kernel
theorem dX2_change_40 : decode cX2_change 40 = .ok (.aload_n 0, 1) := by decide +kernel
theorem dX2_change_41 : decode cX2_change 41 = .ok (.iload_n 2, 1) := by decide +kernel
theorem dX2_change_42 : decode cX2_change 42 = .ok (.putfield 27, 3) := by decide +kernel
theorem dX2_change_45 : decode cX2_change 45 = .ok (.iload_n 3, 1) := by decide +kernel
theorem dX2_change_46 : decode cX2_change 46 = .ok (.ireturn, 1) := by decide +kernel
theorem dX2_waitOnce_0 : decode cX2_waitOnce 0 = .ok (.aload_n 0, 1) := by decide +kernel
theorem dX2_waitOnce_1 : decode cX2_waitOnce 1 = .ok (.dup, 1) := by decide +kernel
theorem dX2_waitOnce_2 : decode cX2_waitOnce 2 = .ok (.getfield 40, 3) := by decide +kernel
theorem dX2_waitOnce_5 : decode cX2_waitOnce 5 = .ok (.iconst 1, 1) := by decide +kernel
theorem dX2_waitOnce_6 : decode cX2_waitOnce 6 = .ok (.iadd, 1) := by decide +kernel
theorem dX2_waitOnce_7 : decode cX2_waitOnce 7 = .ok (.putfield 40, 3) := by decide +kernel
theorem dX2_waitOnce_10 : decode cX2_waitOnce 10 = .ok (.aload_n 0, 1) := by decide +kernel
theorem dX2_waitOnce_11 : decode cX2_waitOnce 11 = .ok (.aload_n 0, 1) := by decide +kernel
theorem dX2_waitOnce_12 : decode cX2_waitOnce 12 = .ok (.getfield 43, 3) := by decide +kernel
theorem dX2_waitOnce_15 : decode cX2_waitOnce 15 = .ok (.aload_n 0, 1) := by decide +kernel
theorem dX2_waitOnce_16 : decode cX2_waitOnce 16 = .ok (.getfield 40, 3) := by decide +kernel
theorem dX2_waitOnce_19 : decode cX2_waitOnce 19 = .ok (.invokestatic 56, 3) := by decide +kernel
theorem dX2_waitOnce_22 : decode cX2_waitOnce 22 = .ok (.putfield 43, 3) := by decide +kernel
theorem dX2_waitOnce_25 : decode cX2_waitOnce 25 = .ok (.return_, 1) := by decide +kernel
theorem dX3_init_0 : decode cX3_init 0 = .ok (.aload_n 0, 1) := by decide +kernel
theorem dX3_init_1 : decode cX3_init 1 = .ok (.invokespecial 3, 3) := by decide +kernel
theorem dX3_init_4 : decode cX3_init 4 = .ok (.aload_n 0, 1) := by decide +kernel
theorem dX3_init_5 : decode cX3_init 5 = .ok (.bipush 13, 2) := by decide +kernel
theorem dX3_init_7 : decode cX3_init 7 = .ok (.anewarray 9, 3) := by decide +kernel
theorem dX3_init_10 : decode cX3_init 10 = .ok (.putfield 11, 3) := by decide +kernel
theorem dX3_init_13 : decode cX3_init 13 = .ok (.iconst 0, 1) := by decide +kernel
theorem dX3_init_14 : decode cX3_init 14 = .ok (.istore_n 1, 1) := by decide +kernel
theorem dX3_init_15 : decode cX3_init 15 = .ok (.iload_n 1, 1) := by decide +kernel
theorem dX3_init_16 : decode cX3_init 16 = .ok (.bipush 12, 2) := by decide +kernel
theorem dX3_init_18 : decode cX3_init 18 = .ok (.if_icmp .gt 22, 3) := by decide +kernel
theorem dX3_init_21 : decode cX3_init 21 = .ok (.aload_n 0, 1) := by decide +kernel
theorem dX3_init_22 : decode cX3_init 22 = .ok (.getfield 11, 3) := by decide +kernel
theorem dX3_init_25 : decode cX3_init 25 = .ok (.iload_n 1, 1) := by decide +kernel
theorem dX3_init_26 : decode cX3_init 26 = .ok (.new 9, 3) := by decide +kernel
theorem dX3_init_29 : decode cX3_init 29 = .ok (.dup, 1) := by decide +kernel
theorem dX3_init_30 : decode cX3_init 30 = .ok (.invokespecial 17, 3) := by decide +kernel
theorem dX3_init_33 : decode cX3_init 33 = .ok (.aastore, 1) := by decide +kernel
theorem dX3_init_34 : decode cX3_init 34 = .ok (.iinc 1 1, 3) := by decide +kernel
theorem dX3_init_37 : decode cX3_init 37 = .ok (.goto (-22), 3) := by decide +kernel
theorem dX3_init_40 : decode cX3_init 40 = .ok (.aload_n 0, 1) := by decide +kernel
theorem dX3_init_41 : decode cX3_init 41 = .ok (.sipush 10000, 3) := by decide +kernel
theorem dX3_init_44 : decode cX3_init 44 = .ok (.putfield 18, 3) := by decide +kernel
theorem dX3_init_47 : decode cX3_init 47 = .ok (.aload_n 0, 1) := by decide +kernel
theorem dX3_init_48 : decode cX3_init 48 = .ok (.bipush 100, 2) := by decide +kernel
theorem dX3_init_50 : decode cX3_init 50 = .ok (.putfield 22, 3) := by decide +kernel
theorem dX3_init_53 : decode cX3_init 53 = .ok (.aload_n 0, 1) := by decide +kernel
theorem dX3_init_54 : decode cX3_init 54 = .ok (.bipush 10, 2) := by decide +kernel
theorem dX3_init_56 : decode cX3_init 56 = .ok (.putfield 25, 3) := by decide +kernel
theorem dX3_init_59 : decode cX3_init 59 = .ok (.aload_n 0, 1) := by decide +kernel
theorem dX3_init_60 : decode cX3_init 60 = .ok (.iconst (-1), 1) := by decide +kernel
theorem dX3_init_61 : decode cX3_init 61 = .ok (.putfield 28, 3) := by decide +kernel
theorem dX3_init_64 : decode cX3_init 64 = .ok (.return_, 1) := by decide +kernel
theorem dX3_copyFrom_0 : decode cX3_copyFrom 0 = .ok (.iconst 0, 1) := by decide +kernel
theorem dX3_copyFrom_1 : decode cX3_copyFrom 1 = .ok (.istore_n 2, 1) := by decide +kernel
theorem dX3_copyFrom_2 : decode cX3_copyFrom 2 = .ok (.iload_n 2, 1) := by decide +kernel
theorem dX3_copyFrom_3 : decode cX3_copyFrom 3 = .ok (.bipush 12, 2) := by decide +kernel
theorem dX3_copyFrom_5 : decode cX3_copyFrom 5 = .ok (.if_icmp .gt 24, 3) := by decide +kernel
theorem dX3_copyFrom_8 : decode cX3_copyFrom 8 = .ok (.aload_n 0, 1) := by decide +kernel
theorem dX3_copyFrom_9 : decode cX3_copyFrom 9 = .ok (.getfield 11, 3) := by decide +kernel
theorem dX3_copyFrom_12 : decode cX3_copyFrom 12 = .ok (.iload_n 2, 1) := by decide +kernel
theorem dX3_copyFrom_13 : decode cX3_copyFrom 13 = .ok (.aaload, 1) := by decide +kernel
theorem dX3_copyFrom_14 : decode cX3_copyFrom 14 = .ok (.aload_n 1, 1) := by decide +kernel
theorem dX3_copyFrom_15 : decode cX3_copyFrom 15 = .ok (.getfield 11, 3) := by decide +kernel
theorem dX3_copyFrom_18 : decode cX3_copyFrom 18 = .ok (.iload_n 2, 1) := by decide +kernel
theorem dX3_copyFrom_19 : decode cX3_copyFrom 19 = .ok (.aaload, 1) := by decide +kernel
theorem dX3_copyFrom_20 : decode cX3_copyFrom 20 = .ok (.invokevirtual 31, 3) := by decide +kernel
theorem dX3_copyFrom_23 : decode cX3_copyFrom 23 = .ok (.iinc 2 1, 3) := by decide +kernel
theorem dX3_copyFrom_26 : decode cX3_copyFrom 26 = .ok (.goto (-24), 3) := by decide +kernel
theorem dX3_copyFrom_29 : decode cX3_copyFrom 29 = .ok (.aload_n 0, 1) := by decide +kernel
theorem dX3_copyFrom_30 : decode cX3_copyFrom 30 = .ok (.aload_n 1, 1) := by decide +kernel
theorem dX3_copyFrom_31 : decode cX3_copyFrom 31 = .ok (.getfield 35, 3) := by decide +kernel
theorem dX3_copyFrom_34 : decode cX3_copyFrom 34 = .ok (.putfield 35, 3) := by decide +kernel
theorem dX3_copyFrom_37 : decode cX3_copyFrom 37 = .ok (.aload_n 0, 1) := by decide +kernel
theorem dX3_copyFrom_38 : decode cX3_copyFrom 38 = .ok (.aload_n 1, 1) := by decide +kernel
theorem dX3_copyFrom_39 : decode cX3_copyFrom 39 = .ok (.getfield 38, 3) := by decide +kernel
theorem dX3_copyFrom_42 : decode cX3_copyFrom 42 = .ok (.putfield 38, 3) := by decide +kernel
theorem dX3_copyFrom_45 : decode cX3_copyFrom 45 = .ok (.aload_n 0, 1) := by decide +kernel
theorem dX3_copyFrom_46 : decode cX3_copyFrom 46 = .ok (.aload_n 1, 1) := by decide +kernel
theorem dX3_copyFrom_47 : decode cX3_copyFrom 47 = .ok (.getfield 18, 3) := by decide +kernel
theorem dX3_copyFrom_50 : decode cX3_copyFrom 50 = .ok (.putfield 18, 3) := by decide +kernel
theorem dX3_copyFrom_53 : decode cX3_copyFrom 53 = .ok (.aload_n 0, 1) := by decide +kernel
theorem dX3_copyFrom_54 : decode cX3_copyFrom 54 = .ok (.aload_n 1, 1) := by decide +kernel
theorem dX3_copyFrom_55 : decode cX3_copyFrom 55 = .ok (.getfield 22, 3) := by decide +kernel
theorem dX3_copyFrom_58 : decode cX3_copyFrom 58 = .ok (.putfield 22, 3) := by decide +kernel
theorem dX3_copyFrom_61 : decode cX3_copyFrom 61 = .ok (.aload_n 0, 1) := by decide +kernel
theorem dX3_copyFrom_62 : decode cX3_copyFrom 62 = .ok (.aload_n 1, 1) := by decide +kernel
theorem dX3_copyFrom_63 : decode cX3_copyFrom 63 = .ok (.getfield 25, 3) := by decide +kernel
theorem dX3_copyFrom_66 : decode cX3_copyFrom 66 = .ok (.putfield 25, 3) := by decide +kernel
theorem dX3_copyFrom_69 : decode cX3_copyFrom 69 = .ok (.aload_n 0, 1) := by decide +kernel
theorem dX3_copyFrom_70 : decode cX3_copyFrom 70 = .ok (.aload_n 1, 1) := by decide +kernel
theorem dX3_copyFrom_71 : decode cX3_copyFrom 71 = .ok (.getfield 41, 3) := by decide +kernel
theorem dX3_copyFrom_74 : decode cX3_copyFrom 74 = .ok (.putfield 41, 3) := by decide +kernel
theorem dX3_copyFrom_77 : decode cX3_copyFrom 77 = .ok (.aload_n 0, 1) := by decide +kernel
theorem dX3_copyFrom_78 : decode cX3_copyFrom 78 = .ok (.aload_n 1, 1) := by decide +kernel
theorem dX3_copyFrom_79 : decode cX3_copyFrom 79 = .ok (.getfield 44, 3) := by decide +kernel
theorem dX3_copyFrom_82 : decode cX3_copyFrom 82 = .ok (.putfield 44, 3) := by decide +kernel
theorem dX3_copyFrom_85 : decode cX3_copyFrom 85 = .ok (.aload_n 0, 1) := by decide +kernel
theorem dX3_copyFrom_86 : decode cX3_copyFrom 86 = .ok (.aload_n 1, 1) := by decide +kernel
theorem dX3_copyFrom_87 : decode cX3_copyFrom 87 = .ok (.getfield 47, 3) := by decide +kernel
theorem dX3_copyFrom_90 : decode cX3_copyFrom 90 = .ok (.putfield 47, 3) := by decide +kernel
theorem dX3_copyFrom_93 : decode cX3_copyFrom 93 = .ok (.aload_n 0, 1) := by decide +kernel
theorem dX3_copyFrom_94 : decode cX3_copyFrom 94 = .ok (.aload_n 1, 1) := by decide +kernel
theorem dX3_copyFrom_95 : decode cX3_copyFrom 95 = .ok (.getfield 28, 3) := by decide +kernel
theorem dX3_copyFrom_98 : decode cX3_copyFrom 98 = .ok (.putfield 28, 3) := by decide +kernel
theorem dX3_copyFrom_101 : decode cX3_copyFrom 101 = .ok (.return_, 1) := by decide +kernel
theorem dX3_isThere_0 : decode cX3_isThere 0 = .ok (.iload_n 1, 1) := by decide +kernel
theorem dX3_isThere_1 : decode cX3_isThere 1 = .ok (.iconst 1, 1) := by decide +kernel
theorem dX3_isThere_2 : decode cX3_isThere 2 = .ok (.bipush 12, 2) := by decide +kernel
theorem dX3_isThere_4 : decode cX3_isThere 4 = .ok (.invokestatic 50, 3) := by decide +kernel
theorem dX3_isThere_7 : decode cX3_isThere 7 = .ok (.ifCond .eq 18, 3) := by decide +kernel
theorem dX3_isThere_10 : decode cX3_isThere 10 = .ok (.aload_n 0, 1) := by decide +kernel
theorem dX3_isThere_11 : decode cX3_isThere 11 = .ok (.getfield 35, 3) := by decide +kernel
theorem dX3_isThere_14 : decode cX3_isThere 14 = .ok (.iload_n 1, 1) := by decide +kernel
theorem dX3_isThere_15 : decode cX3_isThere 15 = .ok (.invokestatic 54, 3) := by decide +kernel
theorem dX3_isThere_18 : decode cX3_isThere 18 = .ok (.ifCond .eq 7, 3) := by decide +kernel
theorem dX3_isThere_21 : decode cX3_isThere 21 = .ok (.iconst 1, 1) := by decide +kernel
theorem dX3_isThere_22 : decode cX3_isThere 22 = .ok (.goto 4, 3) := by decide +kernel
theorem dX3_isThere_25 : decode cX3_isThere 25 = .ok (.iconst 0, 1) := by decide +kernel
theorem dX3_isThere_26 : decode cX3_isThere 26 = .ok (.ireturn, 1) := by decide +kernel
theorem dX3_isNode_0 : decode cX3_isNode 0 = .ok (.iload_n 1, 1) := by decide +kernel
theorem dX3_isNode_1 : decode cX3_isNode 1 = .ok (.ifCond .eq 11, 3) := by decide +kernel
theorem dX3_isNode_4 : decode cX3_isNode 4 = .ok (.aload_n 0, 1) := by decide +kernel
theorem dX3_isNode_5 : decode cX3_isNode 5 = .ok (.iload_n 1, 1) := by decide +kernel
theorem dX3_isNode_6 : decode cX3_isNode 6 = .ok (.invokevirtual 58, 3) := by decide +kernel
theorem dX3_isNode_9 : decode cX3_isNode 9 = .ok (.ifCond .eq 7, 3) := by decide +kernel
theorem dX3_isNode_12 : decode cX3_isNode 12 = .ok (.iconst 1, 1) := by decide +kernel
theorem dX3_isNode_13 : decode cX3_isNode 13 = .ok (.goto 4, 3) := by decide +kernel
theorem dX3_isNode_16 : decode cX3_isNode 16 = .ok (.iconst 0, 1) := by decide +kernel
theorem dX3_isNode_17 : decode cX3_isNode 17 = .ok (.ireturn, 1) := by decide +kernel
theorem dX3_isChild_0 : decode cX3_isChild 0 = .ok (.aload_n 0, 1) := by decide +kernel
theorem dX3_isChild_1 : decode cX3_isChild 1 = .ok (.getfield 35, 3) := by decide +kernel
theorem dX3_isChild_4 : decode cX3_isChild 4 = .ok (.iload_n 1, 1) := by decide +kernel
theorem dX3_isChild_5 : decode cX3_isChild 5 = .ok (.invokestatic 54, 3) := by decide +kernel
theorem dX3_isChild_8 : decode cX3_isChild 8 = .ok (.ifCond .eq 20, 3) := by decide +kernel
theorem dX3_isChild_11 : decode cX3_isChild 11 = .ok (.aload_n 0, 1) := by decide +kernel
theorem dX3_isChild_12 : decode cX3_isChild 12 = .ok (.getfield 11, 3) := by decide +kernel
theorem dX3_isChild_15 : decode cX3_isChild 15 = .ok (.iload_n 1, 1) := by decide +kernel
theorem dX3_isChild_16 : decode cX3_isChild 16 = .ok (.aaload, 1) := by decide +kernel
theorem dX3_isChild_17 : decode cX3_isChild 17 = .ok (.getfield 62, 3) := by decide +kernel
theorem dX3_isChild_20 : decode cX3_isChild 20 = .ok (.iload_n 2, 1) := by decide +kernel
theorem dX3_isChild_21 : decode cX3_isChild 21 = .ok (.if_icmp .ne 7, 3) := by decide +kernel
theorem dX3_isChild_24 : decode cX3_isChild 24 = .ok (.iconst 1, 1) := by decide +kernel
theorem dX3_isChild_25 : decode cX3_isChild 25 = .ok (.goto 4, 3) := by decide +kernel
theorem dX3_isChild_28 : decode cX3_isChild 28 = .ok (.iconst 0, 1) := by decide +kernel
theorem dX3_isChild_29 : decode cX3_isChild 29 = .ok (.ireturn, 1) := by decide +kernel
theorem dX3_childCount_0 : decode cX3_childCount 0 = .ok (.iconst 0, 1) := by decide +kernel
theorem dX3_childCount_1 : decode cX3_childCount 1 = .ok (.istore_n 2, 1) := by decide +kernel
theorem dX3_childCount_2 : decode cX3_childCount 2 = .ok (.iconst 1, 1) := by decide +kernel
theorem dX3_childCount_3 : decode cX3_childCount 3 = .ok (.istore_n 3, 1) := by decide +kernel
theorem dX3_childCount_4 : decode cX3_childCount 4 = .ok (.iload_n 3, 1) := by decide +kernel
theorem dX3_childCount_5 : decode cX3_childCount 5 = .ok (.bipush 12, 2) := by decide +kernel
theorem dX3_childCount_7 : decode cX3_childCount 7 = .ok (.if_icmp .gt 21, 3) := by decide +kernel
theorem dX3_childCount_10 : decode cX3_childCount 10 = .ok (.aload_n 0, 1) := by decide +kernel
theorem dX3_childCount_11 : decode cX3_childCount 11 = .ok (.iload_n 3, 1) := by decide +kernel
theorem dX3_childCount_12 : decode cX3_childCount 12 = .ok (.iload_n 1, 1) := by decide +kernel
theorem dX3_childCount_13 : decode cX3_childCount 13 = .ok (.invokevirtual 65, 3) := by decide +kernel
theorem dX3_childCount_16 : decode cX3_childCount 16 = .ok (.ifCond .eq 6, 3) := by decide +kernel
theorem dX3_childCount_19 : decode cX3_childCount 19 = .ok (.iinc 2 1, 3) := by decide +kernel
theorem dX3_childCount_22 : decode cX3_childCount 22 = .ok (.iinc 3 1, 3) := by decide +kernel
theorem dX3_childCount_25 : decode cX3_childCount 25 = .ok (.goto (-21), 3) := by decide +kernel
theorem dX3_childCount_28 : decode cX3_childCount 28 = .ok (.iload_n 2, 1) := by decide +kernel
theorem dX3_childCount_29 : decode cX3_childCount 29 = .ok (.ireturn, 1) := by decide +kernel
theorem dX3_childAt_0 : decode cX3_childAt 0 = .ok (.iconst 0, 1) := by decide +kernel
theorem dX3_childAt_1 : decode cX3_childAt 1 = .ok (.istore_n 3, 1) := by decide +kernel
theorem dX3_childAt_2 : decode cX3_childAt 2 = .ok (.iconst 1, 1) := by decide +kernel
theorem dX3_childAt_3 : decode cX3_childAt 3 = .ok (.istore 4, 2) := by decide +kernel
theorem dX3_childAt_5 : decode cX3_childAt 5 = .ok (.iload 4, 2) := by decide +kernel
theorem dX3_childAt_7 : decode cX3_childAt 7 = .ok (.bipush 12, 2) := by decide +kernel
theorem dX3_childAt_9 : decode cX3_childAt 9 = .ok (.if_icmp .gt 30, 3) := by decide +kernel
theorem dX3_childAt_12 : decode cX3_childAt 12 = .ok (.aload_n 0, 1) := by decide +kernel
theorem dX3_childAt_13 : decode cX3_childAt 13 = .ok (.iload 4, 2) := by decide +kernel
theorem dX3_childAt_15 : decode cX3_childAt 15 = .ok (.iload_n 1, 1) := by decide +kernel
theorem dX3_childAt_16 : decode cX3_childAt 16 = .ok (.invokevirtual 65, 3) := by decide +kernel
theorem dX3_childAt_19 : decode cX3_childAt 19 = .ok (.ifCond .eq 14, 3) := by decide +kernel
theorem dX3_childAt_22 : decode cX3_childAt 22 = .ok (.iload_n 3, 1) := by decide +kernel
theorem dX3_childAt_23 : decode cX3_childAt 23 = .ok (.iload_n 2, 1) := by decide +kernel
theorem dX3_childAt_24 : decode cX3_childAt 24 = .ok (.if_icmp .ne 6, 3) := by decide +kernel
theorem dX3_childAt_27 : decode cX3_childAt 27 = .ok (.iload 4, 2) := by decide +kernel
theorem dX3_childAt_29 : decode cX3_childAt 29 = .ok (.ireturn, 1) := by decide +kernel
theorem dX3_childAt_30 : decode cX3_childAt 30 = .ok (.iinc 3 1, 3) := by decide +kernel
theorem dX3_childAt_33 : decode cX3_childAt 33 = .ok (.iinc 4 1, 3) := by decide +kernel
theorem dX3_childAt_36 : decode cX3_childAt 36 = .ok (.goto (-31), 3) := by decide +kernel
theorem dX3_childAt_39 : decode cX3_childAt 39 = .ok (.iconst (-1), 1) := by decide +kernel
theorem dX3_childAt_40 : decode cX3_childAt 40 = .ok (.ireturn, 1) := by decide +kernel
theorem dX3_childWeights_0 : decode cX3_childWeights 0 = .ok (.iconst 0, 1) := by decide +kernel
theorem dX3_childWeights_1 : decode cX3_childWeights 1 = .ok (.istore_n 3, 1) := by decide +kernel
theorem dX3_childWeights_2 : decode cX3_childWeights 2 = .ok (.iconst 1, 1) := by decide +kernel
theorem dX3_childWeights_3 : decode cX3_childWeights 3 = .ok (.istore 4, 2) := by decide +kernel
theorem dX3_childWeights_5 : decode cX3_childWeights 5 = .ok (.iload 4, 2) := by decide +kernel
theorem dX3_childWeights_7 : decode cX3_childWeights 7 = .ok (.bipush 12, 2) := by decide +kernel
theorem dX3_childWeights_9 : decode cX3_childWeights 9 = .ok (.if_icmp .gt 41, 3) := by decide +kernel
theorem dX3_childWeights_12 : decode cX3_childWeights 12 = .ok (.iload_n 2, 1) := by decide +kernel
theorem dX3_childWeights_13 : decode cX3_childWeights 13 = .ok (.iload 4, 2) := by decide +kernel
theorem dX3_childWeights_15 : decode cX3_childWeights 15 = .ok (.invokestatic 54, 3) := by decide +kernel
theorem dX3_childWeights_18 : decode cX3_childWeights 18 = .ok (.ifCond .eq 26, 3) := by decide +kernel
theorem dX3_childWeights_21 : decode cX3_childWeights 21 = .ok (.aload_n 0, 1) := by decide +kernel
theorem dX3_childWeights_22 : decode cX3_childWeights 22 = .ok (.iload 4, 2) := by decide +kernel
theorem dX3_childWeights_24 : decode cX3_childWeights 24 = .ok (.iload_n 1, 1) := by decide +kernel
theorem dX3_childWeights_25 : decode cX3_childWeights 25 = .ok (.invokevirtual 65, 3) := by decide +kernel
theorem dX3_childWeights_28 : decode cX3_childWeights 28 = .ok (.ifCond .eq 16, 3) := by decide +kernel
theorem dX3_childWeights_31 : decode cX3_childWeights 31 = .ok (.iload_n 3, 1) := by decide +kernel
theorem dX3_childWeights_32 : decode cX3_childWeights 32 = .ok (.aload_n 0, 1) := by decide +kernel
theorem dX3_childWeights_33 : decode cX3_childWeights 33 = .ok (.getfield 11, 3) := by decide +kernel
theorem dX3_childWeights_36 : decode cX3_childWeights 36 = .ok (.iload 4, 2) := by decide +kernel
theorem dX3_childWeights_38 : decode cX3_childWeights 38 = .ok (.aaload, 1) := by decide +kernel
theorem dX3_childWeights_39 : decode cX3_childWeights 39 = .ok (.getfield 68, 3) := by decide +kernel
theorem dX3_childWeights_42 : decode cX3_childWeights 42 = .ok (.iadd, 1) := by decide +kernel
theorem dX3_childWeights_43 : decode cX3_childWeights 43 = .ok (.istore_n 3, 1) := by decide +kernel
theorem dX3_childWeights_44 : decode cX3_childWeights 44 = .ok (.iinc 4 1, 3) := by decide +kernel
theorem dX3_childWeights_47 : decode cX3_childWeights 47 = .ok (.goto (-42), 3) := by decide +kernel
theorem dX3_childWeights_50 : decode cX3_childWeights 50 = .ok (.iload_n 3, 1) := by decide +kernel
theorem dX3_childWeights_51 : decode cX3_childWeights 51 = .ok (.ireturn, 1) := by decide +kernel
theorem dX3_lineBits_0 : decode cX3_lineBits 0 = .ok (.iconst 0, 1) := by decide +kernel
theorem dX3_lineBits_1 : decode cX3_lineBits 1 = .ok (.istore_n 2, 1) := by decide +kernel
theorem dX3_lineBits_2 : decode cX3_lineBits 2 = .ok (.iload_n 1, 1) := by decide +kernel
theorem dX3_lineBits_3 : decode cX3_lineBits 3 = .ok (.istore_n 3, 1) := by decide +kernel
theorem dX3_lineBits_4 : decode cX3_lineBits 4 = .ok (.iconst 0, 1) := by decide +kernel
theorem dX3_lineBits_5 : decode cX3_lineBits 5 = .ok (.istore 4, 2) := by decide +kernel
theorem dX3_lineBits_7 : decode cX3_lineBits 7 = .ok (.iload 4, 2) := by decide +kernel
theorem dX3_lineBits_9 : decode cX3_lineBits 9 = .ok (.bipush 12, 2) := by decide +kernel
theorem dX3_lineBits_11 : decode cX3_lineBits 11 = .ok (.if_icmp .ge 29, 3) := by decide +kernel
theorem dX3_lineBits_14 : decode cX3_lineBits 14 = .ok (.iload_n 3, 1) := by decide +kernel
theorem dX3_lineBits_15 : decode cX3_lineBits 15 = .ok (.ifCond .eq 25, 3) := by decide +kernel
theorem dX3_lineBits_18 : decode cX3_lineBits 18 = .ok (.iload_n 2, 1) := by decide +kernel
theorem dX3_lineBits_19 : decode cX3_lineBits 19 = .ok (.iconst 1, 1) := by decide +kernel
theorem dX3_lineBits_20 : decode cX3_lineBits 20 = .ok (.iload_n 3, 1) := by decide +kernel
theorem dX3_lineBits_21 : decode cX3_lineBits 21 = .ok (.ishl, 1) := by decide +kernel
theorem dX3_lineBits_22 : decode cX3_lineBits 22 = .ok (.ior, 1) := by decide +kernel
theorem dX3_lineBits_23 : decode cX3_lineBits 23 = .ok (.istore_n 2, 1) := by decide +kernel
theorem dX3_lineBits_24 : decode cX3_lineBits 24 = .ok (.aload_n 0, 1) := by decide +kernel
theorem dX3_lineBits_25 : decode cX3_lineBits 25 = .ok (.getfield 11, 3) := by decide +kernel
theorem dX3_lineBits_28 : decode cX3_lineBits 28 = .ok (.iload_n 3, 1) := by decide +kernel
theorem dX3_lineBits_29 : decode cX3_lineBits 29 = .ok (.aaload, 1) := by decide +kernel
theorem dX3_lineBits_30 : decode cX3_lineBits 30 = .ok (.getfield 62, 3) := by decide +kernel
theorem dX3_lineBits_33 : decode cX3_lineBits 33 = .ok (.istore_n 3, 1) := by decide +kernel
theorem dX3_lineBits_34 : decode cX3_lineBits 34 = .ok (.iinc 4 1, 3) := by decide +kernel
theorem dX3_lineBits_37 : decode cX3_lineBits 37 = .ok (.goto (-30), 3) := by decide +kernel
theorem dX3_lineBits_40 : decode cX3_lineBits 40 = .ok (.iload_n 2, 1) := by decide +kernel
theorem dX3_lineBits_41 : decode cX3_lineBits 41 = .ok (.ireturn, 1) := by decide +kernel
theorem dX3_isBelow_0 : decode cX3_isBelow 0 = .ok (.iload_n 1, 1) := by decide +kernel
theorem dX3_isBelow_1 : decode cX3_isBelow 1 = .ok (.iload_n 2, 1) := by decide +kernel
theorem dX3_isBelow_2 : decode cX3_isBelow 2 = .ok (.if_icmp .eq 19, 3) := by decide +kernel
theorem dX3_isBelow_5 : decode cX3_isBelow 5 = .ok (.aload_n 0, 1) := by decide +kernel
theorem dX3_isBelow_6 : decode cX3_isBelow 6 = .ok (.iload_n 1, 1) := by decide +kernel
theorem dX3_isBelow_7 : decode cX3_isBelow 7 = .ok (.invokevirtual 71, 3) := by decide +kernel
theorem dX3_isBelow_10 : decode cX3_isBelow 10 = .ok (.iload_n 2, 1) := by decide +kernel
theorem dX3_isBelow_11 : decode cX3_isBelow 11 = .ok (.invokestatic 54, 3) := by decide +kernel
theorem dX3_isBelow_14 : decode cX3_isBelow 14 = .ok (.ifCond .eq 7, 3) := by decide +kernel
theorem dX3_isBelow_17 : decode cX3_isBelow 17 = .ok (.iconst 1, 1) := by decide +kernel
theorem dX3_isBelow_18 : decode cX3_isBelow 18 = .ok (.goto 4, 3) := by decide +kernel
theorem dX3_isBelow_21 : decode cX3_isBelow 21 = .ok (.iconst 0, 1) := by decide +kernel
theorem dX3_isBelow_22 : decode cX3_isBelow 22 = .ok (.ireturn, 1) := by decide +kernel
theorem dX3_belowCount_0 : decode cX3_belowCount 0 = .ok (.iconst 0, 1) := by decide +kernel
theorem dX3_belowCount_1 : decode cX3_belowCount 1 = .ok (.istore_n 2, 1) := by decide +kernel
theorem dX3_belowCount_2 : decode cX3_belowCount 2 = .ok (.iconst 1, 1) := by decide +kernel
theorem dX3_belowCount_3 : decode cX3_belowCount 3 = .ok (.istore_n 3, 1) := by decide +kernel
theorem dX3_belowCount_4 : decode cX3_belowCount 4 = .ok (.iload_n 3, 1) := by decide +kernel
theorem dX3_belowCount_5 : decode cX3_belowCount 5 = .ok (.bipush 12, 2) := by decide +kernel
theorem dX3_belowCount_7 : decode cX3_belowCount 7 = .ok (.if_icmp .gt 32, 3) := by decide +kernel
theorem dX3_belowCount_10 : decode cX3_belowCount 10 = .ok (.aload_n 0, 1) := by decide +kernel
theorem dX3_belowCount_11 : decode cX3_belowCount 11 = .ok (.getfield 35, 3) := by decide +kernel
theorem dX3_belowCount_14 : decode cX3_belowCount 14 = .ok (.iload_n 3, 1) := by decide +kernel
theorem dX3_belowCount_15 : decode cX3_belowCount 15 = .ok (.invokestatic 54, 3) := by decide +kernel
theorem dX3_belowCount_18 : decode cX3_belowCount 18 = .ok (.ifCond .eq 15, 3) := by decide +kernel
theorem dX3_belowCount_21 : decode cX3_belowCount 21 = .ok (.aload_n 0, 1) := by decide +kernel
theorem dX3_belowCount_22 : decode cX3_belowCount 22 = .ok (.iload_n 3, 1) := by decide +kernel
theorem dX3_belowCount_23 : decode cX3_belowCount 23 = .ok (.iload_n 1, 1) := by decide +kernel
theorem dX3_belowCount_24 : decode cX3_belowCount 24 = .ok (.invokevirtual 75, 3) := by decide +kernel
theorem dX3_belowCount_27 : decode cX3_belowCount 27 = .ok (.ifCond .eq 6, 3) := by decide +kernel
theorem dX3_belowCount_30 : decode cX3_belowCount 30 = .ok (.iinc 2 1, 3) := by decide +kernel
theorem dX3_belowCount_33 : decode cX3_belowCount 33 = .ok (.iinc 3 1, 3) := by decide +kernel
theorem dX3_belowCount_36 : decode cX3_belowCount 36 = .ok (.goto (-32), 3) := by decide +kernel
theorem dX3_belowCount_39 : decode cX3_belowCount 39 = .ok (.iload_n 2, 1) := by decide +kernel
theorem dX3_belowCount_40 : decode cX3_belowCount 40 = .ok (.ireturn, 1) := by decide +kernel
theorem dX3_deepestShared_0 : decode cX3_deepestShared 0 = .ok (.aload_n 0, 1) := by decide +kernel
theorem dX3_deepestShared_1 : decode cX3_deepestShared 1 = .ok (.iload_n 2, 1) := by decide +kernel
theorem dX3_deepestShared_2 : decode cX3_deepestShared 2 = .ok (.invokevirtual 71, 3) := by decide +kernel
theorem dX3_deepestShared_5 : decode cX3_deepestShared 5 = .ok (.istore_n 3, 1) := by decide +kernel
theorem dX3_deepestShared_6 : decode cX3_deepestShared 6 = .ok (.iload_n 1, 1) := by decide +kernel
theorem dX3_deepestShared_7 : decode cX3_deepestShared 7 = .ok (.istore 4, 2) := by decide +kernel
theorem dX3_deepestShared_9 : decode cX3_deepestShared 9 = .ok (.iconst 0, 1) := by decide +kernel
theorem dX3_deepestShared_10 : decode cX3_deepestShared 10 = .ok (.istore 5, 2) := by decide +kernel
theorem dX3_deepestShared_12 : decode cX3_deepestShared 12 = .ok (.iload 5, 2) := by decide +kernel
theorem dX3_deepestShared_14 : decode cX3_deepestShared 14 = .ok (.bipush 12, 2) := by decide +kernel
theorem dX3_deepestShared_16 : decode cX3_deepestShared 16 = .ok (.if_icmp .ge 35, 3) := by decide +kernel
theorem dX3_deepestShared_19 : decode cX3_deepestShared 19 = .ok (.iload 4, 2) := by decide +kernel
theorem dX3_deepestShared_21 : decode cX3_deepestShared 21 = .ok (.ifCond .eq 30, 3) := by decide +kernel
theorem dX3_deepestShared_24 : decode cX3_deepestShared 24 = .ok (.iload_n 3, 1) := by decide +kernel
theorem dX3_deepestShared_25 : decode cX3_deepestShared 25 = .ok (.iload 4, 2) := by decide +kernel
theorem dX3_deepestShared_27 : decode cX3_deepestShared 27 = .ok (.invokestatic 54, 3) := by decide +kernel
theorem dX3_deepestShared_30 : decode cX3_deepestShared 30 = .ok (.ifCond .ne 21, 3) := by decide +kernel
theorem dX3_deepestShared_33 : decode cX3_deepestShared 33 = .ok (.aload_n 0, 1) := by decide +kernel
theorem dX3_deepestShared_34 : decode cX3_deepestShared 34 = .ok (.getfield 11, 3) := by decide +kernel
theorem dX3_deepestShared_37 : decode cX3_deepestShared 37 = .ok (.iload 4, 2) := by decide +kernel
theorem dX3_deepestShared_39 : decode cX3_deepestShared 39 = .ok (.aaload, 1) := by decide +kernel
theorem dX3_deepestShared_40 : decode cX3_deepestShared 40 = .ok (.getfield 62, 3) := by decide +kernel
theorem dX3_deepestShared_43 : decode cX3_deepestShared 43 = .ok (.istore 4, 2) := by decide +kernel
theorem dX3_deepestShared_45 : decode cX3_deepestShared 45 = .ok (.iinc 5 1, 3) := by decide +kernel
theorem dX3_deepestShared_48 : decode cX3_deepestShared 48 = .ok (.goto (-36), 3) := by decide +kernel
theorem dX3_deepestShared_51 : decode cX3_deepestShared 51 = .ok (.iload 4, 2) := by decide +kernel
theorem dX3_deepestShared_53 : decode cX3_deepestShared 53 = .ok (.ireturn, 1) := by decide +kernel
theorem dX3_canBits_0 : decode cX3_canBits 0 = .ok (.iconst 0, 1) := by decide +kernel
theorem dX3_canBits_1 : decode cX3_canBits 1 = .ok (.istore_n 1, 1) := by decide +kernel
theorem dX3_canBits_2 : decode cX3_canBits 2 = .ok (.iconst 1, 1) := by decide +kernel
theorem dX3_canBits_3 : decode cX3_canBits 3 = .ok (.istore_n 2, 1) := by decide +kernel
theorem dX3_canBits_4 : decode cX3_canBits 4 = .ok (.iload_n 2, 1) := by decide +kernel
theorem dX3_canBits_5 : decode cX3_canBits 5 = .ok (.bipush 12, 2) := by decide +kernel
theorem dX3_canBits_7 : decode cX3_canBits 7 = .ok (.if_icmp .gt 38, 3) := by decide +kernel
theorem dX3_canBits_10 : decode cX3_canBits 10 = .ok (.aload_n 0, 1) := by decide +kernel
theorem dX3_canBits_11 : decode cX3_canBits 11 = .ok (.getfield 35, 3) := by decide +kernel
theorem dX3_canBits_14 : decode cX3_canBits 14 = .ok (.iload_n 2, 1) := by decide +kernel
theorem dX3_canBits_15 : decode cX3_canBits 15 = .ok (.invokestatic 54, 3) := by decide +kernel
theorem dX3_canBits_18 : decode cX3_canBits 18 = .ok (.ifCond .eq 21, 3) := by decide +kernel
theorem dX3_canBits_21 : decode cX3_canBits 21 = .ok (.aload_n 0, 1) := by decide +kernel
theorem dX3_canBits_22 : decode cX3_canBits 22 = .ok (.getfield 11, 3) := by decide +kernel
theorem dX3_canBits_25 : decode cX3_canBits 25 = .ok (.iload_n 2, 1) := by decide +kernel
theorem dX3_canBits_26 : decode cX3_canBits 26 = .ok (.aaload, 1) := by decide +kernel
theorem dX3_canBits_27 : decode cX3_canBits 27 = .ok (.invokevirtual 78, 3) := by decide +kernel
theorem dX3_canBits_30 : decode cX3_canBits 30 = .ok (.ifCond .eq 9, 3) := by decide +kernel
theorem dX3_canBits_33 : decode cX3_canBits 33 = .ok (.iload_n 1, 1) := by decide +kernel
theorem dX3_canBits_34 : decode cX3_canBits 34 = .ok (.iconst 1, 1) := by decide +kernel
theorem dX3_canBits_35 : decode cX3_canBits 35 = .ok (.iload_n 2, 1) := by decide +kernel
theorem dX3_canBits_36 : decode cX3_canBits 36 = .ok (.ishl, 1) := by decide +kernel
theorem dX3_canBits_37 : decode cX3_canBits 37 = .ok (.ior, 1) := by decide +kernel
theorem dX3_canBits_38 : decode cX3_canBits 38 = .ok (.istore_n 1, 1) := by decide +kernel
theorem dX3_canBits_39 : decode cX3_canBits 39 = .ok (.iinc 2 1, 3) := by decide +kernel
theorem dX3_canBits_42 : decode cX3_canBits 42 = .ok (.goto (-38), 3) := by decide +kernel
theorem dX3_canBits_45 : decode cX3_canBits 45 = .ok (.iload_n 1, 1) := by decide +kernel
theorem dX3_canBits_46 : decode cX3_canBits 46 = .ok (.ireturn, 1) := by decide +kernel
theorem dX3_liveBits_0 : decode cX3_liveBits 0 = .ok (.iconst 0, 1) := by decide +kernel
theorem dX3_liveBits_1 : decode cX3_liveBits 1 = .ok (.istore_n 2, 1) := by decide +kernel
theorem dX3_liveBits_2 : decode cX3_liveBits 2 = .ok (.iconst 1, 1) := by decide +kernel
theorem dX3_liveBits_3 : decode cX3_liveBits 3 = .ok (.istore_n 3, 1) := by decide +kernel
theorem dX3_liveBits_4 : decode cX3_liveBits 4 = .ok (.iload_n 3, 1) := by decide +kernel
theorem dX3_liveBits_5 : decode cX3_liveBits 5 = .ok (.bipush 12, 2) := by decide +kernel
theorem dX3_liveBits_7 : decode cX3_liveBits 7 = .ok (.if_icmp .gt 33, 3) := by decide +kernel
theorem dX3_liveBits_10 : decode cX3_liveBits 10 = .ok (.iload_n 1, 1) := by decide +kernel
theorem dX3_liveBits_11 : decode cX3_liveBits 11 = .ok (.iload_n 3, 1) := by decide +kernel
theorem dX3_liveBits_12 : decode cX3_liveBits 12 = .ok (.invokestatic 54, 3) := by decide +kernel
theorem dX3_liveBits_15 : decode cX3_liveBits 15 = .ok (.ifCond .eq 19, 3) := by decide +kernel
theorem dX3_liveBits_18 : decode cX3_liveBits 18 = .ok (.iload_n 2, 1) := by decide +kernel
theorem dX3_liveBits_19 : decode cX3_liveBits 19 = .ok (.iload_n 3, 1) := by decide +kernel
theorem dX3_liveBits_20 : decode cX3_liveBits 20 = .ok (.invokestatic 54, 3) := by decide +kernel
theorem dX3_liveBits_23 : decode cX3_liveBits 23 = .ok (.ifCond .ne 11, 3) := by decide +kernel
theorem dX3_liveBits_26 : decode cX3_liveBits 26 = .ok (.iload_n 2, 1) := by decide +kernel
theorem dX3_liveBits_27 : decode cX3_liveBits 27 = .ok (.aload_n 0, 1) := by decide +kernel
theorem dX3_liveBits_28 : decode cX3_liveBits 28 = .ok (.iload_n 3, 1) := by decide +kernel
theorem dX3_liveBits_29 : decode cX3_liveBits 29 = .ok (.invokevirtual 71, 3) := by decide +kernel
theorem dX3_liveBits_32 : decode cX3_liveBits 32 = .ok (.ior, 1) := by decide +kernel
theorem dX3_liveBits_33 : decode cX3_liveBits 33 = .ok (.istore_n 2, 1) := by decide +kernel
theorem dX3_liveBits_34 : decode cX3_liveBits 34 = .ok (.iinc 3 1, 3) := by decide +kernel
theorem dX3_liveBits_37 : decode cX3_liveBits 37 = .ok (.goto (-33), 3) := by decide +kernel
theorem dX3_liveBits_40 : decode cX3_liveBits 40 = .ok (.iload_n 2, 1) := by decide +kernel
theorem dX3_liveBits_41 : decode cX3_liveBits 41 = .ok (.ireturn, 1) := by decide +kernel
theorem dX3_sentTogether_0 : decode cX3_sentTogether 0 = .ok (.iconst 0, 1) := by decide +kernel
theorem dX3_sentTogether_1 : decode cX3_sentTogether 1 = .ok (.istore_n 1, 1) := by decide +kernel
theorem dX3_sentTogether_2 : decode cX3_sentTogether 2 = .ok (.iconst 1, 1) := by decide +kernel
theorem dX3_sentTogether_3 : decode cX3_sentTogether 3 = .ok (.istore_n 2, 1) := by decide +kernel
theorem dX3_sentTogether_4 : decode cX3_sentTogether 4 = .ok (.iload_n 2, 1) := by decide +kernel
theorem dX3_sentTogether_5 : decode cX3_sentTogether 5 = .ok (.bipush 12, 2) := by decide +kernel
theorem dX3_sentTogether_7 : decode cX3_sentTogether 7 = .ok (.if_icmp .gt 32, 3) := by decide +kernel
theorem dX3_sentTogether_10 : decode cX3_sentTogether 10 = .ok (.aload_n 0, 1) := by decide +kernel
theorem dX3_sentTogether_11 : decode cX3_sentTogether 11 = .ok (.getfield 35, 3) := by decide +kernel
theorem dX3_sentTogether_14 : decode cX3_sentTogether 14 = .ok (.iload_n 2, 1) := by decide +kernel
theorem dX3_sentTogether_15 : decode cX3_sentTogether 15 = .ok (.invokestatic 54, 3) := by decide +kernel
theorem dX3_sentTogether_18 : decode cX3_sentTogether 18 = .ok (.ifCond .eq 15, 3) := by decide +kernel
theorem dX3_sentTogether_21 : decode cX3_sentTogether 21 = .ok (.iload_n 1, 1) := by decide +kernel
theorem dX3_sentTogether_22 : decode cX3_sentTogether 22 = .ok (.aload_n 0, 1) := by decide +kernel
theorem dX3_sentTogether_23 : decode cX3_sentTogether 23 = .ok (.getfield 11, 3) := by decide +kernel
theorem dX3_sentTogether_26 : decode cX3_sentTogether 26 = .ok (.iload_n 2, 1) := by decide +kernel
theorem dX3_sentTogether_27 : decode cX3_sentTogether 27 = .ok (.aaload, 1) := by decide +kernel
theorem dX3_sentTogether_28 : decode cX3_sentTogether 28 = .ok (.getfield 82, 3) := by decide +kernel
theorem dX3_sentTogether_31 : decode cX3_sentTogether 31 = .ok (.iadd, 1) := by decide +kernel
theorem dX3_sentTogether_32 : decode cX3_sentTogether 32 = .ok (.istore_n 1, 1) := by decide +kernel
theorem dX3_sentTogether_33 : decode cX3_sentTogether 33 = .ok (.iinc 2 1, 3) := by decide +kernel
theorem dX3_sentTogether_36 : decode cX3_sentTogether 36 = .ok (.goto (-32), 3) := by decide +kernel
theorem dX3_sentTogether_39 : decode cX3_sentTogether 39 = .ok (.iload_n 1, 1) := by decide +kernel
theorem dX3_sentTogether_40 : decode cX3_sentTogether 40 = .ok (.ireturn, 1) := by decide +kernel
theorem dX3_greatestLongest_0 : decode cX3_greatestLongest 0 = .ok (.iconst 0, 1) := by decide +kernel
theorem dX3_greatestLongest_1 : decode cX3_greatestLongest 1 = .ok (.istore_n 1, 1) := by decide +kernel
theorem dX3_greatestLongest_2 : decode cX3_greatestLongest 2 = .ok (.iconst 1, 1) := by decide +kernel
theorem dX3_greatestLongest_3 : decode cX3_greatestLongest 3 = .ok (.istore_n 2, 1) := by decide +kernel
theorem dX3_greatestLongest_4 : decode cX3_greatestLongest 4 = .ok (.iload_n 2, 1) := by decide +kernel
theorem dX3_greatestLongest_5 : decode cX3_greatestLongest 5 = .ok (.bipush 12, 2) := by decide +kernel
theorem dX3_greatestLongest_7 : decode cX3_greatestLongest 7 = .ok (.if_icmp .gt 34, 3) := by decide +kernel
theorem dX3_greatestLongest_10 : decode cX3_greatestLongest 10 = .ok (.aload_n 0, 1) := by decide +kernel
theorem dX3_greatestLongest_11 : decode cX3_greatestLongest 11 = .ok (.getfield 35, 3) := by decide +kernel
theorem dX3_greatestLongest_14 : decode cX3_greatestLongest 14 = .ok (.iload_n 2, 1) := by decide +kernel
theorem dX3_greatestLongest_15 : decode cX3_greatestLongest 15 = .ok (.invokestatic 54, 3) := by decide +kernel
theorem dX3_greatestLongest_18 : decode cX3_greatestLongest 18 = .ok (.ifCond .eq 17, 3) := by decide +kernel
theorem dX3_greatestLongest_21 : decode cX3_greatestLongest 21 = .ok (.iload_n 1, 1) := by decide +kernel
theorem dX3_greatestLongest_22 : decode cX3_greatestLongest 22 = .ok (.aload_n 0, 1) := by decide +kernel
theorem dX3_greatestLongest_23 : decode cX3_greatestLongest 23 = .ok (.getfield 11, 3) := by decide +kernel
theorem dX3_greatestLongest_26 : decode cX3_greatestLongest 26 = .ok (.iload_n 2, 1) := by decide +kernel
theorem dX3_greatestLongest_27 : decode cX3_greatestLongest 27 = .ok (.aaload, 1) := by decide +kernel
theorem dX3_greatestLongest_28 : decode cX3_greatestLongest 28 = .ok (.getfield 85, 3) := by decide +kernel
theorem dX3_greatestLongest_31 : decode cX3_greatestLongest 31 = .ok (.invokestatic 88, 3) := by decide +kernel
theorem dX3_greatestLongest_34 : decode cX3_greatestLongest 34 = .ok (.istore_n 1, 1) := by decide +kernel
theorem dX3_greatestLongest_35 : decode cX3_greatestLongest 35 = .ok (.iinc 2 1, 3) := by decide +kernel
theorem dX3_greatestLongest_38 : decode cX3_greatestLongest 38 = .ok (.goto (-34), 3) := by decide +kernel
theorem dX3_greatestLongest_41 : decode cX3_greatestLongest 41 = .ok (.iload_n 1, 1) := by decide +kernel
theorem dX3_greatestLongest_42 : decode cX3_greatestLongest 42 = .ok (.ireturn, 1) := by decide +kernel
theorem dX3_enter_0 : decode cX3_enter 0 = .ok (.aload_n 0, 1) := by decide +kernel
theorem dX3_enter_1 : decode cX3_enter 1 = .ok (.getfield 11, 3) := by decide +kernel
theorem dX3_enter_4 : decode cX3_enter 4 = .ok (.iload_n 1, 1) := by decide +kernel
theorem dX3_enter_5 : decode cX3_enter 5 = .ok (.aaload, 1) := by decide +kernel
theorem dX3_enter_6 : decode cX3_enter 6 = .ok (.iload_n 2, 1) := by decide +kernel
theorem dX3_enter_7 : decode cX3_enter 7 = .ok (.invokevirtual 94, 3) := by decide +kernel
theorem dX3_enter_10 : decode cX3_enter 10 = .ok (.aload_n 0, 1) := by decide +kernel
theorem dX3_enter_11 : decode cX3_enter 11 = .ok (.dup, 1) := by decide +kernel
theorem dX3_enter_12 : decode cX3_enter 12 = .ok (.getfield 35, 3) := by decide +kernel
theorem dX3_enter_15 : decode cX3_enter 15 = .ok (.iconst 1, 1) := by decide +kernel
theorem dX3_enter_16 : decode cX3_enter 16 = .ok (.iload_n 1, 1) := by decide +kernel
theorem dX3_enter_17 : decode cX3_enter 17 = .ok (.ishl, 1) := by decide +kernel
theorem dX3_enter_18 : decode cX3_enter 18 = .ok (.ior, 1) := by decide +kernel
theorem dX3_enter_19 : decode cX3_enter 19 = .ok (.putfield 35, 3) := by decide +kernel
theorem dX3_enter_22 : decode cX3_enter 22 = .ok (.aload_n 0, 1) := by decide +kernel
theorem dX3_enter_23 : decode cX3_enter 23 = .ok (.dup, 1) := by decide +kernel
theorem dX3_enter_24 : decode cX3_enter 24 = .ok (.getfield 38, 3) := by decide +kernel
theorem dX3_enter_27 : decode cX3_enter 27 = .ok (.iconst 1, 1) := by decide +kernel
theorem dX3_enter_28 : decode cX3_enter 28 = .ok (.iload_n 1, 1) := by decide +kernel
theorem dX3_enter_29 : decode cX3_enter 29 = .ok (.ishl, 1) := by decide +kernel
theorem dX3_enter_30 : decode cX3_enter 30 = .ok (.iconst (-1), 1) := by decide +kernel
theorem dX3_enter_31 : decode cX3_enter 31 = .ok (.ixor, 1) := by decide +kernel
theorem dX3_enter_32 : decode cX3_enter 32 = .ok (.iand, 1) := by decide +kernel
theorem dX3_enter_33 : decode cX3_enter 33 = .ok (.putfield 38, 3) := by decide +kernel
theorem dX3_enter_36 : decode cX3_enter 36 = .ok (.return_, 1) := by decide +kernel
theorem dX3_hang_0 : decode cX3_hang 0 = .ok (.aload_n 0, 1) := by decide +kernel
theorem dX3_hang_1 : decode cX3_hang 1 = .ok (.getfield 11, 3) := by decide +kernel
theorem dX3_hang_4 : decode cX3_hang 4 = .ok (.iload_n 1, 1) := by decide +kernel
theorem dX3_hang_5 : decode cX3_hang 5 = .ok (.aaload, 1) := by decide +kernel
theorem dX3_hang_6 : decode cX3_hang 6 = .ok (.iload_n 2, 1) := by decide +kernel
theorem dX3_hang_7 : decode cX3_hang 7 = .ok (.putfield 62, 3) := by decide +kernel
theorem dX3_hang_10 : decode cX3_hang 10 = .ok (.aload_n 0, 1) := by decide +kernel
theorem dX3_hang_11 : decode cX3_hang 11 = .ok (.getfield 11, 3) := by decide +kernel
theorem dX3_hang_14 : decode cX3_hang 14 = .ok (.iload_n 1, 1) := by decide +kernel
theorem dX3_hang_15 : decode cX3_hang 15 = .ok (.aaload, 1) := by decide +kernel
theorem dX3_hang_16 : decode cX3_hang 16 = .ok (.aload_n 0, 1) := by decide +kernel
theorem dX3_hang_17 : decode cX3_hang 17 = .ok (.getfield 11, 3) := by decide +kernel
theorem dX3_hang_20 : decode cX3_hang 20 = .ok (.iload_n 2, 1) := by decide +kernel
theorem dX3_hang_21 : decode cX3_hang 21 = .ok (.aaload, 1) := by decide +kernel
theorem dX3_hang_22 : decode cX3_hang 22 = .ok (.getfield 98, 3) := by decide +kernel
theorem dX3_hang_25 : decode cX3_hang 25 = .ok (.putfield 102, 3) := by decide +kernel
theorem dX3_hang_28 : decode cX3_hang 28 = .ok (.return_, 1) := by decide +kernel
theorem dX3_attach_0 : decode cX3_attach 0 = .ok (.iload_n 3, 1) := by decide +kernel
theorem dX3_attach_1 : decode cX3_attach 1 = .ok (.ifCond .eq 9, 3) := by decide +kernel
theorem dX3_attach_4 : decode cX3_attach 4 = .ok (.aload_n 0, 1) := by decide +kernel
theorem dX3_attach_5 : decode cX3_attach 5 = .ok (.iload_n 2, 1) := by decide +kernel
theorem dX3_attach_6 : decode cX3_attach 6 = .ok (.iload_n 1, 1) := by decide +kernel
theorem dX3_attach_7 : decode cX3_attach 7 = .ok (.invokevirtual 105, 3) := by decide +kernel
theorem dX3_attach_10 : decode cX3_attach 10 = .ok (.aload_n 0, 1) := by decide +kernel
theorem dX3_attach_11 : decode cX3_attach 11 = .ok (.iload_n 1, 1) := by decide +kernel
theorem dX3_attach_12 : decode cX3_attach 12 = .ok (.iload_n 2, 1) := by decide +kernel
theorem dX3_attach_13 : decode cX3_attach 13 = .ok (.invokevirtual 109, 3) := by decide +kernel
theorem dX3_attach_16 : decode cX3_attach 16 = .ok (.return_, 1) := by decide +kernel
theorem dX3_hangChildren_0 : decode cX3_hangChildren 0 = .ok (.iconst 1, 1) := by decide +kernel
theorem dX3_hangChildren_1 : decode cX3_hangChildren 1 = .ok (.istore_n 3, 1) := by decide +kernel
theorem dX3_hangChildren_2 : decode cX3_hangChildren 2 = .ok (.iload_n 3, 1) := by decide +kernel
theorem dX3_hangChildren_3 : decode cX3_hangChildren 3 = .ok (.bipush 12, 2) := by decide +kernel
theorem dX3_hangChildren_5 : decode cX3_hangChildren 5 = .ok (.if_icmp .gt 29, 3) := by decide +kernel
theorem dX3_hangChildren_8 : decode cX3_hangChildren 8 = .ok (.iload_n 3, 1) := by decide +kernel
theorem dX3_hangChildren_9 : decode cX3_hangChildren 9 = .ok (.iload_n 2, 1) := by decide +kernel
theorem dX3_hangChildren_10 : decode cX3_hangChildren 10 = .ok (.if_icmp .eq 18, 3) := by decide +kernel
theorem dX3_hangChildren_13 : decode cX3_hangChildren 13 = .ok (.aload_n 0, 1) := by decide +kernel
theorem dX3_hangChildren_14 : decode cX3_hangChildren 14 = .ok (.iload_n 3, 1) := by decide +kernel
theorem dX3_hangChildren_15 : decode cX3_hangChildren 15 = .ok (.iload_n 1, 1) := by decide +kernel
theorem dX3_hangChildren_16 : decode cX3_hangChildren 16 = .ok (.invokevirtual 65, 3) := by decide +kernel
theorem dX3_hangChildren_19 : decode cX3_hangChildren 19 = .ok (.ifCond .eq 9, 3) := by decide +kernel
theorem dX3_hangChildren_22 : decode cX3_hangChildren 22 = .ok (.aload_n 0, 1) := by decide +kernel
theorem dX3_hangChildren_23 : decode cX3_hangChildren 23 = .ok (.iload_n 3, 1) := by decide +kernel
theorem dX3_hangChildren_24 : decode cX3_hangChildren 24 = .ok (.iload_n 2, 1) := by decide +kernel
theorem dX3_hangChildren_25 : decode cX3_hangChildren 25 = .ok (.invokevirtual 109, 3) := by decide +kernel
theorem dX3_hangChildren_28 : decode cX3_hangChildren 28 = .ok (.iinc 3 1, 3) := by decide +kernel
theorem dX3_hangChildren_31 : decode cX3_hangChildren 31 = .ok (.goto (-29), 3) := by decide +kernel
theorem dX3_hangChildren_34 : decode cX3_hangChildren 34 = .ok (.return_, 1) := by decide +kernel
theorem dX3_changeSetting_0 : decode cX3_changeSetting 0 = .ok (.iload_n 1, 1) := by decide +kernel
theorem dX3_changeSetting_1 : decode cX3_changeSetting 1 = .ok (.ifCond .ne 16, 3) := by decide +kernel
theorem dX3_changeSetting_4 : decode cX3_changeSetting 4 = .ok (.aload_n 0, 1) := by decide +kernel
theorem dX3_changeSetting_5 : decode cX3_changeSetting 5 = .ok (.getfield 18, 3) := by decide +kernel
theorem dX3_changeSetting_8 : decode cX3_changeSetting 8 = .ok (.istore_n 3, 1) := by decide +kernel
theorem dX3_changeSetting_9 : decode cX3_changeSetting 9 = .ok (.aload_n 0, 1) := by decide +kernel
theorem dX3_changeSetting_10 : decode cX3_changeSetting 10 = .ok (.iload_n 2, 1) := by decide +kernel
theorem dX3_changeSetting_11 : decode cX3_changeSetting 11 = .ok (.putfield 18, 3) := by decide +kernel
theorem dX3_changeSetting_14 : decode cX3_changeSetting 14 = .ok (.goto 53, 3) := by decide +kernel
theorem dX3_changeSetting_17 : decode cX3_changeSetting 17 = .ok (.iload_n 1, 1) := by decide +kernel
theorem dX3_changeSetting_18 : decode cX3_changeSetting 18 = .ok (.iconst 1, 1) := by decide +kernel
theorem dX3_changeSetting_19 : decode cX3_changeSetting 19 = .ok (.if_icmp .ne 16, 3) := by decide +kernel
theorem dX3_changeSetting_22 : decode cX3_changeSetting 22 = .ok (.aload_n 0, 1) := by decide +kernel
theorem dX3_changeSetting_23 : decode cX3_changeSetting 23 = .ok (.getfield 22, 3) := by decide +kernel
theorem dX3_changeSetting_26 : decode cX3_changeSetting 26 = .ok (.istore_n 3, 1) := by decide +kernel
theorem dX3_changeSetting_27 : decode cX3_changeSetting 27 = .ok (.aload_n 0, 1) := by decide +kernel
theorem dX3_changeSetting_28 : decode cX3_changeSetting 28 = .ok (.iload_n 2, 1) := by decide +kernel
theorem dX3_changeSetting_29 : decode cX3_changeSetting 29 = .ok (.putfield 22, 3) := by decide +kernel
theorem dX3_changeSetting_32 : decode cX3_changeSetting 32 = .ok (.goto 35, 3) := by decide +kernel
theorem dX3_changeSetting_35 : decode cX3_changeSetting 35 = .ok (.iload_n 1, 1) := by decide +kernel
theorem dX3_changeSetting_36 : decode cX3_changeSetting 36 = .ok (.iconst 2, 1) := by decide +kernel
theorem dX3_changeSetting_37 : decode cX3_changeSetting 37 = .ok (.if_icmp .ne 20, 3) := by decide +kernel
theorem dX3_changeSetting_40 : decode cX3_changeSetting 40 = .ok (.aload_n 0, 1) := by decide +kernel
theorem dX3_changeSetting_41 : decode cX3_changeSetting 41 = .ok (.getfield 25, 3) := by decide +kernel
theorem dX3_changeSetting_44 : decode cX3_changeSetting 44 = .ok (.istore_n 3, 1) := by decide +kernel
theorem dX3_changeSetting_45 : decode cX3_changeSetting 45 = .ok (.aload_n 0, 1) := by decide +kernel
theorem dX3_changeSetting_46 : decode cX3_changeSetting 46 = .ok (.iload_n 2, 1) := by decide +kernel
theorem dX3_changeSetting_47 : decode cX3_changeSetting 47 = .ok (.putfield 25, 3) := by decide +kernel
theorem dX3_changeSetting_50 : decode cX3_changeSetting 50 = .ok (.aload_n 0, 1) := by decide +kernel
theorem dX3_changeSetting_51 : decode cX3_changeSetting 51 = .ok (.invokevirtual 112, 3) := by decide +kernel
theorem dX3_changeSetting_54 : decode cX3_changeSetting 54 = .ok (.goto 13, 3) := by decide +kernel
theorem dX3_changeSetting_57 : decode cX3_changeSetting 57 = .ok (.aload_n 0, 1) := by decide +kernel
theorem dX3_changeSetting_58 : decode cX3_changeSetting 58 = .ok (.getfield 41, 3) := by decide +kernel
theorem dX3_changeSetting_61 : decode cX3_changeSetting 61 = .ok (.istore_n 3, 1) := by decide +kernel
theorem dX3_changeSetting_62 : decode cX3_changeSetting 62 = .ok (.aload_n 0, 1) := by decide +kernel
theorem dX3_changeSetting_63 : decode cX3_changeSetting 63 = .ok (.iload_n 2, 1) := by decide +kernel
theorem dX3_changeSetting_64 : decode cX3_changeSetting 64 = .ok (.putfield 41, 3) := by decide +kernel
theorem dX3_changeSetting_67 : decode cX3_changeSetting 67 = .ok (.iload_n 3, 1) := by decide +kernel
theorem dX3_changeSetting_68 : decode cX3_changeSetting 68 = .ok (.ireturn, 1) := by decide +kernel
theorem dX3_letGo_0 : decode cX3_letGo 0 = .ok (.iconst 1, 1) := by decide +kernel
theorem dX3_letGo_1 : decode cX3_letGo 1 = .ok (.istore_n 1, 1) := by decide +kernel
theorem dX3_letGo_2 : decode cX3_letGo 2 = .ok (.iload_n 1, 1) := by decide +kernel
theorem dX3_letGo_3 : decode cX3_letGo 3 = .ok (.bipush 12, 2) := by decide +kernel
theorem dX3_letGo_5 : decode cX3_letGo 5 = .ok (.if_icmp .gt 53, 3) := by decide +kernel
theorem dX3_letGo_8 : decode cX3_letGo 8 = .ok (.aload_n 0, 1) := by decide +kernel
theorem dX3_letGo_9 : decode cX3_letGo 9 = .ok (.getfield 35, 3) := by decide +kernel
theorem dX3_letGo_12 : decode cX3_letGo 12 = .ok (.iload_n 1, 1) := by decide +kernel
theorem dX3_letGo_13 : decode cX3_letGo 13 = .ok (.invokestatic 54, 3) := by decide +kernel
theorem dX3_letGo_16 : decode cX3_letGo 16 = .ok (.ifCond .eq 36, 3) := by decide +kernel
theorem dX3_letGo_19 : decode cX3_letGo 19 = .ok (.aload_n 0, 1) := by decide +kernel
theorem dX3_letGo_20 : decode cX3_letGo 20 = .ok (.getfield 11, 3) := by decide +kernel
theorem dX3_letGo_23 : decode cX3_letGo 23 = .ok (.iload_n 1, 1) := by decide +kernel
theorem dX3_letGo_24 : decode cX3_letGo 24 = .ok (.aaload, 1) := by decide +kernel
theorem dX3_letGo_25 : decode cX3_letGo 25 = .ok (.getfield 115, 3) := by decide +kernel
theorem dX3_letGo_28 : decode cX3_letGo 28 = .ok (.ifCond .ne 24, 3) := by decide +kernel
theorem dX3_letGo_31 : decode cX3_letGo 31 = .ok (.aload_n 0, 1) := by decide +kernel
theorem dX3_letGo_32 : decode cX3_letGo 32 = .ok (.getfield 11, 3) := by decide +kernel
theorem dX3_letGo_35 : decode cX3_letGo 35 = .ok (.iload_n 1, 1) := by decide +kernel
theorem dX3_letGo_36 : decode cX3_letGo 36 = .ok (.aaload, 1) := by decide +kernel
theorem dX3_letGo_37 : decode cX3_letGo 37 = .ok (.getfield 119, 3) := by decide +kernel
theorem dX3_letGo_40 : decode cX3_letGo 40 = .ok (.aload_n 0, 1) := by decide +kernel
theorem dX3_letGo_41 : decode cX3_letGo 41 = .ok (.getfield 25, 3) := by decide +kernel
theorem dX3_letGo_44 : decode cX3_letGo 44 = .ok (.if_icmp .lt 8, 3) := by decide +kernel
theorem dX3_letGo_47 : decode cX3_letGo 47 = .ok (.aload_n 0, 1) := by decide +kernel
theorem dX3_letGo_48 : decode cX3_letGo 48 = .ok (.iload_n 1, 1) := by decide +kernel
theorem dX3_letGo_49 : decode cX3_letGo 49 = .ok (.invokevirtual 122, 3) := by decide +kernel
theorem dX3_letGo_52 : decode cX3_letGo 52 = .ok (.iinc 1 1, 3) := by decide +kernel
theorem dX3_letGo_55 : decode cX3_letGo 55 = .ok (.goto (-53), 3) := by decide +kernel
theorem dX3_letGo_58 : decode cX3_letGo 58 = .ok (.return_, 1) := by decide +kernel
theorem dX3_leave_0 : decode cX3_leave 0 = .ok (.aload_n 0, 1) := by decide +kernel
theorem dX3_leave_1 : decode cX3_leave 1 = .ok (.getfield 11, 3) := by decide +kernel
theorem dX3_leave_4 : decode cX3_leave 4 = .ok (.iload_n 1, 1) := by decide +kernel
theorem dX3_leave_5 : decode cX3_leave 5 = .ok (.aaload, 1) := by decide +kernel
theorem dX3_leave_6 : decode cX3_leave 6 = .ok (.getfield 68, 3) := by decide +kernel
theorem dX3_leave_9 : decode cX3_leave 9 = .ok (.istore_n 2, 1) := by decide +kernel
theorem dX3_leave_10 : decode cX3_leave 10 = .ok (.aload_n 0, 1) := by decide +kernel
theorem dX3_leave_11 : decode cX3_leave 11 = .ok (.iload_n 1, 1) := by decide +kernel
theorem dX3_leave_12 : decode cX3_leave 12 = .ok (.aload_n 0, 1) := by decide +kernel
theorem dX3_leave_13 : decode cX3_leave 13 = .ok (.getfield 35, 3) := by decide +kernel
theorem dX3_leave_16 : decode cX3_leave 16 = .ok (.invokevirtual 125, 3) := by decide +kernel
theorem dX3_leave_19 : decode cX3_leave 19 = .ok (.istore_n 3, 1) := by decide +kernel
theorem dX3_leave_20 : decode cX3_leave 20 = .ok (.iconst 1, 1) := by decide +kernel
theorem dX3_leave_21 : decode cX3_leave 21 = .ok (.istore 4, 2) := by decide +kernel
theorem dX3_leave_23 : decode cX3_leave 23 = .ok (.iload 4, 2) := by decide +kernel
theorem dX3_leave_25 : decode cX3_leave 25 = .ok (.bipush 12, 2) := by decide +kernel
theorem dX3_leave_27 : decode cX3_leave 27 = .ok (.if_icmp .gt 52, 3) := by decide +kernel
theorem dX3_leave_30 : decode cX3_leave 30 = .ok (.aload_n 0, 1) := by decide +kernel
theorem dX3_leave_31 : decode cX3_leave 31 = .ok (.iload 4, 2) := by decide +kernel
theorem dX3_leave_33 : decode cX3_leave 33 = .ok (.iload_n 1, 1) := by decide +kernel
theorem dX3_leave_34 : decode cX3_leave 34 = .ok (.invokevirtual 65, 3) := by decide +kernel
theorem dX3_leave_37 : decode cX3_leave 37 = .ok (.ifCond .eq 36, 3) := by decide +kernel
theorem dX3_leave_40 : decode cX3_leave 40 = .ok (.aload_n 0, 1) := by decide +kernel
theorem dX3_leave_41 : decode cX3_leave 41 = .ok (.getfield 11, 3) := by decide +kernel
theorem dX3_leave_44 : decode cX3_leave 44 = .ok (.iload 4, 2) := by decide +kernel
theorem dX3_leave_46 : decode cX3_leave 46 = .ok (.aaload, 1) := by decide +kernel
theorem dX3_leave_47 : decode cX3_leave 47 = .ok (.lconst 1, 1) := by decide +kernel
theorem dX3_leave_48 : decode cX3_leave 48 = .ok (.aload_n 0, 1) := by decide +kernel
theorem dX3_leave_49 : decode cX3_leave 49 = .ok (.getfield 11, 3) := by decide +kernel
theorem dX3_leave_52 : decode cX3_leave 52 = .ok (.iload 4, 2) := by decide +kernel
theorem dX3_leave_54 : decode cX3_leave 54 = .ok (.aaload, 1) := by decide +kernel
theorem dX3_leave_55 : decode cX3_leave 55 = .ok (.getfield 68, 3) := by decide +kernel
theorem dX3_leave_58 : decode cX3_leave 58 = .ok (.iload_n 2, 1) := by decide +kernel
theorem dX3_leave_59 : decode cX3_leave 59 = .ok (.imul, 1) := by decide +kernel
theorem dX3_leave_60 : decode cX3_leave 60 = .ok (.i2l, 1) := by decide +kernel
theorem dX3_leave_61 : decode cX3_leave 61 = .ok (.iload_n 3, 1) := by decide +kernel
theorem dX3_leave_62 : decode cX3_leave 62 = .ok (.i2l, 1) := by decide +kernel
theorem dX3_leave_63 : decode cX3_leave 63 = .ok (.invokestatic 128, 3) := by decide +kernel
theorem dX3_leave_66 : decode cX3_leave 66 = .ok (.invokestatic 132, 3) := by decide +kernel
theorem dX3_leave_69 : decode cX3_leave 69 = .ok (.l2i, 1) := by decide +kernel
theorem dX3_leave_70 : decode cX3_leave 70 = .ok (.putfield 68, 3) := by decide +kernel
theorem dX3_leave_73 : decode cX3_leave 73 = .ok (.iinc 4 1, 3) := by decide +kernel
theorem dX3_leave_76 : decode cX3_leave 76 = .ok (.goto (-53), 3) := by decide +kernel
theorem dX3_leave_79 : decode cX3_leave 79 = .ok (.aload_n 0, 1) := by decide +kernel
theorem dX3_leave_80 : decode cX3_leave 80 = .ok (.iload_n 1, 1) := by decide +kernel
theorem dX3_leave_81 : decode cX3_leave 81 = .ok (.aload_n 0, 1) := by decide +kernel
theorem dX3_leave_82 : decode cX3_leave 82 = .ok (.getfield 11, 3) := by decide +kernel
theorem dX3_leave_85 : decode cX3_leave 85 = .ok (.iload_n 1, 1) := by decide +kernel
theorem dX3_leave_86 : decode cX3_leave 86 = .ok (.aaload, 1) := by decide +kernel
theorem dX3_leave_87 : decode cX3_leave 87 = .ok (.getfield 62, 3) := by decide +kernel
theorem dX3_leave_90 : decode cX3_leave 90 = .ok (.invokevirtual 105, 3) := by decide +kernel
theorem dX3_leave_93 : decode cX3_leave 93 = .ok (.aload_n 0, 1) := by decide +kernel
theorem dX3_leave_94 : decode cX3_leave 94 = .ok (.dup, 1) := by decide +kernel
theorem dX3_leave_95 : decode cX3_leave 95 = .ok (.getfield 35, 3) := by decide +kernel
theorem dX3_leave_98 : decode cX3_leave 98 = .ok (.iconst 1, 1) := by decide +kernel
theorem dX3_leave_99 : decode cX3_leave 99 = .ok (.iload_n 1, 1) := by decide +kernel
theorem dX3_leave_100 : decode cX3_leave 100 = .ok (.ishl, 1) := by decide +kernel
theorem dX3_leave_101 : decode cX3_leave 101 = .ok (.iconst (-1), 1) := by decide +kernel
theorem dX3_leave_102 : decode cX3_leave 102 = .ok (.ixor, 1) := by decide +kernel
theorem dX3_leave_103 : decode cX3_leave 103 = .ok (.iand, 1) := by decide +kernel
theorem dX3_leave_104 : decode cX3_leave 104 = .ok (.putfield 35, 3) := by decide +kernel
theorem dX3_leave_107 : decode cX3_leave 107 = .ok (.return_, 1) := by decide +kernel
theorem dX3_empty_0 : decode cX3_empty 0 = .ok (.aload_n 0, 1) := by decide +kernel
theorem dX3_empty_1 : decode cX3_empty 1 = .ok (.iconst 0, 1) := by decide +kernel
theorem dX3_empty_2 : decode cX3_empty 2 = .ok (.putfield 35, 3) := by decide +kernel
theorem dX3_empty_5 : decode cX3_empty 5 = .ok (.aload_n 0, 1) := by decide +kernel
theorem dX3_empty_6 : decode cX3_empty 6 = .ok (.getfield 11, 3) := by decide +kernel
theorem dX3_empty_9 : decode cX3_empty 9 = .ok (.iconst 0, 1) := by decide +kernel
theorem dX3_empty_10 : decode cX3_empty 10 = .ok (.aaload, 1) := by decide +kernel
theorem dX3_empty_11 : decode cX3_empty 11 = .ok (.lconst 0, 1) := by decide +kernel
theorem dX3_empty_12 : decode cX3_empty 12 = .ok (.putfield 98, 3) := by decide +kernel
theorem dX3_empty_15 : decode cX3_empty 15 = .ok (.return_, 1) := by decide +kernel
theorem dX4_init_0 : decode cX4_init 0 = .ok (.aload_n 0, 1) := by decide +kernel
theorem dX4_init_1 : decode cX4_init 1 = .ok (.invokespecial 3, 3) := by decide +kernel
theorem dX4_init_4 : decode cX4_init 4 = .ok (.aload_n 0, 1) := by decide +kernel
theorem dX4_init_5 : decode cX4_init 5 = .ok (.bipush 120, 2) := by decide +kernel
theorem dX4_init_7 : decode cX4_init 7 = .ok (.newarray .int, 2) := by decide +kernel
theorem dX4_init_9 : decode cX4_init 9 = .ok (.putfield 9, 3) := by decide +kernel
theorem dX4_init_12 : decode cX4_init 12 = .ok (.return_, 1) := by decide +kernel
theorem dX4_write_0 : decode cX4_write 0 = .ok (.aload_n 0, 1) := by decide +kernel
theorem dX4_write_1 : decode cX4_write 1 = .ok (.iconst 0, 1) := by decide +kernel
theorem dX4_write_2 : decode cX4_write 2 = .ok (.putfield 15, 3) := by decide +kernel
theorem dX4_write_5 : decode cX4_write 5 = .ok (.aload_n 0, 1) := by decide +kernel
theorem dX4_write_6 : decode cX4_write 6 = .ok (.aload_n 1, 1) := by decide +kernel
theorem dX4_write_7 : decode cX4_write 7 = .ok (.iconst 0, 1) := by decide +kernel
theorem dX4_write_8 : decode cX4_write 8 = .ok (.iconst 0, 1) := by decide +kernel
theorem dX4_write_9 : decode cX4_write 9 = .ok (.invokevirtual 19, 3) := by decide +kernel
theorem dX4_write_12 : decode cX4_write 12 = .ok (.return_, 1) := by decide +kernel
theorem dX4_writeChildren_0 : decode cX4_writeChildren 0 = .ok (.iload_n 3, 1) := by decide +kernel
theorem dX4_writeChildren_1 : decode cX4_writeChildren 1 = .ok (.bipush 12, 2) := by decide +kernel
theorem dX4_writeChildren_3 : decode cX4_writeChildren 3 = .ok (.if_icmp .le 4, 3) := by decide +kernel
theorem dX4_writeChildren_6 : decode cX4_writeChildren 6 = .ok (.return_, 1) := by decide +kernel
theorem dX4_writeChildren_7 : decode cX4_writeChildren 7 = .ok (.iconst 1, 1) := by decide +kernel
theorem dX4_writeChildren_8 : decode cX4_writeChildren 8 = .ok (.istore 4, 2) := by decide +kernel
theorem dX4_writeChildren_10 : decode cX4_writeChildren 10 = .ok (.iconst 1, 1) := by decide +kernel
theorem dX4_writeChildren_11 : decode cX4_writeChildren 11 = .ok (.istore 5, 2) := by decide +kernel
theorem dX4_writeChildren_13 : decode cX4_writeChildren 13 = .ok (.iload 5, 2) := by decide +kernel
theorem dX4_writeChildren_15 : decode cX4_writeChildren 15 = .ok (.bipush 12, 2) := by decide +kernel
theorem dX4_writeChildren_17 : decode cX4_writeChildren 17 = .ok (.if_icmp .gt 90, 3) := by decide +kernel
theorem dX4_writeChildren_20 : decode cX4_writeChildren 20 = .ok (.aload_n 1, 1) := by decide +kernel
theorem dX4_writeChildren_21 : decode cX4_writeChildren 21 = .ok (.iload 5, 2) := by decide +kernel
theorem dX4_writeChildren_23 : decode cX4_writeChildren 23 = .ok (.iload_n 2, 1) := by decide +kernel
theorem dX4_writeChildren_24 : decode cX4_writeChildren 24 = .ok (.invokevirtual 23, 3) := by decide +kernel
theorem dX4_writeChildren_27 : decode cX4_writeChildren 27 = .ok (.ifCond .eq 74, 3) := by decide +kernel
theorem dX4_writeChildren_30 : decode cX4_writeChildren 30 = .ok (.iload 4, 2) := by decide +kernel
theorem dX4_writeChildren_32 : decode cX4_writeChildren 32 = .ok (.ifCond .ne 9, 3) := by decide +kernel
theorem dX4_writeChildren_35 : decode cX4_writeChildren 35 = .ok (.aload_n 0, 1) := by decide +kernel
theorem dX4_writeChildren_36 : decode cX4_writeChildren 36 = .ok (.bipush 32, 2) := by decide +kernel
theorem dX4_writeChildren_38 : decode cX4_writeChildren 38 = .ok (.invokevirtual 29, 3) := by decide +kernel
theorem dX4_writeChildren_41 : decode cX4_writeChildren 41 = .ok (.iconst 0, 1) := by decide +kernel
theorem dX4_writeChildren_42 : decode cX4_writeChildren 42 = .ok (.istore 4, 2) := by decide +kernel
theorem dX4_writeChildren_44 : decode cX4_writeChildren 44 = .ok (.aload_n 0, 1) := by decide +kernel
theorem dX4_writeChildren_45 : decode cX4_writeChildren 45 = .ok (.iload 5, 2) := by decide +kernel
theorem dX4_writeChildren_47 : decode cX4_writeChildren 47 = .ok (.invokevirtual 33, 3) := by decide +kernel
theorem dX4_writeChildren_50 : decode cX4_writeChildren 50 = .ok (.aload_n 0, 1) := by decide +kernel
theorem dX4_writeChildren_51 : decode cX4_writeChildren 51 = .ok (.bipush 58, 2) := by decide +kernel
theorem dX4_writeChildren_53 : decode cX4_writeChildren 53 = .ok (.invokevirtual 29, 3) := by decide +kernel
theorem dX4_writeChildren_56 : decode cX4_writeChildren 56 = .ok (.aload_n 0, 1) := by decide +kernel
theorem dX4_writeChildren_57 : decode cX4_writeChildren 57 = .ok (.aload_n 1, 1) := by decide +kernel
theorem dX4_writeChildren_58 : decode cX4_writeChildren 58 = .ok (.getfield 36, 3) := by decide +kernel
theorem dX4_writeChildren_61 : decode cX4_writeChildren 61 = .ok (.iload 5, 2) := by decide +kernel
theorem dX4_writeChildren_63 : decode cX4_writeChildren 63 = .ok (.aaload, 1) := by decide +kernel
theorem dX4_writeChildren_64 : decode cX4_writeChildren 64 = .ok (.getfield 40, 3) := by decide +kernel
theorem dX4_writeChildren_67 : decode cX4_writeChildren 67 = .ok (.invokevirtual 33, 3) := by decide +kernel
theorem dX4_writeChildren_70 : decode cX4_writeChildren 70 = .ok (.aload_n 1, 1) := by decide +kernel
theorem dX4_writeChildren_71 : decode cX4_writeChildren 71 = .ok (.iload 5, 2) := by decide +kernel
theorem dX4_writeChildren_73 : decode cX4_writeChildren 73 = .ok (.invokevirtual 45, 3) := by decide +kernel
theorem dX4_writeChildren_76 : decode cX4_writeChildren 76 = .ok (.ifCond .le 25, 3) := by decide +kernel
theorem dX4_writeChildren_79 : decode cX4_writeChildren 79 = .ok (.aload_n 0, 1) := by decide +kernel
theorem dX4_writeChildren_80 : decode cX4_writeChildren 80 = .ok (.bipush 40, 2) := by decide +kernel
theorem dX4_writeChildren_82 : decode cX4_writeChildren 82 = .ok (.invokevirtual 29, 3) := by decide +kernel
theorem dX4_writeChildren_85 : decode cX4_writeChildren 85 = .ok (.aload_n 0, 1) := by decide +kernel
theorem dX4_writeChildren_86 : decode cX4_writeChildren 86 = .ok (.aload_n 1, 1) := by decide +kernel
theorem dX4_writeChildren_87 : decode cX4_writeChildren 87 = .ok (.iload 5, 2) := by decide +kernel
theorem dX4_writeChildren_89 : decode cX4_writeChildren 89 = .ok (.iload_n 3, 1) := by decide +kernel
theorem dX4_writeChildren_90 : decode cX4_writeChildren 90 = .ok (.iconst 1, 1) := by decide +kernel
theorem dX4_writeChildren_91 : decode cX4_writeChildren 91 = .ok (.iadd, 1) := by decide +kernel
theorem dX4_writeChildren_92 : decode cX4_writeChildren 92 = .ok (.invokevirtual 19, 3) := by decide +kernel
theorem dX4_writeChildren_95 : decode cX4_writeChildren 95 = .ok (.aload_n 0, 1) := by decide +kernel
theorem dX4_writeChildren_96 : decode cX4_writeChildren 96 = .ok (.bipush 41, 2) := by decide +kernel
theorem dX4_writeChildren_98 : decode cX4_writeChildren 98 = .ok (.invokevirtual 29, 3) := by decide +kernel
theorem dX4_writeChildren_101 : decode cX4_writeChildren 101 = .ok (.iinc 5 1, 3) := by decide +kernel
theorem dX4_writeChildren_104 : decode cX4_writeChildren 104 = .ok (.goto (-91), 3) := by decide +kernel
theorem dX4_writeChildren_107 : decode cX4_writeChildren 107 = .ok (.return_, 1) := by decide +kernel
theorem dX4_putNumber_0 : decode cX4_putNumber 0 = .ok (.iload_n 1, 1) := by decide +kernel
theorem dX4_putNumber_1 : decode cX4_putNumber 1 = .ok (.bipush 10, 2) := by decide +kernel
theorem dX4_putNumber_3 : decode cX4_putNumber 3 = .ok (.if_icmp .lt 14, 3) := by decide +kernel
theorem dX4_putNumber_6 : decode cX4_putNumber 6 = .ok (.aload_n 0, 1) := by decide +kernel
theorem dX4_putNumber_7 : decode cX4_putNumber 7 = .ok (.bipush 48, 2) := by decide +kernel
theorem dX4_putNumber_9 : decode cX4_putNumber 9 = .ok (.iload_n 1, 1) := by decide +kernel
theorem dX4_putNumber_10 : decode cX4_putNumber 10 = .ok (.bipush 10, 2) := by decide +kernel
theorem dX4_putNumber_12 : decode cX4_putNumber 12 = .ok (.idiv, 1) := by decide +kernel
theorem dX4_putNumber_13 : decode cX4_putNumber 13 = .ok (.iadd, 1) := by decide +kernel
theorem dX4_putNumber_14 : decode cX4_putNumber 14 = .ok (.invokevirtual 29, 3) := by decide +kernel
theorem dX4_putNumber_17 : decode cX4_putNumber 17 = .ok (.aload_n 0, 1) := by decide +kernel
theorem dX4_putNumber_18 : decode cX4_putNumber 18 = .ok (.bipush 48, 2) := by decide +kernel
theorem dX4_putNumber_20 : decode cX4_putNumber 20 = .ok (.iload_n 1, 1) := by decide +kernel
theorem dX4_putNumber_21 : decode cX4_putNumber 21 = .ok (.bipush 10, 2) := by decide +kernel
theorem dX4_putNumber_23 : decode cX4_putNumber 23 = .ok (.irem, 1) := by decide +kernel
theorem dX4_putNumber_24 : decode cX4_putNumber 24 = .ok (.iadd, 1) := by decide +kernel
theorem dX4_putNumber_25 : decode cX4_putNumber 25 = .ok (.invokevirtual 29, 3) := by decide +kernel
theorem dX4_putNumber_28 : decode cX4_putNumber 28 = .ok (.return_, 1) := by decide +kernel
theorem dX4_put_0 : decode cX4_put 0 = .ok (.aload_n 0, 1) := by decide +kernel
theorem dX4_put_1 : decode cX4_put 1 = .ok (.getfield 15, 3) := by decide +kernel
theorem dX4_put_4 : decode cX4_put 4 = .ok (.aload_n 0, 1) := by decide +kernel
theorem dX4_put_5 : decode cX4_put 5 = .ok (.getfield 9, 3) := by decide +kernel
theorem dX4_put_8 : decode cX4_put 8 = .ok (.arraylength, 1) := by decide +kernel
theorem dX4_put_9 : decode cX4_put 9 = .ok (.if_icmp .ge 23, 3) := by decide +kernel
theorem dX4_put_12 : decode cX4_put 12 = .ok (.aload_n 0, 1) := by decide +kernel
theorem dX4_put_13 : decode cX4_put 13 = .ok (.getfield 9, 3) := by decide +kernel
theorem dX4_put_16 : decode cX4_put 16 = .ok (.aload_n 0, 1) := by decide +kernel
theorem dX4_put_17 : decode cX4_put 17 = .ok (.getfield 15, 3) := by decide +kernel
theorem dX4_put_20 : decode cX4_put 20 = .ok (.iload_n 1, 1) := by decide +kernel
theorem dX4_put_21 : decode cX4_put 21 = .ok (.iastore, 1) := by decide +kernel
theorem dX4_put_22 : decode cX4_put 22 = .ok (.aload_n 0, 1) := by decide +kernel
theorem dX4_put_23 : decode cX4_put 23 = .ok (.dup, 1) := by decide +kernel
theorem dX4_put_24 : decode cX4_put 24 = .ok (.getfield 15, 3) := by decide +kernel
theorem dX4_put_27 : decode cX4_put 27 = .ok (.iconst 1, 1) := by decide +kernel
theorem dX4_put_28 : decode cX4_put 28 = .ok (.iadd, 1) := by decide +kernel
theorem dX4_put_29 : decode cX4_put 29 = .ok (.putfield 15, 3) := by decide +kernel
theorem dX4_put_32 : decode cX4_put 32 = .ok (.return_, 1) := by decide +kernel
theorem dX5_init_0 : decode cX5_init 0 = .ok (.aload_n 0, 1) := by decide +kernel
theorem dX5_init_1 : decode cX5_init 1 = .ok (.invokespecial 3, 3) := by decide +kernel
theorem dX5_init_4 : decode cX5_init 4 = .ok (.aload_n 0, 1) := by decide +kernel
theorem dX5_init_5 : decode cX5_init 5 = .ok (.bipush 120, 2) := by decide +kernel
theorem dX5_init_7 : decode cX5_init 7 = .ok (.newarray .int, 2) := by decide +kernel
theorem dX5_init_9 : decode cX5_init 9 = .ok (.putfield 9, 3) := by decide +kernel
theorem dX5_init_12 : decode cX5_init 12 = .ok (.aload_n 0, 1) := by decide +kernel
theorem dX5_init_13 : decode cX5_init 13 = .ok (.bipush 12, 2) := by decide +kernel
theorem dX5_init_15 : decode cX5_init 15 = .ok (.newarray .int, 2) := by decide +kernel
theorem dX5_init_17 : decode cX5_init 17 = .ok (.putfield 15, 3) := by decide +kernel
theorem dX5_init_20 : decode cX5_init 20 = .ok (.aload_n 0, 1) := by decide +kernel
theorem dX5_init_21 : decode cX5_init 21 = .ok (.bipush 12, 2) := by decide +kernel
theorem dX5_init_23 : decode cX5_init 23 = .ok (.newarray .int, 2) := by decide +kernel
theorem dX5_init_25 : decode cX5_init 25 = .ok (.putfield 18, 3) := by decide +kernel
theorem dX5_init_28 : decode cX5_init 28 = .ok (.aload_n 0, 1) := by decide +kernel
theorem dX5_init_29 : decode cX5_init 29 = .ok (.bipush 12, 2) := by decide +kernel
theorem dX5_init_31 : decode cX5_init 31 = .ok (.newarray .int, 2) := by decide +kernel
theorem dX5_init_33 : decode cX5_init 33 = .ok (.putfield 21, 3) := by decide +kernel
theorem dX5_init_36 : decode cX5_init 36 = .ok (.aload_n 0, 1) := by decide +kernel
theorem dX5_init_37 : decode cX5_init 37 = .ok (.bipush 13, 2) := by decide +kernel
theorem dX5_init_39 : decode cX5_init 39 = .ok (.newarray .int, 2) := by decide +kernel
theorem dX5_init_41 : decode cX5_init 41 = .ok (.putfield 24, 3) := by decide +kernel
theorem dX5_init_44 : decode cX5_init 44 = .ok (.return_, 1) := by decide +kernel
theorem dX5_append_0 : decode cX5_append 0 = .ok (.aload_n 0, 1) := by decide +kernel
theorem dX5_append_1 : decode cX5_append 1 = .ok (.getfield 27, 3) := by decide +kernel
theorem dX5_append_4 : decode cX5_append 4 = .ok (.bipush 120, 2) := by decide +kernel
theorem dX5_append_6 : decode cX5_append 6 = .ok (.if_icmp .ge 23, 3) := by decide +kernel
theorem dX5_append_9 : decode cX5_append 9 = .ok (.aload_n 0, 1) := by decide +kernel
theorem dX5_append_10 : decode cX5_append 10 = .ok (.getfield 9, 3) := by decide +kernel
theorem dX5_append_13 : decode cX5_append 13 = .ok (.aload_n 0, 1) := by decide +kernel
theorem dX5_append_14 : decode cX5_append 14 = .ok (.getfield 27, 3) := by decide +kernel
theorem dX5_append_17 : decode cX5_append 17 = .ok (.iload_n 1, 1) := by decide +kernel
theorem dX5_append_18 : decode cX5_append 18 = .ok (.iastore, 1) := by decide +kernel
theorem dX5_append_19 : decode cX5_append 19 = .ok (.aload_n 0, 1) := by decide +kernel
theorem dX5_append_20 : decode cX5_append 20 = .ok (.dup, 1) := by decide +kernel
theorem dX5_append_21 : decode cX5_append 21 = .ok (.getfield 27, 3) := by decide +kernel
theorem dX5_append_24 : decode cX5_append 24 = .ok (.iconst 1, 1) := by decide +kernel
theorem dX5_append_25 : decode cX5_append 25 = .ok (.iadd, 1) := by decide +kernel
theorem dX5_append_26 : decode cX5_append 26 = .ok (.putfield 27, 3) := by decide +kernel
theorem dX5_append_29 : decode cX5_append 29 = .ok (.return_, 1) := by decide +kernel
theorem dX5_read_0 : decode cX5_read 0 = .ok (.aload_n 0, 1) := by decide +kernel
theorem dX5_read_1 : decode cX5_read 1 = .ok (.iconst 0, 1) := by decide +kernel
theorem dX5_read_2 : decode cX5_read 2 = .ok (.putfield 31, 3) := by decide +kernel
theorem dX5_read_5 : decode cX5_read 5 = .ok (.aload_n 0, 1) := by decide +kernel
theorem dX5_read_6 : decode cX5_read 6 = .ok (.iconst 0, 1) := by decide +kernel
theorem dX5_read_7 : decode cX5_read 7 = .ok (.putfield 34, 3) := by decide +kernel
theorem dX5_read_10 : decode cX5_read 10 = .ok (.aload_n 0, 1) := by decide +kernel
theorem dX5_read_11 : decode cX5_read 11 = .ok (.iconst 0, 1) := by decide +kernel
theorem dX5_read_12 : decode cX5_read 12 = .ok (.putfield 37, 3) := by decide +kernel
theorem dX5_read_15 : decode cX5_read 15 = .ok (.aload_n 0, 1) := by decide +kernel
theorem dX5_read_16 : decode cX5_read 16 = .ok (.iconst (-1), 1) := by decide +kernel
theorem dX5_read_17 : decode cX5_read 17 = .ok (.putfield 40, 3) := by decide +kernel
theorem dX5_read_20 : decode cX5_read 20 = .ok (.iconst 0, 1) := by decide +kernel
theorem dX5_read_21 : decode cX5_read 21 = .ok (.istore_n 1, 1) := by decide +kernel
theorem dX5_read_22 : decode cX5_read 22 = .ok (.iconst 0, 1) := by decide +kernel
theorem dX5_read_23 : decode cX5_read 23 = .ok (.istore_n 2, 1) := by decide +kernel
theorem dX5_read_24 : decode cX5_read 24 = .ok (.iconst 0, 1) := by decide +kernel
theorem dX5_read_25 : decode cX5_read 25 = .ok (.istore_n 3, 1) := by decide +kernel
theorem dX5_read_26 : decode cX5_read 26 = .ok (.iconst 0, 1) := by decide +kernel
theorem dX5_read_27 : decode cX5_read 27 = .ok (.istore 4, 2) := by decide +kernel
theorem dX5_read_29 : decode cX5_read 29 = .ok (.iconst 0, 1) := by decide +kernel
theorem dX5_read_30 : decode cX5_read 30 = .ok (.istore 5, 2) := by decide +kernel
theorem dX5_read_32 : decode cX5_read 32 = .ok (.iload 5, 2) := by decide +kernel
theorem dX5_read_34 : decode cX5_read 34 = .ok (.bipush 120, 2) := by decide +kernel
theorem dX5_read_36 : decode cX5_read 36 = .ok (.if_icmp .ge 148, 3) := by decide +kernel
theorem dX5_read_39 : decode cX5_read 39 = .ok (.aload_n 0, 1) := by decide +kernel
theorem dX5_read_40 : decode cX5_read 40 = .ok (.invokevirtual 43, 3) := by decide +kernel
theorem dX5_read_43 : decode cX5_read 43 = .ok (.istore 6, 2) := by decide +kernel
theorem dX5_read_45 : decode cX5_read 45 = .ok (.iload 6, 2) := by decide +kernel
theorem dX5_read_47 : decode cX5_read 47 = .ok (.iconst (-1), 1) := by decide +kernel
theorem dX5_read_48 : decode cX5_read 48 = .ok (.if_icmp .ne 6, 3) := by decide +kernel
theorem dX5_read_51 : decode cX5_read 51 = .ok (.goto 133, 3) := by decide +kernel
theorem dX5_read_54 : decode cX5_read 54 = .ok (.iload 6, 2) := by decide +kernel
theorem dX5_read_56 : decode cX5_read 56 = .ok (.invokestatic 47, 3) := by decide +kernel
theorem dX5_read_59 : decode cX5_read 59 = .ok (.ifCond .eq 38, 3) := by decide +kernel
theorem dX5_read_62 : decode cX5_read 62 = .ok (.aload_n 0, 1) := by decide +kernel
theorem dX5_read_63 : decode cX5_read 63 = .ok (.iload_n 1, 1) := by decide +kernel
theorem dX5_read_64 : decode cX5_read 64 = .ok (.invokevirtual 51, 3) := by decide +kernel
theorem dX5_read_67 : decode cX5_read 67 = .ok (.istore_n 2, 1) := by decide +kernel
theorem dX5_read_68 : decode cX5_read 68 = .ok (.aload_n 0, 1) := by decide +kernel
theorem dX5_read_69 : decode cX5_read 69 = .ok (.getfield 40, 3) := by decide +kernel
theorem dX5_read_72 : decode cX5_read 72 = .ok (.iconst (-1), 1) := by decide +kernel
theorem dX5_read_73 : decode cX5_read 73 = .ok (.if_icmp .eq 8, 3) := by decide +kernel
theorem dX5_read_76 : decode cX5_read 76 = .ok (.aload_n 0, 1) := by decide +kernel
theorem dX5_read_77 : decode cX5_read 77 = .ok (.getfield 40, 3) := by decide +kernel
theorem dX5_read_80 : decode cX5_read 80 = .ok (.ireturn, 1) := by decide +kernel
theorem dX5_read_81 : decode cX5_read 81 = .ok (.iconst 1, 1) := by decide +kernel
theorem dX5_read_82 : decode cX5_read 82 = .ok (.istore_n 3, 1) := by decide +kernel
theorem dX5_read_83 : decode cX5_read 83 = .ok (.iload_n 1, 1) := by decide +kernel
theorem dX5_read_84 : decode cX5_read 84 = .ok (.ifCond .eq 7, 3) := by decide +kernel
theorem dX5_read_87 : decode cX5_read 87 = .ok (.iconst 1, 1) := by decide +kernel
theorem dX5_read_88 : decode cX5_read 88 = .ok (.goto 4, 3) := by decide +kernel
theorem dX5_read_91 : decode cX5_read 91 = .ok (.iconst 0, 1) := by decide +kernel
theorem dX5_read_92 : decode cX5_read 92 = .ok (.istore 4, 2) := by decide +kernel
theorem dX5_read_94 : decode cX5_read 94 = .ok (.goto 84, 3) := by decide +kernel
theorem dX5_read_97 : decode cX5_read 97 = .ok (.iload 6, 2) := by decide +kernel
theorem dX5_read_99 : decode cX5_read 99 = .ok (.bipush 40, 2) := by decide +kernel
theorem dX5_read_101 : decode cX5_read 101 = .ok (.if_icmp .ne 27, 3) := by decide +kernel
