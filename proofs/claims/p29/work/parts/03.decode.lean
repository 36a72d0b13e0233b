theorem dX0_init_0 : decode cX0_init 0 = .ok (.aload_n 0, 1) := by decide +kernel
theorem dX0_init_1 : decode cX0_init 1 = .ok (.invokespecial 1, 3) := by decide +kernel
theorem dX0_init_4 : decode cX0_init 4 = .ok (.return_, 1) := by decide +kernel
theorem dX0_copyFrom_0 : decode cX0_copyFrom 0 = .ok (.aload_n 0, 1) := by decide +kernel
theorem dX0_copyFrom_1 : decode cX0_copyFrom 1 = .ok (.aload_n 1, 1) := by decide +kernel
theorem dX0_copyFrom_2 : decode cX0_copyFrom 2 = .ok (.getfield 7, 3) := by decide +kernel
theorem dX0_copyFrom_5 : decode cX0_copyFrom 5 = .ok (.putfield 7, 3) := by decide +kernel
theorem dX0_copyFrom_8 : decode cX0_copyFrom 8 = .ok (.aload_n 0, 1) := by decide +kernel
theorem dX0_copyFrom_9 : decode cX0_copyFrom 9 = .ok (.aload_n 1, 1) := by decide +kernel
theorem dX0_copyFrom_10 : decode cX0_copyFrom 10 = .ok (.getfield 13, 3) := by decide +kernel
theorem dX0_copyFrom_13 : decode cX0_copyFrom 13 = .ok (.putfield 13, 3) := by decide +kernel
theorem dX0_copyFrom_16 : decode cX0_copyFrom 16 = .ok (.return_, 1) := by decide +kernel
theorem dX1_init_0 : decode cX1_init 0 = .ok (.aload_n 0, 1) := by decide +kernel
theorem dX1_init_1 : decode cX1_init 1 = .ok (.invokespecial 3, 3) := by decide +kernel
theorem dX1_init_4 : decode cX1_init 4 = .ok (.aload_n 0, 1) := by decide +kernel
theorem dX1_init_5 : decode cX1_init 5 = .ok (.iconst (-1), 1) := by decide +kernel
theorem dX1_init_6 : decode cX1_init 6 = .ok (.putfield 9, 3) := by decide +kernel
theorem dX1_init_9 : decode cX1_init 9 = .ok (.aload_n 0, 1) := by decide +kernel
theorem dX1_init_10 : decode cX1_init 10 = .ok (.iconst (-1), 1) := by decide +kernel
theorem dX1_init_11 : decode cX1_init 11 = .ok (.putfield 15, 3) := by decide +kernel
theorem dX1_init_14 : decode cX1_init 14 = .ok (.return_, 1) := by decide +kernel
theorem dX1_isUsed_0 : decode cX1_isUsed 0 = .ok (.aload_n 0, 1) := by decide +kernel
theorem dX1_isUsed_1 : decode cX1_isUsed 1 = .ok (.getfield 9, 3) := by decide +kernel
theorem dX1_isUsed_4 : decode cX1_isUsed 4 = .ok (.iconst (-1), 1) := by decide +kernel
theorem dX1_isUsed_5 : decode cX1_isUsed 5 = .ok (.if_icmp .eq 7, 3) := by decide +kernel
theorem dX1_isUsed_8 : decode cX1_isUsed 8 = .ok (.iconst 1, 1) := by decide +kernel
theorem dX1_isUsed_9 : decode cX1_isUsed 9 = .ok (.goto 4, 3) := by decide +kernel
theorem dX1_isUsed_12 : decode cX1_isUsed 12 = .ok (.iconst 0, 1) := by decide +kernel
theorem dX1_isUsed_13 : decode cX1_isUsed 13 = .ok (.ireturn, 1) := by decide +kernel
theorem dX1_isPledged_0 : decode cX1_isPledged 0 = .ok (.aload_n 0, 1) := by decide +kernel
theorem dX1_isPledged_1 : decode cX1_isPledged 1 = .ok (.getfield 15, 3) := by decide +kernel
theorem dX1_isPledged_4 : decode cX1_isPledged 4 = .ok (.iconst (-1), 1) := by decide +kernel
theorem dX1_isPledged_5 : decode cX1_isPledged 5 = .ok (.if_icmp .eq 7, 3) := by decide +kernel
theorem dX1_isPledged_8 : decode cX1_isPledged 8 = .ok (.iconst 1, 1) := by decide +kernel
theorem dX1_isPledged_9 : decode cX1_isPledged 9 = .ok (.goto 4, 3) := by decide +kernel
theorem dX1_isPledged_12 : decode cX1_isPledged 12 = .ok (.iconst 0, 1) := by decide +kernel
theorem dX1_isPledged_13 : decode cX1_isPledged 13 = .ok (.ireturn, 1) := by decide +kernel
theorem dX1_isCalled_0 : decode cX1_isCalled 0 = .ok (.aload_n 0, 1) := by decide +kernel
theorem dX1_isCalled_1 : decode cX1_isCalled 1 = .ok (.getfield 18, 3) := by decide +kernel
theorem dX1_isCalled_4 : decode cX1_isCalled 4 = .ok (.ifCond .le 7, 3) := by decide +kernel
theorem dX1_isCalled_7 : decode cX1_isCalled 7 = .ok (.iconst 1, 1) := by decide +kernel
theorem dX1_isCalled_8 : decode cX1_isCalled 8 = .ok (.goto 4, 3) := by decide +kernel
theorem dX1_isCalled_11 : decode cX1_isCalled 11 = .ok (.iconst 0, 1) := by decide +kernel
theorem dX1_isCalled_12 : decode cX1_isCalled 12 = .ok (.ireturn, 1) := by decide +kernel
theorem dX1_use_0 : decode cX1_use 0 = .ok (.aload_n 0, 1) := by decide +kernel
theorem dX1_use_1 : decode cX1_use 1 = .ok (.iload_n 1, 1) := by decide +kernel
theorem dX1_use_2 : decode cX1_use 2 = .ok (.putfield 9, 3) := by decide +kernel
theorem dX1_use_5 : decode cX1_use 5 = .ok (.aload_n 0, 1) := by decide +kernel
theorem dX1_use_6 : decode cX1_use 6 = .ok (.iload_n 2, 1) := by decide +kernel
theorem dX1_use_7 : decode cX1_use 7 = .ok (.putfield 21, 3) := by decide +kernel
theorem dX1_use_10 : decode cX1_use 10 = .ok (.aload_n 0, 1) := by decide +kernel
theorem dX1_use_11 : decode cX1_use 11 = .ok (.iload_n 3, 1) := by decide +kernel
theorem dX1_use_12 : decode cX1_use 12 = .ok (.putfield 24, 3) := by decide +kernel
theorem dX1_use_15 : decode cX1_use 15 = .ok (.aload_n 0, 1) := by decide +kernel
theorem dX1_use_16 : decode cX1_use 16 = .ok (.iload 4, 2) := by decide +kernel
theorem dX1_use_18 : decode cX1_use 18 = .ok (.putfield 27, 3) := by decide +kernel
theorem dX1_use_21 : decode cX1_use 21 = .ok (.return_, 1) := by decide +kernel
theorem dX1_free_0 : decode cX1_free 0 = .ok (.aload_n 0, 1) := by decide +kernel
theorem dX1_free_1 : decode cX1_free 1 = .ok (.iconst (-1), 1) := by decide +kernel
theorem dX1_free_2 : decode cX1_free 2 = .ok (.iconst 0, 1) := by decide +kernel
theorem dX1_free_3 : decode cX1_free 3 = .ok (.iconst 0, 1) := by decide +kernel
theorem dX1_free_4 : decode cX1_free 4 = .ok (.iconst 0, 1) := by decide +kernel
theorem dX1_free_5 : decode cX1_free 5 = .ok (.invokevirtual 30, 3) := by decide +kernel
theorem dX1_free_8 : decode cX1_free 8 = .ok (.aload_n 0, 1) := by decide +kernel
theorem dX1_free_9 : decode cX1_free 9 = .ok (.invokevirtual 34, 3) := by decide +kernel
theorem dX1_free_12 : decode cX1_free 12 = .ok (.return_, 1) := by decide +kernel
theorem dX1_endPledge_0 : decode cX1_endPledge 0 = .ok (.aload_n 0, 1) := by decide +kernel
theorem dX1_endPledge_1 : decode cX1_endPledge 1 = .ok (.iconst (-1), 1) := by decide +kernel
theorem dX1_endPledge_2 : decode cX1_endPledge 2 = .ok (.putfield 15, 3) := by decide +kernel
theorem dX1_endPledge_5 : decode cX1_endPledge 5 = .ok (.aload_n 0, 1) := by decide +kernel
theorem dX1_endPledge_6 : decode cX1_endPledge 6 = .ok (.iconst 0, 1) := by decide +kernel
theorem dX1_endPledge_7 : decode cX1_endPledge 7 = .ok (.putfield 37, 3) := by decide +kernel
theorem dX1_endPledge_10 : decode cX1_endPledge 10 = .ok (.aload_n 0, 1) := by decide +kernel
theorem dX1_endPledge_11 : decode cX1_endPledge 11 = .ok (.iconst 0, 1) := by decide +kernel
theorem dX1_endPledge_12 : decode cX1_endPledge 12 = .ok (.putfield 18, 3) := by decide +kernel
theorem dX1_endPledge_15 : decode cX1_endPledge 15 = .ok (.return_, 1) := by decide +kernel
theorem dX1_copyFrom_0 : decode cX1_copyFrom 0 = .ok (.aload_n 0, 1) := by decide +kernel
theorem dX1_copyFrom_1 : decode cX1_copyFrom 1 = .ok (.aload_n 1, 1) := by decide +kernel
theorem dX1_copyFrom_2 : decode cX1_copyFrom 2 = .ok (.getfield 9, 3) := by decide +kernel
theorem dX1_copyFrom_5 : decode cX1_copyFrom 5 = .ok (.aload_n 1, 1) := by decide +kernel
theorem dX1_copyFrom_6 : decode cX1_copyFrom 6 = .ok (.getfield 21, 3) := by decide +kernel
theorem dX1_copyFrom_9 : decode cX1_copyFrom 9 = .ok (.aload_n 1, 1) := by decide +kernel
theorem dX1_copyFrom_10 : decode cX1_copyFrom 10 = .ok (.getfield 24, 3) := by decide +kernel
theorem dX1_copyFrom_13 : decode cX1_copyFrom 13 = .ok (.aload_n 1, 1) := by decide +kernel
theorem dX1_copyFrom_14 : decode cX1_copyFrom 14 = .ok (.getfield 27, 3) := by decide +kernel
theorem dX1_copyFrom_17 : decode cX1_copyFrom 17 = .ok (.invokevirtual 30, 3) := by decide +kernel
theorem dX1_copyFrom_20 : decode cX1_copyFrom 20 = .ok (.aload_n 0, 1) := by decide +kernel
theorem dX1_copyFrom_21 : decode cX1_copyFrom 21 = .ok (.aload_n 1, 1) := by decide +kernel
theorem dX1_copyFrom_22 : decode cX1_copyFrom 22 = .ok (.getfield 15, 3) := by decide +kernel
theorem dX1_copyFrom_25 : decode cX1_copyFrom 25 = .ok (.putfield 15, 3) := by decide +kernel
theorem dX1_copyFrom_28 : decode cX1_copyFrom 28 = .ok (.aload_n 0, 1) := by decide +kernel
theorem dX1_copyFrom_29 : decode cX1_copyFrom 29 = .ok (.aload_n 1, 1) := by decide +kernel
theorem dX1_copyFrom_30 : decode cX1_copyFrom 30 = .ok (.getfield 37, 3) := by decide +kernel
theorem dX1_copyFrom_33 : decode cX1_copyFrom 33 = .ok (.putfield 37, 3) := by decide +kernel
theorem dX1_copyFrom_36 : decode cX1_copyFrom 36 = .ok (.aload_n 0, 1) := by decide +kernel
theorem dX1_copyFrom_37 : decode cX1_copyFrom 37 = .ok (.aload_n 1, 1) := by decide +kernel
theorem dX1_copyFrom_38 : decode cX1_copyFrom 38 = .ok (.getfield 18, 3) := by decide +kernel
theorem dX1_copyFrom_41 : decode cX1_copyFrom 41 = .ok (.putfield 18, 3) := by decide +kernel
theorem dX1_copyFrom_44 : decode cX1_copyFrom 44 = .ok (.return_, 1) := by decide +kernel
theorem dX2_init_0 : decode cX2_init 0 = .ok (.aload_n 0, 1) := by decide +kernel
theorem dX2_init_1 : decode cX2_init 1 = .ok (.invokespecial 3, 3) := by decide +kernel
theorem dX2_init_4 : decode cX2_init 4 = .ok (.aload_n 0, 1) := by decide +kernel
theorem dX2_init_5 : decode cX2_init 5 = .ok (.bipush 60, 2) := by decide +kernel
theorem dX2_init_7 : decode cX2_init 7 = .ok (.newarray .char, 2) := by decide +kernel
theorem dX2_init_9 : decode cX2_init 9 = .ok (.putfield 9, 3) := by decide +kernel
theorem dX2_init_12 : decode cX2_init 12 = .ok (.aload_n 0, 1) := by decide +kernel
theorem dX2_init_13 : decode cX2_init 13 = .ok (.iconst 3, 1) := by decide +kernel
theorem dX2_init_14 : decode cX2_init 14 = .ok (.newarray .int, 2) := by decide +kernel
theorem dX2_init_16 : decode cX2_init 16 = .ok (.putfield 15, 3) := by decide +kernel
theorem dX2_init_19 : decode cX2_init 19 = .ok (.return_, 1) := by decide +kernel
theorem dX2_append_0 : decode cX2_append 0 = .ok (.iload_n 1, 1) := by decide +kernel
theorem dX2_append_1 : decode cX2_append 1 = .ok (.bipush 32, 2) := by decide +kernel
theorem dX2_append_3 : decode cX2_append 3 = .ok (.if_icmp .lt 9, 3) := by decide +kernel
theorem dX2_append_6 : decode cX2_append 6 = .ok (.iload_n 1, 1) := by decide +kernel
theorem dX2_append_7 : decode cX2_append 7 = .ok (.bipush 126, 2) := by decide +kernel
theorem dX2_append_9 : decode cX2_append 9 = .ok (.if_icmp .le 6, 3) := by decide +kernel
theorem dX2_append_12 : decode cX2_append 12 = .ok (.ldc 19, 2) := by decide +kernel
theorem dX2_append_14 : decode cX2_append 14 = .ok (.ireturn, 1) := by decide +kernel
theorem dX2_append_15 : decode cX2_append 15 = .ok (.aload_n 0, 1) := by decide +kernel
theorem dX2_append_16 : decode cX2_append 16 = .ok (.getfield 20, 3) := by decide +kernel
theorem dX2_append_19 : decode cX2_append 19 = .ok (.ifCond .lt 12, 3) := by decide +kernel
theorem dX2_append_22 : decode cX2_append 22 = .ok (.aload_n 0, 1) := by decide +kernel
theorem dX2_append_23 : decode cX2_append 23 = .ok (.getfield 20, 3) := by decide +kernel
theorem dX2_append_26 : decode cX2_append 26 = .ok (.bipush 60, 2) := by decide +kernel
theorem dX2_append_28 : decode cX2_append 28 = .ok (.if_icmp .lt 6, 3) := by decide +kernel
theorem dX2_append_31 : decode cX2_append 31 = .ok (.ldc 24, 2) := by decide +kernel
theorem dX2_append_33 : decode cX2_append 33 = .ok (.ireturn, 1) := by decide +kernel
theorem dX2_append_34 : decode cX2_append 34 = .ok (.aload_n 0, 1) := by decide +kernel
theorem dX2_append_35 : decode cX2_append 35 = .ok (.getfield 9, 3) := by decide +kernel
theorem dX2_append_38 : decode cX2_append 38 = .ok (.aload_n 0, 1) := by decide +kernel
theorem dX2_append_39 : decode cX2_append 39 = .ok (.getfield 20, 3) := by decide +kernel
theorem dX2_append_42 : decode cX2_append 42 = .ok (.iload_n 1, 1) := by decide +kernel
theorem dX2_append_43 : decode cX2_append 43 = .ok (.i2c, 1) := by decide +kernel
theorem dX2_append_44 : decode cX2_append 44 = .ok (.castore, 1) := by decide +kernel
theorem dX2_append_45 : decode cX2_append 45 = .ok (.aload_n 0, 1) := by decide +kernel
theorem dX2_append_46 : decode cX2_append 46 = .ok (.dup, 1) := by decide +kernel
theorem dX2_append_47 : decode cX2_append 47 = .ok (.getfield 20, 3) := by decide +kernel
theorem dX2_append_50 : decode cX2_append 50 = .ok (.iconst 1, 1) := by decide +kernel
theorem dX2_append_51 : decode cX2_append 51 = .ok (.iadd, 1) := by decide +kernel
theorem dX2_append_52 : decode cX2_append 52 = .ok (.putfield 20, 3) := by decide +kernel
theorem dX2_append_55 : decode cX2_append 55 = .ok (.aload_n 0, 1) := by decide +kernel
theorem dX2_append_56 : decode cX2_append 56 = .ok (.getfield 20, 3) := by decide +kernel
theorem dX2_append_59 : decode cX2_append 59 = .ok (.ireturn, 1) := by decide +kernel
theorem dX2_doOrders_0 : decode cX2_doOrders 0 = .ok (.aload_n 0, 1) := by decide +kernel
theorem dX2_doOrders_1 : decode cX2_doOrders 1 = .ok (.iconst 0, 1) := by decide +kernel
theorem dX2_doOrders_2 : decode cX2_doOrders 2 = .ok (.putfield 25, 3) := by decide +kernel
theorem dX2_doOrders_5 : decode cX2_doOrders 5 = .ok (.aload_n 0, 1) := by decide +kernel
theorem dX2_doOrders_6 : decode cX2_doOrders 6 = .ok (.iconst 0, 1) := by decide +kernel
theorem dX2_doOrders_7 : decode cX2_doOrders 7 = .ok (.putfield 28, 3) := by decide +kernel
theorem dX2_doOrders_10 : decode cX2_doOrders 10 = .ok (.aload_n 0, 1) := by decide +kernel
theorem dX2_doOrders_11 : decode cX2_doOrders 11 = .ok (.iconst 0, 1) := by decide +kernel
theorem dX2_doOrders_12 : decode cX2_doOrders 12 = .ok (.putfield 31, 3) := by decide +kernel
theorem dX2_doOrders_15 : decode cX2_doOrders 15 = .ok (.iconst 0, 1) := by decide +kernel
theorem dX2_doOrders_16 : decode cX2_doOrders 16 = .ok (.istore_n 2, 1) := by decide +kernel
theorem dX2_doOrders_17 : decode cX2_doOrders 17 = .ok (.iload_n 2, 1) := by decide +kernel
theorem dX2_doOrders_18 : decode cX2_doOrders 18 = .ok (.bipush 60, 2) := by decide +kernel
theorem dX2_doOrders_20 : decode cX2_doOrders 20 = .ok (.if_icmp .ge 84, 3) := by decide +kernel
theorem dX2_doOrders_23 : decode cX2_doOrders 23 = .ok (.aload_n 0, 1) := by decide +kernel
theorem dX2_doOrders_24 : decode cX2_doOrders 24 = .ok (.getfield 31, 3) := by decide +kernel
theorem dX2_doOrders_27 : decode cX2_doOrders 27 = .ok (.aload_n 0, 1) := by decide +kernel
theorem dX2_doOrders_28 : decode cX2_doOrders 28 = .ok (.getfield 20, 3) := by decide +kernel
theorem dX2_doOrders_31 : decode cX2_doOrders 31 = .ok (.if_icmp .ge 73, 3) := by decide +kernel
theorem dX2_doOrders_34 : decode cX2_doOrders 34 = .ok (.aload_n 0, 1) := by decide +kernel
theorem dX2_doOrders_35 : decode cX2_doOrders 35 = .ok (.getfield 31, 3) := by decide +kernel
theorem dX2_doOrders_38 : decode cX2_doOrders 38 = .ok (.istore_n 3, 1) := by decide +kernel
theorem dX2_doOrders_39 : decode cX2_doOrders 39 = .ok (.aload_n 0, 1) := by decide +kernel
theorem dX2_doOrders_40 : decode cX2_doOrders 40 = .ok (.invokevirtual 34, 3) := by decide +kernel
theorem dX2_doOrders_43 : decode cX2_doOrders 43 = .ok (.ifCond .ne 16, 3) := by decide +kernel
theorem dX2_doOrders_46 : decode cX2_doOrders 46 = .ok (.aload_n 0, 1) := by decide +kernel
theorem dX2_doOrders_47 : decode cX2_doOrders 47 = .ok (.iload_n 3, 1) := by decide +kernel
theorem dX2_doOrders_48 : decode cX2_doOrders 48 = .ok (.iconst 1, 1) := by decide +kernel
theorem dX2_doOrders_49 : decode cX2_doOrders 49 = .ok (.aload_n 0, 1) := by decide +kernel
theorem dX2_doOrders_50 : decode cX2_doOrders 50 = .ok (.getfield 31, 3) := by decide +kernel
theorem dX2_doOrders_53 : decode cX2_doOrders 53 = .ok (.iload_n 3, 1) := by decide +kernel
theorem dX2_doOrders_54 : decode cX2_doOrders 54 = .ok (.isub, 1) := by decide +kernel
theorem dX2_doOrders_55 : decode cX2_doOrders 55 = .ok (.invokevirtual 38, 3) := by decide +kernel
theorem dX2_doOrders_58 : decode cX2_doOrders 58 = .ok (.return_, 1) := by decide +kernel
theorem dX2_doOrders_59 : decode cX2_doOrders 59 = .ok (.aload_n 0, 1) := by decide +kernel
theorem dX2_doOrders_60 : decode cX2_doOrders 60 = .ok (.aload_n 1, 1) := by decide +kernel
theorem dX2_doOrders_61 : decode cX2_doOrders 61 = .ok (.aload_n 0, 1) := by decide +kernel
theorem dX2_doOrders_62 : decode cX2_doOrders 62 = .ok (.iload_n 3, 1) := by decide +kernel
theorem dX2_doOrders_63 : decode cX2_doOrders 63 = .ok (.invokevirtual 42, 3) := by decide +kernel
theorem dX2_doOrders_66 : decode cX2_doOrders 66 = .ok (.invokevirtual 46, 3) := by decide +kernel
theorem dX2_doOrders_69 : decode cX2_doOrders 69 = .ok (.istore 4, 2) := by decide +kernel
theorem dX2_doOrders_71 : decode cX2_doOrders 71 = .ok (.iload 4, 2) := by decide +kernel
theorem dX2_doOrders_73 : decode cX2_doOrders 73 = .ok (.invokestatic 50, 3) := by decide +kernel
theorem dX2_doOrders_76 : decode cX2_doOrders 76 = .ok (.ifCond .eq 12, 3) := by decide +kernel
theorem dX2_doOrders_79 : decode cX2_doOrders 79 = .ok (.aload_n 0, 1) := by decide +kernel
theorem dX2_doOrders_80 : decode cX2_doOrders 80 = .ok (.iload_n 3, 1) := by decide +kernel
theorem dX2_doOrders_81 : decode cX2_doOrders 81 = .ok (.iconst 2, 1) := by decide +kernel
theorem dX2_doOrders_82 : decode cX2_doOrders 82 = .ok (.iload 4, 2) := by decide +kernel
theorem dX2_doOrders_84 : decode cX2_doOrders 84 = .ok (.invokevirtual 38, 3) := by decide +kernel
theorem dX2_doOrders_87 : decode cX2_doOrders 87 = .ok (.return_, 1) := by decide +kernel
theorem dX2_doOrders_88 : decode cX2_doOrders 88 = .ok (.aload_n 0, 1) := by decide +kernel
theorem dX2_doOrders_89 : decode cX2_doOrders 89 = .ok (.dup, 1) := by decide +kernel
theorem dX2_doOrders_90 : decode cX2_doOrders 90 = .ok (.getfield 25, 3) := by decide +kernel
theorem dX2_doOrders_93 : decode cX2_doOrders 93 = .ok (.iconst 1, 1) := by decide +kernel
theorem dX2_doOrders_94 : decode cX2_doOrders 94 = .ok (.iadd, 1) := by decide +kernel
theorem dX2_doOrders_95 : decode cX2_doOrders 95 = .ok (.putfield 25, 3) := by decide +kernel
theorem dX2_doOrders_98 : decode cX2_doOrders 98 = .ok (.iinc 2 1, 3) := by decide +kernel
theorem dX2_doOrders_101 : decode cX2_doOrders 101 = .ok (.goto (-84), 3) := by decide +kernel
theorem dX2_doOrders_104 : decode cX2_doOrders 104 = .ok (.return_, 1) := by decide +kernel
theorem dX2_setFault_0 : decode cX2_setFault 0 = .ok (.aload_n 0, 1) := by decide +kernel
theorem dX2_setFault_1 : decode cX2_setFault 1 = .ok (.iload_n 1, 1) := by decide +kernel
theorem dX2_setFault_2 : decode cX2_setFault 2 = .ok (.putfield 54, 3) := by decide +kernel
theorem dX2_setFault_5 : decode cX2_setFault 5 = .ok (.aload_n 0, 1) := by decide +kernel
theorem dX2_setFault_6 : decode cX2_setFault 6 = .ok (.iload_n 2, 1) := by decide +kernel
theorem dX2_setFault_7 : decode cX2_setFault 7 = .ok (.putfield 28, 3) := by decide +kernel
theorem dX2_setFault_10 : decode cX2_setFault 10 = .ok (.aload_n 0, 1) := by decide +kernel
theorem dX2_setFault_11 : decode cX2_setFault 11 = .ok (.iload_n 3, 1) := by decide +kernel
theorem dX2_setFault_12 : decode cX2_setFault 12 = .ok (.putfield 57, 3) := by decide +kernel
theorem dX2_setFault_15 : decode cX2_setFault 15 = .ok (.return_, 1) := by decide +kernel
theorem dX2_doOrder_0 : decode cX2_doOrder 0 = .ok (.iload_n 2, 1) := by decide +kernel
theorem dX2_doOrder_1 : decode cX2_doOrder 1 = .ok (.tableswitch 183 99 116 #[150, 161, 183, 183, 183, 183, 183, 183, 183, 110, 183, 183, 183, 133, 183, 183, 87, 172], 87) := by decide +kernel
theorem dX2_doOrder_88 : decode cX2_doOrder 88 = .ok (.aload_n 1, 1) := by decide +kernel
theorem dX2_doOrder_89 : decode cX2_doOrder 89 = .ok (.aload_n 0, 1) := by decide +kernel
theorem dX2_doOrder_90 : decode cX2_doOrder 90 = .ok (.getfield 15, 3) := by decide +kernel
theorem dX2_doOrder_93 : decode cX2_doOrder 93 = .ok (.iconst 0, 1) := by decide +kernel
theorem dX2_doOrder_94 : decode cX2_doOrder 94 = .ok (.iaload, 1) := by decide +kernel
theorem dX2_doOrder_95 : decode cX2_doOrder 95 = .ok (.aload_n 0, 1) := by decide +kernel
theorem dX2_doOrder_96 : decode cX2_doOrder 96 = .ok (.getfield 15, 3) := by decide +kernel
theorem dX2_doOrder_99 : decode cX2_doOrder 99 = .ok (.iconst 1, 1) := by decide +kernel
theorem dX2_doOrder_100 : decode cX2_doOrder 100 = .ok (.iaload, 1) := by decide +kernel
theorem dX2_doOrder_101 : decode cX2_doOrder 101 = .ok (.aload_n 0, 1) := by decide +kernel
theorem dX2_doOrder_102 : decode cX2_doOrder 102 = .ok (.getfield 15, 3) := by decide +kernel
theorem dX2_doOrder_105 : decode cX2_doOrder 105 = .ok (.iconst 2, 1) := by decide +kernel
theorem dX2_doOrder_106 : decode cX2_doOrder 106 = .ok (.iaload, 1) := by decide +kernel
theorem dX2_doOrder_107 : decode cX2_doOrder 107 = .ok (.invokevirtual 60, 3) := by decide +kernel
theorem dX2_doOrder_110 : decode cX2_doOrder 110 = .ok (.ireturn, 1) := by decide +kernel
theorem dX2_doOrder_111 : decode cX2_doOrder 111 = .ok (.aload_n 1, 1) := by decide +kernel
theorem dX2_doOrder_112 : decode cX2_doOrder 112 = .ok (.aload_n 0, 1) := by decide +kernel
theorem dX2_doOrder_113 : decode cX2_doOrder 113 = .ok (.getfield 15, 3) := by decide +kernel
theorem dX2_doOrder_116 : decode cX2_doOrder 116 = .ok (.iconst 0, 1) := by decide +kernel
theorem dX2_doOrder_117 : decode cX2_doOrder 117 = .ok (.iaload, 1) := by decide +kernel
theorem dX2_doOrder_118 : decode cX2_doOrder 118 = .ok (.aload_n 0, 1) := by decide +kernel
theorem dX2_doOrder_119 : decode cX2_doOrder 119 = .ok (.getfield 15, 3) := by decide +kernel
theorem dX2_doOrder_122 : decode cX2_doOrder 122 = .ok (.iconst 1, 1) := by decide +kernel
theorem dX2_doOrder_123 : decode cX2_doOrder 123 = .ok (.iaload, 1) := by decide +kernel
theorem dX2_doOrder_124 : decode cX2_doOrder 124 = .ok (.aload_n 0, 1) := by decide +kernel
theorem dX2_doOrder_125 : decode cX2_doOrder 125 = .ok (.getfield 15, 3) := by decide +kernel
theorem dX2_doOrder_128 : decode cX2_doOrder 128 = .ok (.iconst 2, 1) := by decide +kernel
theorem dX2_doOrder_129 : decode cX2_doOrder 129 = .ok (.iaload, 1) := by decide +kernel
theorem dX2_doOrder_130 : decode cX2_doOrder 130 = .ok (.invokevirtual 66, 3) := by decide +kernel
theorem dX2_doOrder_133 : decode cX2_doOrder 133 = .ok (.ireturn, 1) := by decide +kernel
theorem dX2_doOrder_134 : decode cX2_doOrder 134 = .ok (.aload_n 1, 1) := by decide +kernel
theorem dX2_doOrder_135 : decode cX2_doOrder 135 = .ok (.aload_n 0, 1) := by decide +kernel
theorem dX2_doOrder_136 : decode cX2_doOrder 136 = .ok (.getfield 15, 3) := by decide +kernel
theorem dX2_doOrder_139 : decode cX2_doOrder 139 = .ok (.iconst 0, 1) := by decide +kernel
theorem dX2_doOrder_140 : decode cX2_doOrder 140 = .ok (.iaload, 1) := by decide +kernel
theorem dX2_doOrder_141 : decode cX2_doOrder 141 = .ok (.aload_n 0, 1) := by decide +kernel
theorem dX2_doOrder_142 : decode cX2_doOrder 142 = .ok (.getfield 15, 3) := by decide +kernel
theorem dX2_doOrder_145 : decode cX2_doOrder 145 = .ok (.iconst 1, 1) := by decide +kernel
theorem dX2_doOrder_146 : decode cX2_doOrder 146 = .ok (.iaload, 1) := by decide +kernel
theorem dX2_doOrder_147 : decode cX2_doOrder 147 = .ok (.invokevirtual 69, 3) := by decide +kernel
theorem dX2_doOrder_150 : decode cX2_doOrder 150 = .ok (.ireturn, 1) := by decide +kernel
theorem dX2_doOrder_151 : decode cX2_doOrder 151 = .ok (.aload_n 1, 1) := by decide +kernel
theorem dX2_doOrder_152 : decode cX2_doOrder 152 = .ok (.aload_n 0, 1) := by decide +kernel
theorem dX2_doOrder_153 : decode cX2_doOrder 153 = .ok (.getfield 15, 3) := by decide +kernel
theorem dX2_doOrder_156 : decode cX2_doOrder 156 = .ok (.iconst 0, 1) := by decide +kernel
theorem dX2_doOrder_157 : decode cX2_doOrder 157 = .ok (.iaload, 1) := by decide +kernel
theorem dX2_doOrder_158 : decode cX2_doOrder 158 = .ok (.invokevirtual 73, 3) := by decide +kernel
theorem dX2_doOrder_161 : decode cX2_doOrder 161 = .ok (.ireturn, 1) := by decide +kernel
theorem dX2_doOrder_162 : decode cX2_doOrder 162 = .ok (.aload_n 1, 1) := by decide +kernel
theorem dX2_doOrder_163 : decode cX2_doOrder 163 = .ok (.aload_n 0, 1) := by decide +kernel
theorem dX2_doOrder_164 : decode cX2_doOrder 164 = .ok (.getfield 15, 3) := by decide +kernel
theorem dX2_doOrder_167 : decode cX2_doOrder 167 = .ok (.iconst 0, 1) := by decide +kernel
theorem dX2_doOrder_168 : decode cX2_doOrder 168 = .ok (.iaload, 1) := by decide +kernel
theorem dX2_doOrder_169 : decode cX2_doOrder 169 = .ok (.invokevirtual 77, 3) := by decide +kernel
theorem dX2_doOrder_172 : decode cX2_doOrder 172 = .ok (.ireturn, 1) := by decide +kernel
theorem dX2_doOrder_173 : decode cX2_doOrder 173 = .ok (.aload_n 1, 1) := by decide +kernel
theorem dX2_doOrder_174 : decode cX2_doOrder 174 = .ok (.aload_n 0, 1) := by decide +kernel
theorem dX2_doOrder_175 : decode cX2_doOrder 175 = .ok (.getfield 15, 3) := by decide +kernel
theorem dX2_doOrder_178 : decode cX2_doOrder 178 = .ok (.iconst 0, 1) := by decide +kernel
theorem dX2_doOrder_179 : decode cX2_doOrder 179 = .ok (.iaload, 1) := by decide +kernel
theorem dX2_doOrder_180 : decode cX2_doOrder 180 = .ok (.invokevirtual 80, 3) := by decide +kernel
theorem dX2_doOrder_183 : decode cX2_doOrder 183 = .ok (.ireturn, 1) := by decide +kernel
theorem dX2_doOrder_184 : decode cX2_doOrder 184 = .ok (.ldc 19, 2) := by decide +kernel
theorem dX2_doOrder_186 : decode cX2_doOrder 186 = .ok (.ireturn, 1) := by decide +kernel
theorem dX2_readOrder_0 : decode cX2_readOrder 0 = .ok (.aload_n 0, 1) := by decide +kernel
theorem dX2_readOrder_1 : decode cX2_readOrder 1 = .ok (.aload_n 0, 1) := by decide +kernel
theorem dX2_readOrder_2 : decode cX2_readOrder 2 = .ok (.getfield 31, 3) := by decide +kernel
theorem dX2_readOrder_5 : decode cX2_readOrder 5 = .ok (.invokevirtual 42, 3) := by decide +kernel
theorem dX2_readOrder_8 : decode cX2_readOrder 8 = .ok (.invokestatic 83, 3) := by decide +kernel
theorem dX2_readOrder_11 : decode cX2_readOrder 11 = .ok (.istore_n 1, 1) := by decide +kernel
theorem dX2_readOrder_12 : decode cX2_readOrder 12 = .ok (.iload_n 1, 1) := by decide +kernel
theorem dX2_readOrder_13 : decode cX2_readOrder 13 = .ok (.ifCond .ne 5, 3) := by decide +kernel
theorem dX2_readOrder_16 : decode cX2_readOrder 16 = .ok (.iconst 0, 1) := by decide +kernel
theorem dX2_readOrder_17 : decode cX2_readOrder 17 = .ok (.ireturn, 1) := by decide +kernel
theorem dX2_readOrder_18 : decode cX2_readOrder 18 = .ok (.aload_n 0, 1) := by decide +kernel
theorem dX2_readOrder_19 : decode cX2_readOrder 19 = .ok (.dup, 1) := by decide +kernel
theorem dX2_readOrder_20 : decode cX2_readOrder 20 = .ok (.getfield 31, 3) := by decide +kernel
theorem dX2_readOrder_23 : decode cX2_readOrder 23 = .ok (.iconst 1, 1) := by decide +kernel
theorem dX2_readOrder_24 : decode cX2_readOrder 24 = .ok (.iadd, 1) := by decide +kernel
theorem dX2_readOrder_25 : decode cX2_readOrder 25 = .ok (.putfield 31, 3) := by decide +kernel
theorem dX2_readOrder_28 : decode cX2_readOrder 28 = .ok (.iconst 0, 1) := by decide +kernel
theorem dX2_readOrder_29 : decode cX2_readOrder 29 = .ok (.istore_n 2, 1) := by decide +kernel
theorem dX2_readOrder_30 : decode cX2_readOrder 30 = .ok (.iload_n 2, 1) := by decide +kernel
theorem dX2_readOrder_31 : decode cX2_readOrder 31 = .ok (.iload_n 1, 1) := by decide +kernel
theorem dX2_readOrder_32 : decode cX2_readOrder 32 = .ok (.if_icmp .ge 77, 3) := by decide +kernel
theorem dX2_readOrder_35 : decode cX2_readOrder 35 = .ok (.iload_n 2, 1) := by decide +kernel
theorem dX2_readOrder_36 : decode cX2_readOrder 36 = .ok (.iconst 3, 1) := by decide +kernel
theorem dX2_readOrder_37 : decode cX2_readOrder 37 = .ok (.if_icmp .ge 72, 3) := by decide +kernel
theorem dX2_readOrder_40 : decode cX2_readOrder 40 = .ok (.aload_n 0, 1) := by decide +kernel
theorem dX2_readOrder_41 : decode cX2_readOrder 41 = .ok (.aload_n 0, 1) := by decide +kernel
theorem dX2_readOrder_42 : decode cX2_readOrder 42 = .ok (.getfield 31, 3) := by decide +kernel
theorem dX2_readOrder_45 : decode cX2_readOrder 45 = .ok (.invokevirtual 42, 3) := by decide +kernel
theorem dX2_readOrder_48 : decode cX2_readOrder 48 = .ok (.invokestatic 87, 3) := by decide +kernel
theorem dX2_readOrder_51 : decode cX2_readOrder 51 = .ok (.ifCond .ne 5, 3) := by decide +kernel
theorem dX2_readOrder_54 : decode cX2_readOrder 54 = .ok (.iconst 0, 1) := by decide +kernel
theorem dX2_readOrder_55 : decode cX2_readOrder 55 = .ok (.ireturn, 1) := by decide +kernel
theorem dX2_readOrder_56 : decode cX2_readOrder 56 = .ok (.aload_n 0, 1) := by decide +kernel
theorem dX2_readOrder_57 : decode cX2_readOrder 57 = .ok (.getfield 15, 3) := by decide +kernel
theorem dX2_readOrder_60 : decode cX2_readOrder 60 = .ok (.iload_n 2, 1) := by decide +kernel
theorem dX2_readOrder_61 : decode cX2_readOrder 61 = .ok (.aload_n 0, 1) := by decide +kernel
theorem dX2_readOrder_62 : decode cX2_readOrder 62 = .ok (.invokevirtual 91, 3) := by decide +kernel
theorem dX2_readOrder_65 : decode cX2_readOrder 65 = .ok (.iastore, 1) := by decide +kernel
theorem dX2_readOrder_66 : decode cX2_readOrder 66 = .ok (.aload_n 0, 1) := by decide +kernel
theorem dX2_readOrder_67 : decode cX2_readOrder 67 = .ok (.aload_n 0, 1) := by decide +kernel
theorem dX2_readOrder_68 : decode cX2_readOrder 68 = .ok (.getfield 31, 3) := by decide +kernel
theorem dX2_readOrder_71 : decode cX2_readOrder 71 = .ok (.invokevirtual 42, 3) := by decide +kernel
theorem dX2_readOrder_74 : decode cX2_readOrder 74 = .ok (.iload_n 2, 1) := by decide +kernel
theorem dX2_readOrder_75 : decode cX2_readOrder 75 = .ok (.iconst 1, 1) := by decide +kernel
theorem dX2_readOrder_76 : decode cX2_readOrder 76 = .ok (.iadd, 1) := by decide +kernel
theorem dX2_readOrder_77 : decode cX2_readOrder 77 = .ok (.iload_n 1, 1) := by decide +kernel
theorem dX2_readOrder_78 : decode cX2_readOrder 78 = .ok (.if_icmp .ge 8, 3) := by decide +kernel
theorem dX2_readOrder_81 : decode cX2_readOrder 81 = .ok (.bipush 44, 2) := by decide +kernel
theorem dX2_readOrder_83 : decode cX2_readOrder 83 = .ok (.goto 5, 3) := by decide +kernel
theorem dX2_readOrder_86 : decode cX2_readOrder 86 = .ok (.bipush 59, 2) := by decide +kernel
theorem dX2_readOrder_88 : decode cX2_readOrder 88 = .ok (.if_icmp .eq 5, 3) := by decide +kernel
theorem dX2_readOrder_91 : decode cX2_readOrder 91 = .ok (.iconst 0, 1) := by decide +kernel
theorem dX2_readOrder_92 : decode cX2_readOrder 92 = .ok (.ireturn, 1) := by decide +kernel
theorem dX2_readOrder_93 : decode cX2_readOrder 93 = .ok (.aload_n 0, 1) := by decide +kernel
theorem dX2_readOrder_94 : decode cX2_readOrder 94 = .ok (.dup, 1) := by decide +kernel
theorem dX2_readOrder_95 : decode cX2_readOrder 95 = .ok (.getfield 31, 3) := by decide +kernel
theorem dX2_readOrder_98 : decode cX2_readOrder 98 = .ok (.iconst 1, 1) := by decide +kernel
theorem dX2_readOrder_99 : decode cX2_readOrder 99 = .ok (.iadd, 1) := by decide +kernel
theorem dX2_readOrder_100 : decode cX2_readOrder 100 = .ok (.putfield 31, 3) := by decide +kernel
theorem dX2_readOrder_103 : decode cX2_readOrder 103 = .ok (.iinc 2 1, 3) := by decide +kernel
theorem dX2_readOrder_106 : decode cX2_readOrder 106 = .ok (.goto (-76), 3) := by decide +kernel
theorem dX2_readOrder_109 : decode cX2_readOrder 109 = .ok (.iconst 1, 1) := by decide +kernel
theorem dX2_readOrder_110 : decode cX2_readOrder 110 = .ok (.ireturn, 1) := by decide +kernel
theorem dX2_readNumber_0 : decode cX2_readNumber 0 = .ok (.iconst 0, 1) := by decide +kernel
theorem dX2_readNumber_1 : decode cX2_readNumber 1 = .ok (.istore_n 1, 1) := by decide +kernel
theorem dX2_readNumber_2 : decode cX2_readNumber 2 = .ok (.iconst 0, 1) := by decide +kernel
theorem dX2_readNumber_3 : decode cX2_readNumber 3 = .ok (.istore_n 2, 1) := by decide +kernel
theorem dX2_readNumber_4 : decode cX2_readNumber 4 = .ok (.iload_n 2, 1) := by decide +kernel
theorem dX2_readNumber_5 : decode cX2_readNumber 5 = .ok (.bipush 6, 2) := by decide +kernel
theorem dX2_readNumber_7 : decode cX2_readNumber 7 = .ok (.if_icmp .ge 50, 3) := by decide +kernel
theorem dX2_readNumber_10 : decode cX2_readNumber 10 = .ok (.aload_n 0, 1) := by decide +kernel
theorem dX2_readNumber_11 : decode cX2_readNumber 11 = .ok (.aload_n 0, 1) := by decide +kernel
theorem dX2_readNumber_12 : decode cX2_readNumber 12 = .ok (.getfield 31, 3) := by decide +kernel
theorem dX2_readNumber_15 : decode cX2_readNumber 15 = .ok (.invokevirtual 42, 3) := by decide +kernel
theorem dX2_readNumber_18 : decode cX2_readNumber 18 = .ok (.invokestatic 87, 3) := by decide +kernel
theorem dX2_readNumber_21 : decode cX2_readNumber 21 = .ok (.ifCond .eq 36, 3) := by decide +kernel
theorem dX2_readNumber_24 : decode cX2_readNumber 24 = .ok (.iload_n 1, 1) := by decide +kernel
theorem dX2_readNumber_25 : decode cX2_readNumber 25 = .ok (.bipush 10, 2) := by decide +kernel
theorem dX2_readNumber_27 : decode cX2_readNumber 27 = .ok (.imul, 1) := by decide +kernel
theorem dX2_readNumber_28 : decode cX2_readNumber 28 = .ok (.aload_n 0, 1) := by decide +kernel
theorem dX2_readNumber_29 : decode cX2_readNumber 29 = .ok (.aload_n 0, 1) := by decide +kernel
theorem dX2_readNumber_30 : decode cX2_readNumber 30 = .ok (.getfield 31, 3) := by decide +kernel
theorem dX2_readNumber_33 : decode cX2_readNumber 33 = .ok (.invokevirtual 42, 3) := by decide +kernel
theorem dX2_readNumber_36 : decode cX2_readNumber 36 = .ok (.bipush 48, 2) := by decide +kernel
theorem dX2_readNumber_38 : decode cX2_readNumber 38 = .ok (.isub, 1) := by decide +kernel
theorem dX2_readNumber_39 : decode cX2_readNumber 39 = .ok (.iadd, 1) := by decide +kernel
theorem dX2_readNumber_40 : decode cX2_readNumber 40 = .ok (.istore_n 1, 1) := by decide +kernel
theorem dX2_readNumber_41 : decode cX2_readNumber 41 = .ok (.aload_n 0, 1) := by decide +kernel
theorem dX2_readNumber_42 : decode cX2_readNumber 42 = .ok (.dup, 1) := by decide +kernel
theorem dX2_readNumber_43 : decode cX2_readNumber 43 = .ok (.getfield 31, 3) := by decide +kernel
theorem dX2_readNumber_46 : decode cX2_readNumber 46 = .ok (.iconst 1, 1) := by decide +kernel
theorem dX2_readNumber_47 : decode cX2_readNumber 47 = .ok (.iadd, 1) := by decide +kernel
theorem dX2_readNumber_48 : decode cX2_readNumber 48 = .ok (.putfield 31, 3) := by decide +kernel
theorem dX2_readNumber_51 : decode cX2_readNumber 51 = .ok (.iinc 2 1, 3) := by decide +kernel
theorem dX2_readNumber_54 : decode cX2_readNumber 54 = .ok (.goto (-50), 3) := by decide +kernel
theorem dX2_readNumber_57 : decode cX2_readNumber 57 = .ok (.iload_n 1, 1) := by decide +kernel
theorem dX2_readNumber_58 : decode cX2_readNumber 58 = .ok (.ireturn, 1) := by decide +kernel
theorem dX2_characterAt_0 : decode cX2_characterAt 0 = .ok (.iload_n 1, 1) := by decide +kernel
theorem dX2_characterAt_1 : decode cX2_characterAt 1 = .ok (.ifCond .lt 21, 3) := by decide +kernel
theorem dX2_characterAt_4 : decode cX2_characterAt 4 = .ok (.iload_n 1, 1) := by decide +kernel
theorem dX2_characterAt_5 : decode cX2_characterAt 5 = .ok (.aload_n 0, 1) := by decide +kernel
theorem dX2_characterAt_6 : decode cX2_characterAt 6 = .ok (.getfield 20, 3) := by decide +kernel
theorem dX2_characterAt_9 : decode cX2_characterAt 9 = .ok (.if_icmp .ge 13, 3) := by decide +kernel
theorem dX2_characterAt_12 : decode cX2_characterAt 12 = .ok (.iload_n 1, 1) := by decide +kernel
theorem dX2_characterAt_13 : decode cX2_characterAt 13 = .ok (.bipush 60, 2) := by decide +kernel
theorem dX2_characterAt_15 : decode cX2_characterAt 15 = .ok (.if_icmp .ge 7, 3) := by decide +kernel
theorem dX2_characterAt_18 : decode cX2_characterAt 18 = .ok (.iconst 1, 1) := by decide +kernel
theorem dX2_characterAt_19 : decode cX2_characterAt 19 = .ok (.goto 4, 3) := by decide +kernel
theorem dX2_characterAt_22 : decode cX2_characterAt 22 = .ok (.iconst 0, 1) := by decide +kernel
theorem dX2_characterAt_23 : decode cX2_characterAt 23 = .ok (.istore_n 2, 1) := by decide +kernel
theorem dX2_characterAt_24 : decode cX2_characterAt 24 = .ok (.iload_n 2, 1) := by decide +kernel
theorem dX2_characterAt_25 : decode cX2_characterAt 25 = .ok (.ifCond .eq 12, 3) := by decide +kernel
theorem dX2_characterAt_28 : decode cX2_characterAt 28 = .ok (.aload_n 0, 1) := by decide +kernel
theorem dX2_characterAt_29 : decode cX2_characterAt 29 = .ok (.getfield 9, 3) := by decide +kernel
theorem dX2_characterAt_32 : decode cX2_characterAt 32 = .ok (.iload_n 1, 1) := by decide +kernel
theorem dX2_characterAt_33 : decode cX2_characterAt 33 = .ok (.caload, 1) := by decide +kernel
theorem dX2_characterAt_34 : decode cX2_characterAt 34 = .ok (.goto 4, 3) := by decide +kernel
theorem dX2_characterAt_37 : decode cX2_characterAt 37 = .ok (.iconst 0, 1) := by decide +kernel
theorem dX2_characterAt_38 : decode cX2_characterAt 38 = .ok (.ireturn, 1) := by decide +kernel
theorem dX2_numbersBehind_0 : decode cX2_numbersBehind 0 = .ok (.iload_n 0, 1) := by decide +kernel
theorem dX2_numbersBehind_1 : decode cX2_numbersBehind 1 = .ok (.tableswitch 93 99 116 #[91, 91, 93, 93, 93, 93, 93, 93, 93, 87, 93, 93, 93, 89, 93, 93, 87, 91], 87) := by decide +kernel
theorem dX2_numbersBehind_88 : decode cX2_numbersBehind 88 = .ok (.iconst 3, 1) := by decide +kernel
theorem dX2_numbersBehind_89 : decode cX2_numbersBehind 89 = .ok (.ireturn, 1) := by decide +kernel
theorem dX2_numbersBehind_90 : decode cX2_numbersBehind 90 = .ok (.iconst 2, 1) := by decide +kernel
theorem dX2_numbersBehind_91 : decode cX2_numbersBehind 91 = .ok (.ireturn, 1) := by decide +kernel
theorem dX2_numbersBehind_92 : decode cX2_numbersBehind 92 = .ok (.iconst 1, 1) := by decide +kernel
theorem dX2_numbersBehind_93 : decode cX2_numbersBehind 93 = .ok (.ireturn, 1) := by decide +kernel
theorem dX2_numbersBehind_94 : decode cX2_numbersBehind 94 = .ok (.iconst 0, 1) := by decide +kernel
theorem dX2_numbersBehind_95 : decode cX2_numbersBehind 95 = .ok (.ireturn, 1) := by decide +kernel
theorem dX2_isDigit_0 : decode cX2_isDigit 0 = .ok (.iload_n 0, 1) := by decide +kernel
theorem dX2_isDigit_1 : decode cX2_isDigit 1 = .ok (.bipush 48, 2) := by decide +kernel
theorem dX2_isDigit_3 : decode cX2_isDigit 3 = .ok (.if_icmp .lt 13, 3) := by decide +kernel
theorem dX2_isDigit_6 : decode cX2_isDigit 6 = .ok (.iload_n 0, 1) := by decide +kernel
theorem dX2_isDigit_7 : decode cX2_isDigit 7 = .ok (.bipush 57, 2) := by decide +kernel
theorem dX2_isDigit_9 : decode cX2_isDigit 9 = .ok (.if_icmp .gt 7, 3) := by decide +kernel
theorem dX2_isDigit_12 : decode cX2_isDigit 12 = .ok (.iconst 1, 1) := by decide +kernel
theorem dX2_isDigit_13 : decode cX2_isDigit 13 = .ok (.goto 4, 3) := by decide +kernel
theorem dX2_isDigit_16 : decode cX2_isDigit 16 = .ok (.iconst 0, 1) := by decide +kernel
theorem dX2_isDigit_17 : decode cX2_isDigit 17 = .ok (.ireturn, 1) := by decide +kernel
theorem dX3_init_0 : decode cX3_init 0 = .ok (.aload_n 0, 1) := by decide +kernel
theorem dX3_init_1 : decode cX3_init 1 = .ok (.invokespecial 3, 3) := by decide +kernel
theorem dX3_init_4 : decode cX3_init 4 = .ok (.aload_n 0, 1) := by decide +kernel
theorem dX3_init_5 : decode cX3_init 5 = .ok (.iconst 5, 1) := by decide +kernel
theorem dX3_init_6 : decode cX3_init 6 = .ok (.anewarray 9, 3) := by decide +kernel
theorem dX3_init_9 : decode cX3_init 9 = .ok (.putfield 11, 3) := by decide +kernel
theorem dX3_init_12 : decode cX3_init 12 = .ok (.aload_n 0, 1) := by decide +kernel
theorem dX3_init_13 : decode cX3_init 13 = .ok (.bipush 16, 2) := by decide +kernel
theorem dX3_init_15 : decode cX3_init 15 = .ok (.anewarray 17, 3) := by decide +kernel
theorem dX3_init_18 : decode cX3_init 18 = .ok (.putfield 19, 3) := by decide +kernel
theorem dX3_init_21 : decode cX3_init 21 = .ok (.aload_n 0, 1) := by decide +kernel
theorem dX3_init_22 : decode cX3_init 22 = .ok (.iconst 3, 1) := by decide +kernel
theorem dX3_init_23 : decode cX3_init 23 = .ok (.newarray .int, 2) := by decide +kernel
theorem dX3_init_25 : decode cX3_init 25 = .ok (.dup, 1) := by decide +kernel
theorem dX3_init_26 : decode cX3_init 26 = .ok (.iconst 0, 1) := by decide +kernel
theorem dX3_init_27 : decode cX3_init 27 = .ok (.bipush 30, 2) := by decide +kernel
theorem dX3_init_29 : decode cX3_init 29 = .ok (.iastore, 1) := by decide +kernel
theorem dX3_init_30 : decode cX3_init 30 = .ok (.dup, 1) := by decide +kernel
theorem dX3_init_31 : decode cX3_init 31 = .ok (.iconst 1, 1) := by decide +kernel
theorem dX3_init_32 : decode cX3_init 32 = .ok (.bipush 20, 2) := by decide +kernel
theorem dX3_init_34 : decode cX3_init 34 = .ok (.iastore, 1) := by decide +kernel
theorem dX3_init_35 : decode cX3_init 35 = .ok (.dup, 1) := by decide +kernel
theorem dX3_init_36 : decode cX3_init 36 = .ok (.iconst 2, 1) := by decide +kernel
theorem dX3_init_37 : decode cX3_init 37 = .ok (.bipush 10, 2) := by decide +kernel
theorem dX3_init_39 : decode cX3_init 39 = .ok (.iastore, 1) := by decide +kernel
theorem dX3_init_40 : decode cX3_init 40 = .ok (.putfield 23, 3) := by decide +kernel
theorem dX3_init_43 : decode cX3_init 43 = .ok (.aload_n 0, 1) := by decide +kernel
theorem dX3_init_44 : decode cX3_init 44 = .ok (.iconst 4, 1) := by decide +kernel
theorem dX3_init_45 : decode cX3_init 45 = .ok (.newarray .int, 2) := by decide +kernel
theorem dX3_init_47 : decode cX3_init 47 = .ok (.dup, 1) := by decide +kernel
theorem dX3_init_48 : decode cX3_init 48 = .ok (.iconst 0, 1) := by decide +kernel
theorem dX3_init_49 : decode cX3_init 49 = .ok (.bipush 70, 2) := by decide +kernel
theorem dX3_init_51 : decode cX3_init 51 = .ok (.iastore, 1) := by decide +kernel
theorem dX3_init_52 : decode cX3_init 52 = .ok (.dup, 1) := by decide +kernel
theorem dX3_init_53 : decode cX3_init 53 = .ok (.iconst 1, 1) := by decide +kernel
theorem dX3_init_54 : decode cX3_init 54 = .ok (.bipush 90, 2) := by decide +kernel
theorem dX3_init_56 : decode cX3_init 56 = .ok (.iastore, 1) := by decide +kernel
theorem dX3_init_57 : decode cX3_init 57 = .ok (.dup, 1) := by decide +kernel
theorem dX3_init_58 : decode cX3_init 58 = .ok (.iconst 2, 1) := by decide +kernel
theorem dX3_init_59 : decode cX3_init 59 = .ok (.iconst 3, 1) := by decide +kernel
theorem dX3_init_60 : decode cX3_init 60 = .ok (.iastore, 1) := by decide +kernel
theorem dX3_init_61 : decode cX3_init 61 = .ok (.dup, 1) := by decide +kernel
theorem dX3_init_62 : decode cX3_init 62 = .ok (.iconst 3, 1) := by decide +kernel
theorem dX3_init_63 : decode cX3_init 63 = .ok (.iconst 4, 1) := by decide +kernel
theorem dX3_init_64 : decode cX3_init 64 = .ok (.iastore, 1) := by decide +kernel
theorem dX3_init_65 : decode cX3_init 65 = .ok (.putfield 27, 3) := by decide +kernel
theorem dX3_init_68 : decode cX3_init 68 = .ok (.aload_n 0, 1) := by decide +kernel
theorem dX3_init_69 : decode cX3_init 69 = .ok (.bipush 8, 2) := by decide +kernel
theorem dX3_init_71 : decode cX3_init 71 = .ok (.newarray .int, 2) := by decide +kernel
theorem dX3_init_73 : decode cX3_init 73 = .ok (.putfield 30, 3) := by decide +kernel
theorem dX3_init_76 : decode cX3_init 76 = .ok (.aload_n 0, 1) := by decide +kernel
theorem dX3_init_77 : decode cX3_init 77 = .ok (.iconst 3, 1) := by decide +kernel
theorem dX3_init_78 : decode cX3_init 78 = .ok (.newarray .int, 2) := by decide +kernel
theorem dX3_init_80 : decode cX3_init 80 = .ok (.putfield 33, 3) := by decide +kernel
theorem dX3_init_83 : decode cX3_init 83 = .ok (.iconst 0, 1) := by decide +kernel
theorem dX3_init_84 : decode cX3_init 84 = .ok (.istore_n 1, 1) := by decide +kernel
theorem dX3_init_85 : decode cX3_init 85 = .ok (.iload_n 1, 1) := by decide +kernel
theorem dX3_init_86 : decode cX3_init 86 = .ok (.iconst 5, 1) := by decide +kernel
theorem dX3_init_87 : decode cX3_init 87 = .ok (.if_icmp .ge 34, 3) := by decide +kernel
theorem dX3_init_90 : decode cX3_init 90 = .ok (.aload_n 0, 1) := by decide +kernel
theorem dX3_init_91 : decode cX3_init 91 = .ok (.getfield 11, 3) := by decide +kernel
theorem dX3_init_94 : decode cX3_init 94 = .ok (.iload_n 1, 1) := by decide +kernel
theorem dX3_init_95 : decode cX3_init 95 = .ok (.new 9, 3) := by decide +kernel
theorem dX3_init_98 : decode cX3_init 98 = .ok (.dup, 1) := by decide +kernel
theorem dX3_init_99 : decode cX3_init 99 = .ok (.invokespecial 36, 3) := by decide +kernel
theorem dX3_init_102 : decode cX3_init 102 = .ok (.aastore, 1) := by decide +kernel
theorem dX3_init_103 : decode cX3_init 103 = .ok (.aload_n 0, 1) := by decide +kernel
theorem dX3_init_104 : decode cX3_init 104 = .ok (.getfield 11, 3) := by decide +kernel
theorem dX3_init_107 : decode cX3_init 107 = .ok (.iload_n 1, 1) := by decide +kernel
theorem dX3_init_108 : decode cX3_init 108 = .ok (.aaload, 1) := by decide +kernel
theorem dX3_init_109 : decode cX3_init 109 = .ok (.iload_n 1, 1) := by decide +kernel
theorem dX3_init_110 : decode cX3_init 110 = .ok (.iconst 2, 1) := by decide +kernel
theorem dX3_init_111 : decode cX3_init 111 = .ok (.idiv, 1) := by decide +kernel
theorem dX3_init_112 : decode cX3_init 112 = .ok (.putfield 37, 3) := by decide +kernel
theorem dX3_init_115 : decode cX3_init 115 = .ok (.iinc 1 1, 3) := by decide +kernel
theorem dX3_init_118 : decode cX3_init 118 = .ok (.goto (-33), 3) := by decide +kernel
theorem dX3_init_121 : decode cX3_init 121 = .ok (.iconst 0, 1) := by decide +kernel
theorem dX3_init_122 : decode cX3_init 122 = .ok (.istore_n 1, 1) := by decide +kernel
theorem dX3_init_123 : decode cX3_init 123 = .ok (.iload_n 1, 1) := by decide +kernel
theorem dX3_init_124 : decode cX3_init 124 = .ok (.bipush 16, 2) := by decide +kernel
theorem dX3_init_126 : decode cX3_init 126 = .ok (.if_icmp .ge 22, 3) := by decide +kernel
theorem dX3_init_129 : decode cX3_init 129 = .ok (.aload_n 0, 1) := by decide +kernel
theorem dX3_init_130 : decode cX3_init 130 = .ok (.getfield 19, 3) := by decide +kernel
theorem dX3_init_133 : decode cX3_init 133 = .ok (.iload_n 1, 1) := by decide +kernel
theorem dX3_init_134 : decode cX3_init 134 = .ok (.new 17, 3) := by decide +kernel
theorem dX3_init_137 : decode cX3_init 137 = .ok (.dup, 1) := by decide +kernel
theorem dX3_init_138 : decode cX3_init 138 = .ok (.invokespecial 41, 3) := by decide +kernel
theorem dX3_init_141 : decode cX3_init 141 = .ok (.aastore, 1) := by decide +kernel
theorem dX3_init_142 : decode cX3_init 142 = .ok (.iinc 1 1, 3) := by decide +kernel
theorem dX3_init_145 : decode cX3_init 145 = .ok (.goto (-22), 3) := by decide +kernel
theorem dX3_init_148 : decode cX3_init 148 = .ok (.return_, 1) := by decide +kernel
theorem dX3_copyFrom_0 : decode cX3_copyFrom 0 = .ok (.iconst 0, 1) := by decide +kernel
theorem dX3_copyFrom_1 : decode cX3_copyFrom 1 = .ok (.istore_n 2, 1) := by decide +kernel
theorem dX3_copyFrom_2 : decode cX3_copyFrom 2 = .ok (.iload_n 2, 1) := by decide +kernel
theorem dX3_copyFrom_3 : decode cX3_copyFrom 3 = .ok (.iconst 5, 1) := by decide +kernel
theorem dX3_copyFrom_4 : decode cX3_copyFrom 4 = .ok (.if_icmp .ge 24, 3) := by decide +kernel
theorem dX3_copyFrom_7 : decode cX3_copyFrom 7 = .ok (.aload_n 0, 1) := by decide +kernel
theorem dX3_copyFrom_8 : decode cX3_copyFrom 8 = .ok (.getfield 11, 3) := by decide +kernel
theorem dX3_copyFrom_11 : decode cX3_copyFrom 11 = .ok (.iload_n 2, 1) := by decide +kernel
theorem dX3_copyFrom_12 : decode cX3_copyFrom 12 = .ok (.aaload, 1) := by decide +kernel
theorem dX3_copyFrom_13 : decode cX3_copyFrom 13 = .ok (.aload_n 1, 1) := by decide +kernel
theorem dX3_copyFrom_14 : decode cX3_copyFrom 14 = .ok (.getfield 11, 3) := by decide +kernel
theorem dX3_copyFrom_17 : decode cX3_copyFrom 17 = .ok (.iload_n 2, 1) := by decide +kernel
theorem dX3_copyFrom_18 : decode cX3_copyFrom 18 = .ok (.aaload, 1) := by decide +kernel
theorem dX3_copyFrom_19 : decode cX3_copyFrom 19 = .ok (.invokevirtual 42, 3) := by decide +kernel
theorem dX3_copyFrom_22 : decode cX3_copyFrom 22 = .ok (.iinc 2 1, 3) := by decide +kernel
theorem dX3_copyFrom_25 : decode cX3_copyFrom 25 = .ok (.goto (-23), 3) := by decide +kernel
theorem dX3_copyFrom_28 : decode cX3_copyFrom 28 = .ok (.iconst 0, 1) := by decide +kernel
theorem dX3_copyFrom_29 : decode cX3_copyFrom 29 = .ok (.istore_n 2, 1) := by decide +kernel
theorem dX3_copyFrom_30 : decode cX3_copyFrom 30 = .ok (.iload_n 2, 1) := by decide +kernel
theorem dX3_copyFrom_31 : decode cX3_copyFrom 31 = .ok (.bipush 16, 2) := by decide +kernel
theorem dX3_copyFrom_33 : decode cX3_copyFrom 33 = .ok (.if_icmp .ge 24, 3) := by decide +kernel
theorem dX3_copyFrom_36 : decode cX3_copyFrom 36 = .ok (.aload_n 0, 1) := by decide +kernel
theorem dX3_copyFrom_37 : decode cX3_copyFrom 37 = .ok (.getfield 19, 3) := by decide +kernel
theorem dX3_copyFrom_40 : decode cX3_copyFrom 40 = .ok (.iload_n 2, 1) := by decide +kernel
theorem dX3_copyFrom_41 : decode cX3_copyFrom 41 = .ok (.aaload, 1) := by decide +kernel
theorem dX3_copyFrom_42 : decode cX3_copyFrom 42 = .ok (.aload_n 1, 1) := by decide +kernel
theorem dX3_copyFrom_43 : decode cX3_copyFrom 43 = .ok (.getfield 19, 3) := by decide +kernel
theorem dX3_copyFrom_46 : decode cX3_copyFrom 46 = .ok (.iload_n 2, 1) := by decide +kernel
theorem dX3_copyFrom_47 : decode cX3_copyFrom 47 = .ok (.aaload, 1) := by decide +kernel
theorem dX3_copyFrom_48 : decode cX3_copyFrom 48 = .ok (.invokevirtual 46, 3) := by decide +kernel
theorem dX3_copyFrom_51 : decode cX3_copyFrom 51 = .ok (.iinc 2 1, 3) := by decide +kernel
theorem dX3_copyFrom_54 : decode cX3_copyFrom 54 = .ok (.goto (-24), 3) := by decide +kernel
theorem dX3_copyFrom_57 : decode cX3_copyFrom 57 = .ok (.aload_n 1, 1) := by decide +kernel
theorem dX3_copyFrom_58 : decode cX3_copyFrom 58 = .ok (.getfield 23, 3) := by decide +kernel
theorem dX3_copyFrom_61 : decode cX3_copyFrom 61 = .ok (.iconst 0, 1) := by decide +kernel
theorem dX3_copyFrom_62 : decode cX3_copyFrom 62 = .ok (.aload_n 0, 1) := by decide +kernel
theorem dX3_copyFrom_63 : decode cX3_copyFrom 63 = .ok (.getfield 23, 3) := by decide +kernel
theorem dX3_copyFrom_66 : decode cX3_copyFrom 66 = .ok (.iconst 0, 1) := by decide +kernel
theorem dX3_copyFrom_67 : decode cX3_copyFrom 67 = .ok (.iconst 3, 1) := by decide +kernel
theorem dX3_copyFrom_68 : decode cX3_copyFrom 68 = .ok (.invokestatic 49, 3) := by decide +kernel
theorem dX3_copyFrom_71 : decode cX3_copyFrom 71 = .ok (.aload_n 1, 1) := by decide +kernel
theorem dX3_copyFrom_72 : decode cX3_copyFrom 72 = .ok (.getfield 27, 3) := by decide +kernel
theorem dX3_copyFrom_75 : decode cX3_copyFrom 75 = .ok (.iconst 0, 1) := by decide +kernel
theorem dX3_copyFrom_76 : decode cX3_copyFrom 76 = .ok (.aload_n 0, 1) := by decide +kernel
theorem dX3_copyFrom_77 : decode cX3_copyFrom 77 = .ok (.getfield 27, 3) := by decide +kernel
theorem dX3_copyFrom_80 : decode cX3_copyFrom 80 = .ok (.iconst 0, 1) := by decide +kernel
theorem dX3_copyFrom_81 : decode cX3_copyFrom 81 = .ok (.iconst 4, 1) := by decide +kernel
theorem dX3_copyFrom_82 : decode cX3_copyFrom 82 = .ok (.invokestatic 49, 3) := by decide +kernel
theorem dX3_copyFrom_85 : decode cX3_copyFrom 85 = .ok (.aload_n 1, 1) := by decide +kernel
theorem dX3_copyFrom_86 : decode cX3_copyFrom 86 = .ok (.getfield 30, 3) := by decide +kernel
theorem dX3_copyFrom_89 : decode cX3_copyFrom 89 = .ok (.iconst 0, 1) := by decide +kernel
theorem dX3_copyFrom_90 : decode cX3_copyFrom 90 = .ok (.aload_n 0, 1) := by decide +kernel
theorem dX3_copyFrom_91 : decode cX3_copyFrom 91 = .ok (.getfield 30, 3) := by decide +kernel
theorem dX3_copyFrom_94 : decode cX3_copyFrom 94 = .ok (.iconst 0, 1) := by decide +kernel
theorem dX3_copyFrom_95 : decode cX3_copyFrom 95 = .ok (.bipush 8, 2) := by decide +kernel
theorem dX3_copyFrom_97 : decode cX3_copyFrom 97 = .ok (.invokestatic 49, 3) := by decide +kernel
theorem dX3_copyFrom_100 : decode cX3_copyFrom 100 = .ok (.aload_n 1, 1) := by decide +kernel
theorem dX3_copyFrom_101 : decode cX3_copyFrom 101 = .ok (.getfield 33, 3) := by decide +kernel
theorem dX3_copyFrom_104 : decode cX3_copyFrom 104 = .ok (.iconst 0, 1) := by decide +kernel
theorem dX3_copyFrom_105 : decode cX3_copyFrom 105 = .ok (.aload_n 0, 1) := by decide +kernel
theorem dX3_copyFrom_106 : decode cX3_copyFrom 106 = .ok (.getfield 33, 3) := by decide +kernel
theorem dX3_copyFrom_109 : decode cX3_copyFrom 109 = .ok (.iconst 0, 1) := by decide +kernel
theorem dX3_copyFrom_110 : decode cX3_copyFrom 110 = .ok (.iconst 3, 1) := by decide +kernel
theorem dX3_copyFrom_111 : decode cX3_copyFrom 111 = .ok (.invokestatic 49, 3) := by decide +kernel
theorem dX3_copyFrom_114 : decode cX3_copyFrom 114 = .ok (.aload_n 0, 1) := by decide +kernel
theorem dX3_copyFrom_115 : decode cX3_copyFrom 115 = .ok (.aload_n 1, 1) := by decide +kernel
theorem dX3_copyFrom_116 : decode cX3_copyFrom 116 = .ok (.getfield 55, 3) := by decide +kernel
theorem dX3_copyFrom_119 : decode cX3_copyFrom 119 = .ok (.putfield 55, 3) := by decide +kernel
theorem dX3_copyFrom_122 : decode cX3_copyFrom 122 = .ok (.aload_n 0, 1) := by decide +kernel
theorem dX3_copyFrom_123 : decode cX3_copyFrom 123 = .ok (.aload_n 1, 1) := by decide +kernel
theorem dX3_copyFrom_124 : decode cX3_copyFrom 124 = .ok (.getfield 58, 3) := by decide +kernel
theorem dX3_copyFrom_127 : decode cX3_copyFrom 127 = .ok (.putfield 58, 3) := by decide +kernel
theorem dX3_copyFrom_130 : decode cX3_copyFrom 130 = .ok (.aload_n 0, 1) := by decide +kernel
theorem dX3_copyFrom_131 : decode cX3_copyFrom 131 = .ok (.aload_n 1, 1) := by decide +kernel
theorem dX3_copyFrom_132 : decode cX3_copyFrom 132 = .ok (.getfield 61, 3) := by decide +kernel
theorem dX3_copyFrom_135 : decode cX3_copyFrom 135 = .ok (.putfield 61, 3) := by decide +kernel
theorem dX3_copyFrom_138 : decode cX3_copyFrom 138 = .ok (.aload_n 0, 1) := by decide +kernel
theorem dX3_copyFrom_139 : decode cX3_copyFrom 139 = .ok (.aload_n 1, 1) := by decide +kernel
theorem dX3_copyFrom_140 : decode cX3_copyFrom 140 = .ok (.getfield 64, 3) := by decide +kernel
theorem dX3_copyFrom_143 : decode cX3_copyFrom 143 = .ok (.putfield 64, 3) := by decide +kernel
theorem dX3_copyFrom_146 : decode cX3_copyFrom 146 = .ok (.aload_n 0, 1) := by decide +kernel
theorem dX3_copyFrom_147 : decode cX3_copyFrom 147 = .ok (.aload_n 1, 1) := by decide +kernel
theorem dX3_copyFrom_148 : decode cX3_copyFrom 148 = .ok (.getfield 67, 3) := by decide +kernel
theorem dX3_copyFrom_151 : decode cX3_copyFrom 151 = .ok (.putfield 67, 3) := by decide +kernel
theorem dX3_copyFrom_154 : decode cX3_copyFrom 154 = .ok (.return_, 1) := by decide +kernel
theorem dX3_storeGrain_0 : decode cX3_storeGrain 0 = .ok (.iload_n 1, 1) := by decide +kernel
theorem dX3_storeGrain_1 : decode cX3_storeGrain 1 = .ok (.ifCond .lt 27, 3) := by decide +kernel
theorem dX3_storeGrain_4 : decode cX3_storeGrain 4 = .ok (.iload_n 1, 1) := by decide +kernel
theorem dX3_storeGrain_5 : decode cX3_storeGrain 5 = .ok (.iconst 5, 1) := by decide +kernel
theorem dX3_storeGrain_6 : decode cX3_storeGrain 6 = .ok (.if_icmp .ge 22, 3) := by decide +kernel
theorem dX3_storeGrain_9 : decode cX3_storeGrain 9 = .ok (.iload_n 2, 1) := by decide +kernel
theorem dX3_storeGrain_10 : decode cX3_storeGrain 10 = .ok (.invokestatic 70, 3) := by decide +kernel
theorem dX3_storeGrain_13 : decode cX3_storeGrain 13 = .ok (.ifCond .eq 15, 3) := by decide +kernel
theorem dX3_storeGrain_16 : decode cX3_storeGrain 16 = .ok (.iload_n 3, 1) := by decide +kernel
theorem dX3_storeGrain_17 : decode cX3_storeGrain 17 = .ok (.iconst 1, 1) := by decide +kernel
theorem dX3_storeGrain_18 : decode cX3_storeGrain 18 = .ok (.if_icmp .lt 10, 3) := by decide +kernel
theorem dX3_storeGrain_21 : decode cX3_storeGrain 21 = .ok (.iload_n 3, 1) := by decide +kernel
theorem dX3_storeGrain_22 : decode cX3_storeGrain 22 = .ok (.sipush 4000, 3) := by decide +kernel
theorem dX3_storeGrain_25 : decode cX3_storeGrain 25 = .ok (.if_icmp .le 6, 3) := by decide +kernel
theorem dX3_storeGrain_28 : decode cX3_storeGrain 28 = .ok (.ldc 74, 2) := by decide +kernel
theorem dX3_storeGrain_30 : decode cX3_storeGrain 30 = .ok (.ireturn, 1) := by decide +kernel
theorem dX3_storeGrain_31 : decode cX3_storeGrain 31 = .ok (.aload_n 0, 1) := by decide +kernel
theorem dX3_storeGrain_32 : decode cX3_storeGrain 32 = .ok (.invokevirtual 75, 3) := by decide +kernel
theorem dX3_storeGrain_35 : decode cX3_storeGrain 35 = .ok (.astore 4, 2) := by decide +kernel
theorem dX3_storeGrain_37 : decode cX3_storeGrain 37 = .ok (.aload 4, 2) := by decide +kernel
theorem dX3_storeGrain_39 : decode cX3_storeGrain 39 = .ok (.ifnull 12, 3) := by decide +kernel
theorem dX3_storeGrain_42 : decode cX3_storeGrain 42 = .ok (.iload_n 3, 1) := by decide +kernel
theorem dX3_storeGrain_43 : decode cX3_storeGrain 43 = .ok (.aload_n 0, 1) := by decide +kernel
theorem dX3_storeGrain_44 : decode cX3_storeGrain 44 = .ok (.iload_n 2, 1) := by decide +kernel
theorem dX3_storeGrain_45 : decode cX3_storeGrain 45 = .ok (.invokevirtual 79, 3) := by decide +kernel
theorem dX3_storeGrain_48 : decode cX3_storeGrain 48 = .ok (.if_icmp .le 6, 3) := by decide +kernel
theorem dX3_storeGrain_51 : decode cX3_storeGrain 51 = .ok (.ldc 83, 2) := by decide +kernel
theorem dX3_storeGrain_53 : decode cX3_storeGrain 53 = .ok (.ireturn, 1) := by decide +kernel
theorem dX3_storeGrain_54 : decode cX3_storeGrain 54 = .ok (.aload_n 0, 1) := by decide +kernel
theorem dX3_storeGrain_55 : decode cX3_storeGrain 55 = .ok (.iload_n 2, 1) := by decide +kernel
theorem dX3_storeGrain_56 : decode cX3_storeGrain 56 = .ok (.iload_n 3, 1) := by decide +kernel
theorem dX3_storeGrain_57 : decode cX3_storeGrain 57 = .ok (.invokevirtual 84, 3) := by decide +kernel
theorem dX3_storeGrain_60 : decode cX3_storeGrain 60 = .ok (.iload_n 3, 1) := by decide +kernel
theorem dX3_storeGrain_61 : decode cX3_storeGrain 61 = .ok (.aload_n 0, 1) := by decide +kernel
theorem dX3_storeGrain_62 : decode cX3_storeGrain 62 = .ok (.getfield 27, 3) := by decide +kernel
theorem dX3_storeGrain_65 : decode cX3_storeGrain 65 = .ok (.iconst 3, 1) := by decide +kernel
theorem dX3_storeGrain_66 : decode cX3_storeGrain 66 = .ok (.iaload, 1) := by decide +kernel
theorem dX3_storeGrain_67 : decode cX3_storeGrain 67 = .ok (.imul, 1) := by decide +kernel
theorem dX3_storeGrain_68 : decode cX3_storeGrain 68 = .ok (.bipush 100, 2) := by decide +kernel
theorem dX3_storeGrain_70 : decode cX3_storeGrain 70 = .ok (.idiv, 1) := by decide +kernel
theorem dX3_storeGrain_71 : decode cX3_storeGrain 71 = .ok (.istore 5, 2) := by decide +kernel
theorem dX3_storeGrain_73 : decode cX3_storeGrain 73 = .ok (.aload 4, 2) := by decide +kernel
theorem dX3_storeGrain_75 : decode cX3_storeGrain 75 = .ok (.aload_n 0, 1) := by decide +kernel
theorem dX3_storeGrain_76 : decode cX3_storeGrain 76 = .ok (.invokevirtual 88, 3) := by decide +kernel
theorem dX3_storeGrain_79 : decode cX3_storeGrain 79 = .ok (.iload_n 1, 1) := by decide +kernel
theorem dX3_storeGrain_80 : decode cX3_storeGrain 80 = .ok (.iload_n 2, 1) := by decide +kernel
theorem dX3_storeGrain_81 : decode cX3_storeGrain 81 = .ok (.iload_n 3, 1) := by decide +kernel
theorem dX3_storeGrain_82 : decode cX3_storeGrain 82 = .ok (.iload 5, 2) := by decide +kernel
theorem dX3_storeGrain_84 : decode cX3_storeGrain 84 = .ok (.isub, 1) := by decide +kernel
theorem dX3_storeGrain_85 : decode cX3_storeGrain 85 = .ok (.invokevirtual 92, 3) := by decide +kernel
theorem dX3_storeGrain_88 : decode cX3_storeGrain 88 = .ok (.aload 4, 2) := by decide +kernel
theorem dX3_storeGrain_90 : decode cX3_storeGrain 90 = .ok (.getfield 96, 3) := by decide +kernel
theorem dX3_storeGrain_93 : decode cX3_storeGrain 93 = .ok (.ireturn, 1) := by decide +kernel
theorem dX3_splitOff_0 : decode cX3_splitOff 0 = .ok (.aload_n 0, 1) := by decide +kernel
theorem dX3_splitOff_1 : decode cX3_splitOff 1 = .ok (.iload_n 1, 1) := by decide +kernel
theorem dX3_splitOff_2 : decode cX3_splitOff 2 = .ok (.invokevirtual 99, 3) := by decide +kernel
theorem dX3_splitOff_5 : decode cX3_splitOff 5 = .ok (.astore_n 3, 1) := by decide +kernel
theorem dX3_splitOff_6 : decode cX3_splitOff 6 = .ok (.aload_n 3, 1) := by decide +kernel
theorem dX3_splitOff_7 : decode cX3_splitOff 7 = .ok (.ifnull 8, 3) := by decide +kernel
theorem dX3_splitOff_10 : decode cX3_splitOff 10 = .ok (.iload_n 2, 1) := by decide +kernel
theorem dX3_splitOff_11 : decode cX3_splitOff 11 = .ok (.iconst 1, 1) := by decide +kernel
theorem dX3_splitOff_12 : decode cX3_splitOff 12 = .ok (.if_icmp .ge 6, 3) := by decide +kernel
theorem dX3_splitOff_15 : decode cX3_splitOff 15 = .ok (.ldc 74, 2) := by decide +kernel
theorem dX3_splitOff_17 : decode cX3_splitOff 17 = .ok (.ireturn, 1) := by decide +kernel
theorem dX3_splitOff_18 : decode cX3_splitOff 18 = .ok (.iload_n 2, 1) := by decide +kernel
theorem dX3_splitOff_19 : decode cX3_splitOff 19 = .ok (.aload_n 3, 1) := by decide +kernel
theorem dX3_splitOff_20 : decode cX3_splitOff 20 = .ok (.getfield 103, 3) := by decide +kernel
theorem dX3_splitOff_23 : decode cX3_splitOff 23 = .ok (.if_icmp .lt 6, 3) := by decide +kernel
theorem dX3_splitOff_26 : decode cX3_splitOff 26 = .ok (.ldc 106, 2) := by decide +kernel
theorem dX3_splitOff_28 : decode cX3_splitOff 28 = .ok (.ireturn, 1) := by decide +kernel
theorem dX3_splitOff_29 : decode cX3_splitOff 29 = .ok (.aload_n 0, 1) := by decide +kernel
theorem dX3_splitOff_30 : decode cX3_splitOff 30 = .ok (.invokevirtual 75, 3) := by decide +kernel
theorem dX3_splitOff_33 : decode cX3_splitOff 33 = .ok (.astore 4, 2) := by decide +kernel
theorem dX3_splitOff_35 : decode cX3_splitOff 35 = .ok (.aload 4, 2) := by decide +kernel
theorem dX3_splitOff_37 : decode cX3_splitOff 37 = .ok (.ifnonnull 6, 3) := by decide +kernel
theorem dX3_splitOff_40 : decode cX3_splitOff 40 = .ok (.ldc 83, 2) := by decide +kernel
theorem dX3_splitOff_42 : decode cX3_splitOff 42 = .ok (.ireturn, 1) := by decide +kernel
theorem dX3_splitOff_43 : decode cX3_splitOff 43 = .ok (.aload 4, 2) := by decide +kernel
theorem dX3_splitOff_45 : decode cX3_splitOff 45 = .ok (.aload_n 0, 1) := by decide +kernel
theorem dX3_splitOff_46 : decode cX3_splitOff 46 = .ok (.invokevirtual 88, 3) := by decide +kernel
theorem dX3_splitOff_49 : decode cX3_splitOff 49 = .ok (.aload_n 3, 1) := by decide +kernel
theorem dX3_splitOff_50 : decode cX3_splitOff 50 = .ok (.getfield 107, 3) := by decide +kernel
theorem dX3_splitOff_53 : decode cX3_splitOff 53 = .ok (.aload_n 3, 1) := by decide +kernel
theorem dX3_splitOff_54 : decode cX3_splitOff 54 = .ok (.getfield 110, 3) := by decide +kernel
theorem dX3_splitOff_57 : decode cX3_splitOff 57 = .ok (.iload_n 2, 1) := by decide +kernel
theorem dX3_splitOff_58 : decode cX3_splitOff 58 = .ok (.invokevirtual 92, 3) := by decide +kernel
theorem dX3_splitOff_61 : decode cX3_splitOff 61 = .ok (.aload_n 0, 1) := by decide +kernel
theorem dX3_splitOff_62 : decode cX3_splitOff 62 = .ok (.aload_n 3, 1) := by decide +kernel
theorem dX3_splitOff_63 : decode cX3_splitOff 63 = .ok (.aload 4, 2) := by decide +kernel
theorem dX3_splitOff_65 : decode cX3_splitOff 65 = .ok (.invokevirtual 111, 3) := by decide +kernel
theorem dX3_splitOff_68 : decode cX3_splitOff 68 = .ok (.aload_n 3, 1) := by decide +kernel
theorem dX3_splitOff_69 : decode cX3_splitOff 69 = .ok (.dup, 1) := by decide +kernel
theorem dX3_splitOff_70 : decode cX3_splitOff 70 = .ok (.getfield 103, 3) := by decide +kernel
theorem dX3_splitOff_73 : decode cX3_splitOff 73 = .ok (.iload_n 2, 1) := by decide +kernel
theorem dX3_splitOff_74 : decode cX3_splitOff 74 = .ok (.isub, 1) := by decide +kernel
theorem dX3_splitOff_75 : decode cX3_splitOff 75 = .ok (.putfield 103, 3) := by decide +kernel
theorem dX3_splitOff_78 : decode cX3_splitOff 78 = .ok (.aload 4, 2) := by decide +kernel
theorem dX3_splitOff_80 : decode cX3_splitOff 80 = .ok (.getfield 96, 3) := by decide +kernel
theorem dX3_splitOff_83 : decode cX3_splitOff 83 = .ok (.ireturn, 1) := by decide +kernel
theorem dX3_joinInto_0 : decode cX3_joinInto 0 = .ok (.aload_n 0, 1) := by decide +kernel
theorem dX3_joinInto_1 : decode cX3_joinInto 1 = .ok (.iload_n 1, 1) := by decide +kernel
theorem dX3_joinInto_2 : decode cX3_joinInto 2 = .ok (.invokevirtual 99, 3) := by decide +kernel
theorem dX3_joinInto_5 : decode cX3_joinInto 5 = .ok (.astore_n 3, 1) := by decide +kernel
theorem dX3_joinInto_6 : decode cX3_joinInto 6 = .ok (.aload_n 0, 1) := by decide +kernel
theorem dX3_joinInto_7 : decode cX3_joinInto 7 = .ok (.iload_n 2, 1) := by decide +kernel
theorem dX3_joinInto_8 : decode cX3_joinInto 8 = .ok (.invokevirtual 99, 3) := by decide +kernel
theorem dX3_joinInto_11 : decode cX3_joinInto 11 = .ok (.astore 4, 2) := by decide +kernel
theorem dX3_joinInto_13 : decode cX3_joinInto 13 = .ok (.aload_n 3, 1) := by decide +kernel
theorem dX3_joinInto_14 : decode cX3_joinInto 14 = .ok (.ifnull 13, 3) := by decide +kernel
theorem dX3_joinInto_17 : decode cX3_joinInto 17 = .ok (.aload 4, 2) := by decide +kernel
theorem dX3_joinInto_19 : decode cX3_joinInto 19 = .ok (.ifnull 8, 3) := by decide +kernel
theorem dX3_joinInto_22 : decode cX3_joinInto 22 = .ok (.iload_n 1, 1) := by decide +kernel
theorem dX3_joinInto_23 : decode cX3_joinInto 23 = .ok (.iload_n 2, 1) := by decide +kernel
theorem dX3_joinInto_24 : decode cX3_joinInto 24 = .ok (.if_icmp .ne 6, 3) := by decide +kernel
theorem dX3_joinInto_27 : decode cX3_joinInto 27 = .ok (.ldc 74, 2) := by decide +kernel
theorem dX3_joinInto_29 : decode cX3_joinInto 29 = .ok (.ireturn, 1) := by decide +kernel
theorem dX3_joinInto_30 : decode cX3_joinInto 30 = .ok (.aload_n 3, 1) := by decide +kernel
theorem dX3_joinInto_31 : decode cX3_joinInto 31 = .ok (.getfield 107, 3) := by decide +kernel
theorem dX3_joinInto_34 : decode cX3_joinInto 34 = .ok (.aload 4, 2) := by decide +kernel
theorem dX3_joinInto_36 : decode cX3_joinInto 36 = .ok (.getfield 107, 3) := by decide +kernel
theorem dX3_joinInto_39 : decode cX3_joinInto 39 = .ok (.if_icmp .ne 30, 3) := by decide +kernel
theorem dX3_joinInto_42 : decode cX3_joinInto 42 = .ok (.aload_n 3, 1) := by decide +kernel
theorem dX3_joinInto_43 : decode cX3_joinInto 43 = .ok (.getfield 110, 3) := by decide +kernel
theorem dX3_joinInto_46 : decode cX3_joinInto 46 = .ok (.aload 4, 2) := by decide +kernel
theorem dX3_joinInto_48 : decode cX3_joinInto 48 = .ok (.getfield 110, 3) := by decide +kernel
theorem dX3_joinInto_51 : decode cX3_joinInto 51 = .ok (.if_icmp .ne 18, 3) := by decide +kernel
theorem dX3_joinInto_54 : decode cX3_joinInto 54 = .ok (.aload_n 3, 1) := by decide +kernel
theorem dX3_joinInto_55 : decode cX3_joinInto 55 = .ok (.invokevirtual 115, 3) := by decide +kernel
theorem dX3_joinInto_58 : decode cX3_joinInto 58 = .ok (.ifCond .ne 11, 3) := by decide +kernel
theorem dX3_joinInto_61 : decode cX3_joinInto 61 = .ok (.aload 4, 2) := by decide +kernel
theorem dX3_joinInto_63 : decode cX3_joinInto 63 = .ok (.invokevirtual 115, 3) := by decide +kernel
theorem dX3_joinInto_66 : decode cX3_joinInto 66 = .ok (.ifCond .eq 6, 3) := by decide +kernel
theorem dX3_joinInto_69 : decode cX3_joinInto 69 = .ok (.ldc 106, 2) := by decide +kernel
theorem dX3_joinInto_71 : decode cX3_joinInto 71 = .ok (.ireturn, 1) := by decide +kernel
theorem dX3_joinInto_72 : decode cX3_joinInto 72 = .ok (.aload 4, 2) := by decide +kernel
theorem dX3_joinInto_74 : decode cX3_joinInto 74 = .ok (.dup, 1) := by decide +kernel
theorem dX3_joinInto_75 : decode cX3_joinInto 75 = .ok (.getfield 103, 3) := by decide +kernel
theorem dX3_joinInto_78 : decode cX3_joinInto 78 = .ok (.aload_n 3, 1) := by decide +kernel
theorem dX3_joinInto_79 : decode cX3_joinInto 79 = .ok (.getfield 103, 3) := by decide +kernel
theorem dX3_joinInto_82 : decode cX3_joinInto 82 = .ok (.iadd, 1) := by decide +kernel
theorem dX3_joinInto_83 : decode cX3_joinInto 83 = .ok (.putfield 103, 3) := by decide +kernel
theorem dX3_joinInto_86 : decode cX3_joinInto 86 = .ok (.aload_n 3, 1) := by decide +kernel
theorem dX3_joinInto_87 : decode cX3_joinInto 87 = .ok (.invokevirtual 119, 3) := by decide +kernel
theorem dX3_joinInto_90 : decode cX3_joinInto 90 = .ok (.aload 4, 2) := by decide +kernel
theorem dX3_joinInto_92 : decode cX3_joinInto 92 = .ok (.getfield 103, 3) := by decide +kernel
theorem dX3_joinInto_95 : decode cX3_joinInto 95 = .ok (.ireturn, 1) := by decide +kernel
theorem dX3_handOn_0 : decode cX3_handOn 0 = .ok (.aload_n 0, 1) := by decide +kernel
theorem dX3_handOn_1 : decode cX3_handOn 1 = .ok (.iload_n 1, 1) := by decide +kernel
theorem dX3_handOn_2 : decode cX3_handOn 2 = .ok (.invokevirtual 99, 3) := by decide +kernel
theorem dX3_handOn_5 : decode cX3_handOn 5 = .ok (.astore_n 3, 1) := by decide +kernel
theorem dX3_handOn_6 : decode cX3_handOn 6 = .ok (.aload_n 3, 1) := by decide +kernel
theorem dX3_handOn_7 : decode cX3_handOn 7 = .ok (.ifnull 10, 3) := by decide +kernel
theorem dX3_handOn_10 : decode cX3_handOn 10 = .ok (.iload_n 2, 1) := by decide +kernel
theorem dX3_handOn_11 : decode cX3_handOn 11 = .ok (.invokestatic 122, 3) := by decide +kernel
theorem dX3_handOn_14 : decode cX3_handOn 14 = .ok (.ifCond .ne 6, 3) := by decide +kernel
theorem dX3_handOn_17 : decode cX3_handOn 17 = .ok (.ldc 74, 2) := by decide +kernel
theorem dX3_handOn_19 : decode cX3_handOn 19 = .ok (.ireturn, 1) := by decide +kernel
theorem dX3_handOn_20 : decode cX3_handOn 20 = .ok (.aload_n 3, 1) := by decide +kernel
theorem dX3_handOn_21 : decode cX3_handOn 21 = .ok (.getfield 107, 3) := by decide +kernel
theorem dX3_handOn_24 : decode cX3_handOn 24 = .ok (.iload_n 2, 1) := by decide +kernel
theorem dX3_handOn_25 : decode cX3_handOn 25 = .ok (.if_icmp .eq 10, 3) := by decide +kernel
theorem dX3_handOn_28 : decode cX3_handOn 28 = .ok (.aload_n 3, 1) := by decide +kernel
theorem dX3_handOn_29 : decode cX3_handOn 29 = .ok (.invokevirtual 115, 3) := by decide +kernel
theorem dX3_handOn_32 : decode cX3_handOn 32 = .ok (.ifCond .eq 6, 3) := by decide +kernel
theorem dX3_handOn_35 : decode cX3_handOn 35 = .ok (.ldc 106, 2) := by decide +kernel
theorem dX3_handOn_37 : decode cX3_handOn 37 = .ok (.ireturn, 1) := by decide +kernel
theorem dX3_handOn_38 : decode cX3_handOn 38 = .ok (.aload_n 3, 1) := by decide +kernel
theorem dX3_handOn_39 : decode cX3_handOn 39 = .ok (.getfield 107, 3) := by decide +kernel
theorem dX3_handOn_42 : decode cX3_handOn 42 = .ok (.istore 4, 2) := by decide +kernel
theorem dX3_handOn_44 : decode cX3_handOn 44 = .ok (.aload_n 3, 1) := by decide +kernel
theorem dX3_handOn_45 : decode cX3_handOn 45 = .ok (.iload_n 2, 1) := by decide +kernel
theorem dX3_handOn_46 : decode cX3_handOn 46 = .ok (.putfield 107, 3) := by decide +kernel
theorem dX3_handOn_49 : decode cX3_handOn 49 = .ok (.iload 4, 2) := by decide +kernel
theorem dX3_handOn_51 : decode cX3_handOn 51 = .ok (.ireturn, 1) := by decide +kernel
theorem dX3_deliverGrain_0 : decode cX3_deliverGrain 0 = .ok (.aload_n 0, 1) := by decide +kernel
theorem dX3_deliverGrain_1 : decode cX3_deliverGrain 1 = .ok (.iload_n 1, 1) := by decide +kernel
theorem dX3_deliverGrain_2 : decode cX3_deliverGrain 2 = .ok (.invokevirtual 99, 3) := by decide +kernel
theorem dX3_deliverGrain_5 : decode cX3_deliverGrain 5 = .ok (.astore_n 2, 1) := by decide +kernel
theorem dX3_deliverGrain_6 : decode cX3_deliverGrain 6 = .ok (.aload_n 2, 1) := by decide +kernel
theorem dX3_deliverGrain_7 : decode cX3_deliverGrain 7 = .ok (.ifnonnull 6, 3) := by decide +kernel
theorem dX3_deliverGrain_10 : decode cX3_deliverGrain 10 = .ok (.ldc 74, 2) := by decide +kernel
theorem dX3_deliverGrain_12 : decode cX3_deliverGrain 12 = .ok (.ireturn, 1) := by decide +kernel
theorem dX3_deliverGrain_13 : decode cX3_deliverGrain 13 = .ok (.aload_n 2, 1) := by decide +kernel
theorem dX3_deliverGrain_14 : decode cX3_deliverGrain 14 = .ok (.invokevirtual 115, 3) := by decide +kernel
theorem dX3_deliverGrain_17 : decode cX3_deliverGrain 17 = .ok (.ifCond .eq 6, 3) := by decide +kernel
theorem dX3_deliverGrain_20 : decode cX3_deliverGrain 20 = .ok (.ldc 106, 2) := by decide +kernel
theorem dX3_deliverGrain_22 : decode cX3_deliverGrain 22 = .ok (.ireturn, 1) := by decide +kernel
theorem dX3_deliverGrain_23 : decode cX3_deliverGrain 23 = .ok (.aload_n 0, 1) := by decide +kernel
theorem dX3_deliverGrain_24 : decode cX3_deliverGrain 24 = .ok (.aload_n 2, 1) := by decide +kernel
theorem dX3_deliverGrain_25 : decode cX3_deliverGrain 25 = .ok (.getfield 110, 3) := by decide +kernel
theorem dX3_deliverGrain_28 : decode cX3_deliverGrain 28 = .ok (.aload_n 2, 1) := by decide +kernel
theorem dX3_deliverGrain_29 : decode cX3_deliverGrain 29 = .ok (.getfield 103, 3) := by decide +kernel
theorem dX3_deliverGrain_32 : decode cX3_deliverGrain 32 = .ok (.invokevirtual 125, 3) := by decide +kernel
theorem dX3_deliverGrain_35 : decode cX3_deliverGrain 35 = .ok (.istore_n 3, 1) := by decide +kernel
theorem dX3_deliverGrain_36 : decode cX3_deliverGrain 36 = .ok (.iload_n 3, 1) := by decide +kernel
theorem dX3_deliverGrain_37 : decode cX3_deliverGrain 37 = .ok (.istore 4, 2) := by decide +kernel
theorem dX3_deliverGrain_39 : decode cX3_deliverGrain 39 = .ok (.aload_n 2, 1) := by decide +kernel
theorem dX3_deliverGrain_40 : decode cX3_deliverGrain 40 = .ok (.getfield 110, 3) := by decide +kernel
theorem dX3_deliverGrain_43 : decode cX3_deliverGrain 43 = .ok (.iconst 1, 1) := by decide +kernel
theorem dX3_deliverGrain_44 : decode cX3_deliverGrain 44 = .ok (.isub, 1) := by decide +kernel
theorem dX3_deliverGrain_45 : decode cX3_deliverGrain 45 = .ok (.istore 5, 2) := by decide +kernel
theorem dX3_deliverGrain_47 : decode cX3_deliverGrain 47 = .ok (.iload 5, 2) := by decide +kernel
theorem dX3_deliverGrain_49 : decode cX3_deliverGrain 49 = .ok (.ifCond .lt 19, 3) := by decide +kernel
theorem dX3_deliverGrain_52 : decode cX3_deliverGrain 52 = .ok (.aload_n 0, 1) := by decide +kernel
theorem dX3_deliverGrain_53 : decode cX3_deliverGrain 53 = .ok (.iload 5, 2) := by decide +kernel
theorem dX3_deliverGrain_55 : decode cX3_deliverGrain 55 = .ok (.iload 4, 2) := by decide +kernel
theorem dX3_deliverGrain_57 : decode cX3_deliverGrain 57 = .ok (.invokevirtual 125, 3) := by decide +kernel
theorem dX3_deliverGrain_60 : decode cX3_deliverGrain 60 = .ok (.istore 4, 2) := by decide +kernel
theorem dX3_deliverGrain_62 : decode cX3_deliverGrain 62 = .ok (.iinc 5 (-1), 3) := by decide +kernel
theorem dX3_deliverGrain_65 : decode cX3_deliverGrain 65 = .ok (.goto (-18), 3) := by decide +kernel
theorem dX3_deliverGrain_68 : decode cX3_deliverGrain 68 = .ok (.aload_n 0, 1) := by decide +kernel
theorem dX3_deliverGrain_69 : decode cX3_deliverGrain 69 = .ok (.dup, 1) := by decide +kernel
theorem dX3_deliverGrain_70 : decode cX3_deliverGrain 70 = .ok (.getfield 64, 3) := by decide +kernel
theorem dX3_deliverGrain_73 : decode cX3_deliverGrain 73 = .ok (.aload_n 2, 1) := by decide +kernel
theorem dX3_deliverGrain_74 : decode cX3_deliverGrain 74 = .ok (.getfield 103, 3) := by decide +kernel
theorem dX3_deliverGrain_77 : decode cX3_deliverGrain 77 = .ok (.iadd, 1) := by decide +kernel
theorem dX3_deliverGrain_78 : decode cX3_deliverGrain 78 = .ok (.putfield 64, 3) := by decide +kernel
theorem dX3_deliverGrain_81 : decode cX3_deliverGrain 81 = .ok (.aload_n 2, 1) := by decide +kernel
theorem dX3_deliverGrain_82 : decode cX3_deliverGrain 82 = .ok (.invokevirtual 119, 3) := by decide +kernel
theorem dX3_deliverGrain_85 : decode cX3_deliverGrain 85 = .ok (.iload_n 3, 1) := by decide +kernel
theorem dX3_deliverGrain_86 : decode cX3_deliverGrain 86 = .ok (.ireturn, 1) := by decide +kernel
theorem dX3_pledgeTo_0 : decode cX3_pledgeTo 0 = .ok (.aload_n 0, 1) := by decide +kernel
theorem dX3_pledgeTo_1 : decode cX3_pledgeTo 1 = .ok (.iload_n 1, 1) := by decide +kernel
theorem dX3_pledgeTo_2 : decode cX3_pledgeTo 2 = .ok (.invokevirtual 99, 3) := by decide +kernel
theorem dX3_pledgeTo_5 : decode cX3_pledgeTo 5 = .ok (.astore 4, 2) := by decide +kernel
theorem dX3_pledgeTo_7 : decode cX3_pledgeTo 7 = .ok (.aload 4, 2) := by decide +kernel
theorem dX3_pledgeTo_9 : decode cX3_pledgeTo 9 = .ok (.ifnull 15, 3) := by decide +kernel
theorem dX3_pledgeTo_12 : decode cX3_pledgeTo 12 = .ok (.iload_n 2, 1) := by decide +kernel
theorem dX3_pledgeTo_13 : decode cX3_pledgeTo 13 = .ok (.invokestatic 129, 3) := by decide +kernel
theorem dX3_pledgeTo_16 : decode cX3_pledgeTo 16 = .ok (.ifCond .eq 8, 3) := by decide +kernel
theorem dX3_pledgeTo_19 : decode cX3_pledgeTo 19 = .ok (.iload_n 3, 1) := by decide +kernel
theorem dX3_pledgeTo_20 : decode cX3_pledgeTo 20 = .ok (.iconst 1, 1) := by decide +kernel
theorem dX3_pledgeTo_21 : decode cX3_pledgeTo 21 = .ok (.if_icmp .ge 6, 3) := by decide +kernel
theorem dX3_pledgeTo_24 : decode cX3_pledgeTo 24 = .ok (.ldc 74, 2) := by decide +kernel
theorem dX3_pledgeTo_26 : decode cX3_pledgeTo 26 = .ok (.ireturn, 1) := by decide +kernel
theorem dX3_pledgeTo_27 : decode cX3_pledgeTo 27 = .ok (.aload 4, 2) := by decide +kernel
theorem dX3_pledgeTo_29 : decode cX3_pledgeTo 29 = .ok (.invokevirtual 115, 3) := by decide +kernel
theorem dX3_pledgeTo_32 : decode cX3_pledgeTo 32 = .ok (.ifCond .ne 24, 3) := by decide +kernel
theorem dX3_pledgeTo_35 : decode cX3_pledgeTo 35 = .ok (.aload 4, 2) := by decide +kernel
theorem dX3_pledgeTo_37 : decode cX3_pledgeTo 37 = .ok (.getfield 107, 3) := by decide +kernel
theorem dX3_pledgeTo_40 : decode cX3_pledgeTo 40 = .ok (.iconst 5, 1) := by decide +kernel
theorem dX3_pledgeTo_41 : decode cX3_pledgeTo 41 = .ok (.iload_n 2, 1) := by decide +kernel
theorem dX3_pledgeTo_42 : decode cX3_pledgeTo 42 = .ok (.iadd, 1) := by decide +kernel
theorem dX3_pledgeTo_43 : decode cX3_pledgeTo 43 = .ok (.if_icmp .eq 13, 3) := by decide +kernel
theorem dX3_pledgeTo_46 : decode cX3_pledgeTo 46 = .ok (.iload_n 3, 1) := by decide +kernel
theorem dX3_pledgeTo_47 : decode cX3_pledgeTo 47 = .ok (.aload_n 0, 1) := by decide +kernel
theorem dX3_pledgeTo_48 : decode cX3_pledgeTo 48 = .ok (.aload 4, 2) := by decide +kernel
theorem dX3_pledgeTo_50 : decode cX3_pledgeTo 50 = .ok (.invokevirtual 132, 3) := by decide +kernel
theorem dX3_pledgeTo_53 : decode cX3_pledgeTo 53 = .ok (.if_icmp .le 6, 3) := by decide +kernel
theorem dX3_pledgeTo_56 : decode cX3_pledgeTo 56 = .ok (.ldc 106, 2) := by decide +kernel
theorem dX3_pledgeTo_58 : decode cX3_pledgeTo 58 = .ok (.ireturn, 1) := by decide +kernel
theorem dX3_pledgeTo_59 : decode cX3_pledgeTo 59 = .ok (.aload 4, 2) := by decide +kernel
theorem dX3_pledgeTo_61 : decode cX3_pledgeTo 61 = .ok (.iload_n 2, 1) := by decide +kernel
theorem dX3_pledgeTo_62 : decode cX3_pledgeTo 62 = .ok (.putfield 136, 3) := by decide +kernel
theorem dX3_pledgeTo_65 : decode cX3_pledgeTo 65 = .ok (.aload 4, 2) := by decide +kernel
theorem dX3_pledgeTo_67 : decode cX3_pledgeTo 67 = .ok (.iload_n 3, 1) := by decide +kernel
theorem dX3_pledgeTo_68 : decode cX3_pledgeTo 68 = .ok (.putfield 139, 3) := by decide +kernel
theorem dX3_pledgeTo_71 : decode cX3_pledgeTo 71 = .ok (.aload_n 0, 1) := by decide +kernel
theorem dX3_pledgeTo_72 : decode cX3_pledgeTo 72 = .ok (.aload 4, 2) := by decide +kernel
theorem dX3_pledgeTo_74 : decode cX3_pledgeTo 74 = .ok (.getfield 107, 3) := by decide +kernel
theorem dX3_pledgeTo_77 : decode cX3_pledgeTo 77 = .ok (.iload_n 3, 1) := by decide +kernel
theorem dX3_pledgeTo_78 : decode cX3_pledgeTo 78 = .ok (.invokevirtual 142, 3) := by decide +kernel
theorem dX3_pledgeTo_81 : decode cX3_pledgeTo 81 = .ok (.aload_n 0, 1) := by decide +kernel
theorem dX3_pledgeTo_82 : decode cX3_pledgeTo 82 = .ok (.aload 4, 2) := by decide +kernel
theorem dX3_pledgeTo_84 : decode cX3_pledgeTo 84 = .ok (.getfield 107, 3) := by decide +kernel
theorem dX3_pledgeTo_87 : decode cX3_pledgeTo 87 = .ok (.invokevirtual 145, 3) := by decide +kernel
theorem dX3_pledgeTo_90 : decode cX3_pledgeTo 90 = .ok (.ireturn, 1) := by decide +kernel
theorem dX3_payBack_0 : decode cX3_payBack 0 = .ok (.aload_n 0, 1) := by decide +kernel
theorem dX3_payBack_1 : decode cX3_payBack 1 = .ok (.iload_n 1, 1) := by decide +kernel
theorem dX3_payBack_2 : decode cX3_payBack 2 = .ok (.invokevirtual 99, 3) := by decide +kernel
theorem dX3_payBack_5 : decode cX3_payBack 5 = .ok (.astore_n 3, 1) := by decide +kernel
theorem dX3_payBack_6 : decode cX3_payBack 6 = .ok (.aload_n 3, 1) := by decide +kernel
theorem dX3_payBack_7 : decode cX3_payBack 7 = .ok (.ifnull 8, 3) := by decide +kernel
theorem dX3_payBack_10 : decode cX3_payBack 10 = .ok (.iload_n 2, 1) := by decide +kernel
theorem dX3_payBack_11 : decode cX3_payBack 11 = .ok (.iconst 1, 1) := by decide +kernel
theorem dX3_payBack_12 : decode cX3_payBack 12 = .ok (.if_icmp .ge 6, 3) := by decide +kernel
theorem dX3_payBack_15 : decode cX3_payBack 15 = .ok (.ldc 74, 2) := by decide +kernel
theorem dX3_payBack_17 : decode cX3_payBack 17 = .ok (.ireturn, 1) := by decide +kernel
theorem dX3_payBack_18 : decode cX3_payBack 18 = .ok (.aload_n 3, 1) := by decide +kernel
theorem dX3_payBack_19 : decode cX3_payBack 19 = .ok (.invokevirtual 115, 3) := by decide +kernel
theorem dX3_payBack_22 : decode cX3_payBack 22 = .ok (.ifCond .eq 11, 3) := by decide +kernel
theorem dX3_payBack_25 : decode cX3_payBack 25 = .ok (.aload_n 3, 1) := by decide +kernel
theorem dX3_payBack_26 : decode cX3_payBack 26 = .ok (.getfield 139, 3) := by decide +kernel
theorem dX3_payBack_29 : decode cX3_payBack 29 = .ok (.iload_n 2, 1) := by decide +kernel
theorem dX3_payBack_30 : decode cX3_payBack 30 = .ok (.if_icmp .ge 6, 3) := by decide +kernel
theorem dX3_payBack_33 : decode cX3_payBack 33 = .ok (.ldc 106, 2) := by decide +kernel
theorem dX3_payBack_35 : decode cX3_payBack 35 = .ok (.ireturn, 1) := by decide +kernel
theorem dX3_payBack_36 : decode cX3_payBack 36 = .ok (.aload_n 3, 1) := by decide +kernel
theorem dX3_payBack_37 : decode cX3_payBack 37 = .ok (.dup, 1) := by decide +kernel
theorem dX3_payBack_38 : decode cX3_payBack 38 = .ok (.getfield 139, 3) := by decide +kernel
theorem dX3_payBack_41 : decode cX3_payBack 41 = .ok (.iload_n 2, 1) := by decide +kernel
theorem dX3_payBack_42 : decode cX3_payBack 42 = .ok (.isub, 1) := by decide +kernel
theorem dX3_payBack_43 : decode cX3_payBack 43 = .ok (.putfield 139, 3) := by decide +kernel
theorem dX3_payBack_46 : decode cX3_payBack 46 = .ok (.aload_n 0, 1) := by decide +kernel
theorem dX3_payBack_47 : decode cX3_payBack 47 = .ok (.aload_n 3, 1) := by decide +kernel
theorem dX3_payBack_48 : decode cX3_payBack 48 = .ok (.getfield 107, 3) := by decide +kernel
theorem dX3_payBack_51 : decode cX3_payBack 51 = .ok (.iload_n 2, 1) := by decide +kernel
theorem dX3_payBack_52 : decode cX3_payBack 52 = .ok (.ineg, 1) := by decide +kernel
theorem dX3_payBack_53 : decode cX3_payBack 53 = .ok (.invokevirtual 142, 3) := by decide +kernel
theorem dX3_payBack_56 : decode cX3_payBack 56 = .ok (.aload_n 3, 1) := by decide +kernel
theorem dX3_payBack_57 : decode cX3_payBack 57 = .ok (.getfield 139, 3) := by decide +kernel
theorem dX3_payBack_60 : decode cX3_payBack 60 = .ok (.ifCond .ne 10, 3) := by decide +kernel
theorem dX3_payBack_63 : decode cX3_payBack 63 = .ok (.aload_n 3, 1) := by decide +kernel
theorem dX3_payBack_64 : decode cX3_payBack 64 = .ok (.invokevirtual 148, 3) := by decide +kernel
theorem dX3_payBack_67 : decode cX3_payBack 67 = .ok (.goto 16, 3) := by decide +kernel
theorem dX3_payBack_70 : decode cX3_payBack 70 = .ok (.aload_n 0, 1) := by decide +kernel
theorem dX3_payBack_71 : decode cX3_payBack 71 = .ok (.aload_n 3, 1) := by decide +kernel
theorem dX3_payBack_72 : decode cX3_payBack 72 = .ok (.invokevirtual 151, 3) := by decide +kernel
theorem dX3_payBack_75 : decode cX3_payBack 75 = .ok (.ifCond .ne 8, 3) := by decide +kernel
theorem dX3_payBack_78 : decode cX3_payBack 78 = .ok (.aload_n 3, 1) := by decide +kernel
theorem dX3_payBack_79 : decode cX3_payBack 79 = .ok (.iconst 0, 1) := by decide +kernel
theorem dX3_payBack_80 : decode cX3_payBack 80 = .ok (.putfield 155, 3) := by decide +kernel
theorem dX3_payBack_83 : decode cX3_payBack 83 = .ok (.aload_n 3, 1) := by decide +kernel
theorem dX3_payBack_84 : decode cX3_payBack 84 = .ok (.getfield 139, 3) := by decide +kernel
theorem dX3_payBack_87 : decode cX3_payBack 87 = .ok (.ireturn, 1) := by decide +kernel
theorem dX3_changePrice_0 : decode cX3_changePrice 0 = .ok (.iload_n 1, 1) := by decide +kernel
theorem dX3_changePrice_1 : decode cX3_changePrice 1 = .ok (.invokestatic 70, 3) := by decide +kernel
theorem dX3_changePrice_4 : decode cX3_changePrice 4 = .ok (.ifCond .eq 14, 3) := by decide +kernel
theorem dX3_changePrice_7 : decode cX3_changePrice 7 = .ok (.iload_n 2, 1) := by decide +kernel
theorem dX3_changePrice_8 : decode cX3_changePrice 8 = .ok (.iconst 1, 1) := by decide +kernel
theorem dX3_changePrice_9 : decode cX3_changePrice 9 = .ok (.if_icmp .lt 9, 3) := by decide +kernel
theorem dX3_changePrice_12 : decode cX3_changePrice 12 = .ok (.iload_n 2, 1) := by decide +kernel
theorem dX3_changePrice_13 : decode cX3_changePrice 13 = .ok (.bipush 99, 2) := by decide +kernel
theorem dX3_changePrice_15 : decode cX3_changePrice 15 = .ok (.if_icmp .le 6, 3) := by decide +kernel
theorem dX3_changePrice_18 : decode cX3_changePrice 18 = .ok (.ldc 74, 2) := by decide +kernel
theorem dX3_changePrice_20 : decode cX3_changePrice 20 = .ok (.ireturn, 1) := by decide +kernel
theorem dX3_changePrice_21 : decode cX3_changePrice 21 = .ok (.aload_n 0, 1) := by decide +kernel
theorem dX3_changePrice_22 : decode cX3_changePrice 22 = .ok (.getfield 23, 3) := by decide +kernel
theorem dX3_changePrice_25 : decode cX3_changePrice 25 = .ok (.iload_n 1, 1) := by decide +kernel
theorem dX3_changePrice_26 : decode cX3_changePrice 26 = .ok (.iaload, 1) := by decide +kernel
theorem dX3_changePrice_27 : decode cX3_changePrice 27 = .ok (.istore_n 3, 1) := by decide +kernel
theorem dX3_changePrice_28 : decode cX3_changePrice 28 = .ok (.aload_n 0, 1) := by decide +kernel
theorem dX3_changePrice_29 : decode cX3_changePrice 29 = .ok (.getfield 23, 3) := by decide +kernel
theorem dX3_changePrice_32 : decode cX3_changePrice 32 = .ok (.iload_n 1, 1) := by decide +kernel
theorem dX3_changePrice_33 : decode cX3_changePrice 33 = .ok (.iload_n 2, 1) := by decide +kernel
theorem dX3_changePrice_34 : decode cX3_changePrice 34 = .ok (.iastore, 1) := by decide +kernel
theorem dX3_changePrice_35 : decode cX3_changePrice 35 = .ok (.iload_n 3, 1) := by decide +kernel
theorem dX3_changePrice_36 : decode cX3_changePrice 36 = .ok (.ireturn, 1) := by decide +kernel
theorem dX3_callLoans_0 : decode cX3_callLoans 0 = .ok (.iload_n 1, 1) := by decide +kernel
theorem dX3_callLoans_1 : decode cX3_callLoans 1 = .ok (.invokestatic 129, 3) := by decide +kernel
theorem dX3_callLoans_4 : decode cX3_callLoans 4 = .ok (.ifCond .ne 6, 3) := by decide +kernel
theorem dX3_callLoans_7 : decode cX3_callLoans 7 = .ok (.ldc 74, 2) := by decide +kernel
theorem dX3_callLoans_9 : decode cX3_callLoans 9 = .ok (.ireturn, 1) := by decide +kernel
theorem dX3_callLoans_10 : decode cX3_callLoans 10 = .ok (.iconst 0, 1) := by decide +kernel
theorem dX3_callLoans_11 : decode cX3_callLoans 11 = .ok (.istore_n 2, 1) := by decide +kernel
theorem dX3_callLoans_12 : decode cX3_callLoans 12 = .ok (.aload_n 0, 1) := by decide +kernel
theorem dX3_callLoans_13 : decode cX3_callLoans 13 = .ok (.getfield 19, 3) := by decide +kernel
theorem dX3_callLoans_16 : decode cX3_callLoans 16 = .ok (.astore_n 3, 1) := by decide +kernel
theorem dX3_callLoans_17 : decode cX3_callLoans 17 = .ok (.aload_n 3, 1) := by decide +kernel
theorem dX3_callLoans_18 : decode cX3_callLoans 18 = .ok (.arraylength, 1) := by decide +kernel
theorem dX3_callLoans_19 : decode cX3_callLoans 19 = .ok (.istore 4, 2) := by decide +kernel
theorem dX3_callLoans_21 : decode cX3_callLoans 21 = .ok (.iconst 0, 1) := by decide +kernel
theorem dX3_callLoans_22 : decode cX3_callLoans 22 = .ok (.istore 5, 2) := by decide +kernel
theorem dX3_callLoans_24 : decode cX3_callLoans 24 = .ok (.iload 5, 2) := by decide +kernel
theorem dX3_callLoans_26 : decode cX3_callLoans 26 = .ok (.iload 4, 2) := by decide +kernel
theorem dX3_callLoans_28 : decode cX3_callLoans 28 = .ok (.if_icmp .ge 45, 3) := by decide +kernel
theorem dX3_callLoans_31 : decode cX3_callLoans 31 = .ok (.aload_n 3, 1) := by decide +kernel
theorem dX3_callLoans_32 : decode cX3_callLoans 32 = .ok (.iload 5, 2) := by decide +kernel
theorem dX3_callLoans_34 : decode cX3_callLoans 34 = .ok (.aaload, 1) := by decide +kernel
theorem dX3_callLoans_35 : decode cX3_callLoans 35 = .ok (.astore 6, 2) := by decide +kernel
theorem dX3_callLoans_37 : decode cX3_callLoans 37 = .ok (.aload_n 0, 1) := by decide +kernel
theorem dX3_callLoans_38 : decode cX3_callLoans 38 = .ok (.aload 6, 2) := by decide +kernel
theorem dX3_callLoans_40 : decode cX3_callLoans 40 = .ok (.iload_n 1, 1) := by decide +kernel
theorem dX3_callLoans_41 : decode cX3_callLoans 41 = .ok (.aload_n 0, 1) := by decide +kernel
theorem dX3_callLoans_42 : decode cX3_callLoans 42 = .ok (.getfield 23, 3) := by decide +kernel
theorem dX3_callLoans_45 : decode cX3_callLoans 45 = .ok (.iconst 2, 1) := by decide +kernel
theorem dX3_callLoans_46 : decode cX3_callLoans 46 = .ok (.iaload, 1) := by decide +kernel
theorem dX3_callLoans_47 : decode cX3_callLoans 47 = .ok (.invokevirtual 158, 3) := by decide +kernel
theorem dX3_callLoans_50 : decode cX3_callLoans 50 = .ok (.ifCond .eq 17, 3) := by decide +kernel
theorem dX3_callLoans_53 : decode cX3_callLoans 53 = .ok (.aload 6, 2) := by decide +kernel
theorem dX3_callLoans_55 : decode cX3_callLoans 55 = .ok (.aload_n 0, 1) := by decide +kernel
theorem dX3_callLoans_56 : decode cX3_callLoans 56 = .ok (.getfield 27, 3) := by decide +kernel
theorem dX3_callLoans_59 : decode cX3_callLoans 59 = .ok (.iconst 2, 1) := by decide +kernel
theorem dX3_callLoans_60 : decode cX3_callLoans 60 = .ok (.iaload, 1) := by decide +kernel
theorem dX3_callLoans_61 : decode cX3_callLoans 61 = .ok (.putfield 155, 3) := by decide +kernel
theorem dX3_callLoans_64 : decode cX3_callLoans 64 = .ok (.iinc 2 1, 3) := by decide +kernel
theorem dX3_callLoans_67 : decode cX3_callLoans 67 = .ok (.iinc 5 1, 3) := by decide +kernel
theorem dX3_callLoans_70 : decode cX3_callLoans 70 = .ok (.goto (-46), 3) := by decide +kernel
theorem dX3_callLoans_73 : decode cX3_callLoans 73 = .ok (.iload_n 2, 1) := by decide +kernel
theorem dX3_callLoans_74 : decode cX3_callLoans 74 = .ok (.ireturn, 1) := by decide +kernel
theorem dX3_passDays_0 : decode cX3_passDays 0 = .ok (.iload_n 1, 1) := by decide +kernel
theorem dX3_passDays_1 : decode cX3_passDays 1 = .ok (.iconst 1, 1) := by decide +kernel
theorem dX3_passDays_2 : decode cX3_passDays 2 = .ok (.if_icmp .lt 9, 3) := by decide +kernel
theorem dX3_passDays_5 : decode cX3_passDays 5 = .ok (.iload_n 1, 1) := by decide +kernel
theorem dX3_passDays_6 : decode cX3_passDays 6 = .ok (.bipush 99, 2) := by decide +kernel
theorem dX3_passDays_8 : decode cX3_passDays 8 = .ok (.if_icmp .le 6, 3) := by decide +kernel
theorem dX3_passDays_11 : decode cX3_passDays 11 = .ok (.ldc 74, 2) := by decide +kernel
theorem dX3_passDays_13 : decode cX3_passDays 13 = .ok (.ireturn, 1) := by decide +kernel
theorem dX3_passDays_14 : decode cX3_passDays 14 = .ok (.aload_n 0, 1) := by decide +kernel
theorem dX3_passDays_15 : decode cX3_passDays 15 = .ok (.getfield 61, 3) := by decide +kernel
theorem dX3_passDays_18 : decode cX3_passDays 18 = .ok (.istore_n 2, 1) := by decide +kernel
theorem dX3_passDays_19 : decode cX3_passDays 19 = .ok (.iconst 0, 1) := by decide +kernel
theorem dX3_passDays_20 : decode cX3_passDays 20 = .ok (.istore_n 3, 1) := by decide +kernel
theorem dX3_passDays_21 : decode cX3_passDays 21 = .ok (.iload_n 3, 1) := by decide +kernel
theorem dX3_passDays_22 : decode cX3_passDays 22 = .ok (.iload_n 1, 1) := by decide +kernel
theorem dX3_passDays_23 : decode cX3_passDays 23 = .ok (.if_icmp .ge 13, 3) := by decide +kernel
theorem dX3_passDays_26 : decode cX3_passDays 26 = .ok (.aload_n 0, 1) := by decide +kernel
theorem dX3_passDays_27 : decode cX3_passDays 27 = .ok (.invokevirtual 162, 3) := by decide +kernel
theorem dX3_passDays_30 : decode cX3_passDays 30 = .ok (.iinc 3 1, 3) := by decide +kernel
theorem dX3_passDays_33 : decode cX3_passDays 33 = .ok (.goto (-12), 3) := by decide +kernel
theorem dX3_passDays_36 : decode cX3_passDays 36 = .ok (.aload_n 0, 1) := by decide +kernel
theorem dX3_passDays_37 : decode cX3_passDays 37 = .ok (.getfield 61, 3) := by decide +kernel
theorem dX3_passDays_40 : decode cX3_passDays 40 = .ok (.iload_n 2, 1) := by decide +kernel
theorem dX3_passDays_41 : decode cX3_passDays 41 = .ok (.isub, 1) := by decide +kernel
theorem dX3_passDays_42 : decode cX3_passDays 42 = .ok (.ireturn, 1) := by decide +kernel
theorem dX3_loseGrain_0 : decode cX3_loseGrain 0 = .ok (.iload_n 1, 1) := by decide +kernel
theorem dX3_loseGrain_1 : decode cX3_loseGrain 1 = .ok (.invokestatic 165, 3) := by decide +kernel
theorem dX3_loseGrain_4 : decode cX3_loseGrain 4 = .ok (.ifCond .eq 8, 3) := by decide +kernel
theorem dX3_loseGrain_7 : decode cX3_loseGrain 7 = .ok (.iload_n 2, 1) := by decide +kernel
theorem dX3_loseGrain_8 : decode cX3_loseGrain 8 = .ok (.iconst 1, 1) := by decide +kernel
theorem dX3_loseGrain_9 : decode cX3_loseGrain 9 = .ok (.if_icmp .ge 6, 3) := by decide +kernel
theorem dX3_loseGrain_12 : decode cX3_loseGrain 12 = .ok (.ldc 74, 2) := by decide +kernel
theorem dX3_loseGrain_14 : decode cX3_loseGrain 14 = .ok (.ireturn, 1) := by decide +kernel
theorem dX3_loseGrain_15 : decode cX3_loseGrain 15 = .ok (.aload_n 0, 1) := by decide +kernel
theorem dX3_loseGrain_16 : decode cX3_loseGrain 16 = .ok (.getfield 11, 3) := by decide +kernel
theorem dX3_loseGrain_19 : decode cX3_loseGrain 19 = .ok (.iload_n 1, 1) := by decide +kernel
theorem dX3_loseGrain_20 : decode cX3_loseGrain 20 = .ok (.aaload, 1) := by decide +kernel
theorem dX3_loseGrain_21 : decode cX3_loseGrain 21 = .ok (.astore_n 3, 1) := by decide +kernel
theorem dX3_loseGrain_22 : decode cX3_loseGrain 22 = .ok (.iload_n 2, 1) := by decide +kernel
theorem dX3_loseGrain_23 : decode cX3_loseGrain 23 = .ok (.aload_n 0, 1) := by decide +kernel
theorem dX3_loseGrain_24 : decode cX3_loseGrain 24 = .ok (.aload_n 3, 1) := by decide +kernel
theorem dX3_loseGrain_25 : decode cX3_loseGrain 25 = .ok (.invokevirtual 168, 3) := by decide +kernel
theorem dX3_loseGrain_28 : decode cX3_loseGrain 28 = .ok (.if_icmp .le 6, 3) := by decide +kernel
theorem dX3_loseGrain_31 : decode cX3_loseGrain 31 = .ok (.ldc 106, 2) := by decide +kernel
theorem dX3_loseGrain_33 : decode cX3_loseGrain 33 = .ok (.ireturn, 1) := by decide +kernel
theorem dX3_loseGrain_34 : decode cX3_loseGrain 34 = .ok (.aload_n 3, 1) := by decide +kernel
theorem dX3_loseGrain_35 : decode cX3_loseGrain 35 = .ok (.dup, 1) := by decide +kernel
theorem dX3_loseGrain_36 : decode cX3_loseGrain 36 = .ok (.getfield 172, 3) := by decide +kernel
theorem dX3_loseGrain_39 : decode cX3_loseGrain 39 = .ok (.iload_n 2, 1) := by decide +kernel
theorem dX3_loseGrain_40 : decode cX3_loseGrain 40 = .ok (.isub, 1) := by decide +kernel
theorem dX3_loseGrain_41 : decode cX3_loseGrain 41 = .ok (.putfield 172, 3) := by decide +kernel
theorem dX3_loseGrain_44 : decode cX3_loseGrain 44 = .ok (.aload_n 0, 1) := by decide +kernel
theorem dX3_loseGrain_45 : decode cX3_loseGrain 45 = .ok (.dup, 1) := by decide +kernel
theorem dX3_loseGrain_46 : decode cX3_loseGrain 46 = .ok (.getfield 67, 3) := by decide +kernel
theorem dX3_loseGrain_49 : decode cX3_loseGrain 49 = .ok (.iload_n 2, 1) := by decide +kernel
theorem dX3_loseGrain_50 : decode cX3_loseGrain 50 = .ok (.iadd, 1) := by decide +kernel
theorem dX3_loseGrain_51 : decode cX3_loseGrain 51 = .ok (.putfield 67, 3) := by decide +kernel
theorem dX3_loseGrain_54 : decode cX3_loseGrain 54 = .ok (.aload_n 3, 1) := by decide +kernel
theorem dX3_loseGrain_55 : decode cX3_loseGrain 55 = .ok (.getfield 172, 3) := by decide +kernel
theorem dX3_loseGrain_58 : decode cX3_loseGrain 58 = .ok (.ireturn, 1) := by decide +kernel
theorem dX3_regradeBin_0 : decode cX3_regradeBin 0 = .ok (.iload_n 1, 1) := by decide +kernel
theorem dX3_regradeBin_1 : decode cX3_regradeBin 1 = .ok (.invokestatic 165, 3) := by decide +kernel
theorem dX3_regradeBin_4 : decode cX3_regradeBin 4 = .ok (.ifCond .eq 10, 3) := by decide +kernel
theorem dX3_regradeBin_7 : decode cX3_regradeBin 7 = .ok (.iload_n 2, 1) := by decide +kernel
theorem dX3_regradeBin_8 : decode cX3_regradeBin 8 = .ok (.invokestatic 70, 3) := by decide +kernel
theorem dX3_regradeBin_11 : decode cX3_regradeBin 11 = .ok (.ifCond .ne 6, 3) := by decide +kernel
theorem dX3_regradeBin_14 : decode cX3_regradeBin 14 = .ok (.ldc 74, 2) := by decide +kernel
theorem dX3_regradeBin_16 : decode cX3_regradeBin 16 = .ok (.ireturn, 1) := by decide +kernel
theorem dX3_regradeBin_17 : decode cX3_regradeBin 17 = .ok (.aload_n 0, 1) := by decide +kernel
theorem dX3_regradeBin_18 : decode cX3_regradeBin 18 = .ok (.getfield 11, 3) := by decide +kernel
theorem dX3_regradeBin_21 : decode cX3_regradeBin 21 = .ok (.iload_n 1, 1) := by decide +kernel
theorem dX3_regradeBin_22 : decode cX3_regradeBin 22 = .ok (.aaload, 1) := by decide +kernel
theorem dX3_regradeBin_23 : decode cX3_regradeBin 23 = .ok (.astore_n 3, 1) := by decide +kernel
theorem dX3_regradeBin_24 : decode cX3_regradeBin 24 = .ok (.aload_n 3, 1) := by decide +kernel
theorem dX3_regradeBin_25 : decode cX3_regradeBin 25 = .ok (.getfield 37, 3) := by decide +kernel
theorem dX3_regradeBin_28 : decode cX3_regradeBin 28 = .ok (.istore 4, 2) := by decide +kernel
theorem dX3_regradeBin_30 : decode cX3_regradeBin 30 = .ok (.iload_n 2, 1) := by decide +kernel
theorem dX3_regradeBin_31 : decode cX3_regradeBin 31 = .ok (.iload 4, 2) := by decide +kernel
theorem dX3_regradeBin_33 : decode cX3_regradeBin 33 = .ok (.if_icmp .ge 13, 3) := by decide +kernel
theorem dX3_regradeBin_36 : decode cX3_regradeBin 36 = .ok (.aload_n 3, 1) := by decide +kernel
theorem dX3_regradeBin_37 : decode cX3_regradeBin 37 = .ok (.getfield 172, 3) := by decide +kernel
theorem dX3_regradeBin_40 : decode cX3_regradeBin 40 = .ok (.ifCond .le 6, 3) := by decide +kernel
theorem dX3_regradeBin_43 : decode cX3_regradeBin 43 = .ok (.ldc 106, 2) := by decide +kernel
theorem dX3_regradeBin_45 : decode cX3_regradeBin 45 = .ok (.ireturn, 1) := by decide +kernel
theorem dX3_regradeBin_46 : decode cX3_regradeBin 46 = .ok (.iload 4, 2) := by decide +kernel
theorem dX3_regradeBin_48 : decode cX3_regradeBin 48 = .ok (.istore 5, 2) := by decide +kernel
theorem dX3_regradeBin_50 : decode cX3_regradeBin 50 = .ok (.iload 5, 2) := by decide +kernel
theorem dX3_regradeBin_52 : decode cX3_regradeBin 52 = .ok (.iload_n 2, 1) := by decide +kernel
theorem dX3_regradeBin_53 : decode cX3_regradeBin 53 = .ok (.if_icmp .ge 25, 3) := by decide +kernel
theorem dX3_regradeBin_56 : decode cX3_regradeBin 56 = .ok (.aload_n 3, 1) := by decide +kernel
theorem dX3_regradeBin_57 : decode cX3_regradeBin 57 = .ok (.getfield 172, 3) := by decide +kernel
theorem dX3_regradeBin_60 : decode cX3_regradeBin 60 = .ok (.aload_n 0, 1) := by decide +kernel
theorem dX3_regradeBin_61 : decode cX3_regradeBin 61 = .ok (.iload 5, 2) := by decide +kernel
theorem dX3_regradeBin_63 : decode cX3_regradeBin 63 = .ok (.invokevirtual 173, 3) := by decide +kernel
theorem dX3_regradeBin_66 : decode cX3_regradeBin 66 = .ok (.if_icmp .le 6, 3) := by decide +kernel
theorem dX3_regradeBin_69 : decode cX3_regradeBin 69 = .ok (.ldc 106, 2) := by decide +kernel
theorem dX3_regradeBin_71 : decode cX3_regradeBin 71 = .ok (.ireturn, 1) := by decide +kernel
theorem dX3_regradeBin_72 : decode cX3_regradeBin 72 = .ok (.iinc 5 1, 3) := by decide +kernel
theorem dX3_regradeBin_75 : decode cX3_regradeBin 75 = .ok (.goto (-25), 3) := by decide +kernel
theorem dX3_regradeBin_78 : decode cX3_regradeBin 78 = .ok (.aload_n 3, 1) := by decide +kernel
theorem dX3_regradeBin_79 : decode cX3_regradeBin 79 = .ok (.iload_n 2, 1) := by decide +kernel
theorem dX3_regradeBin_80 : decode cX3_regradeBin 80 = .ok (.putfield 37, 3) := by decide +kernel
theorem dX3_regradeBin_83 : decode cX3_regradeBin 83 = .ok (.iload 4, 2) := by decide +kernel
theorem dX3_regradeBin_85 : decode cX3_regradeBin 85 = .ok (.ireturn, 1) := by decide +kernel
theorem dX3_changeSetting_0 : decode cX3_changeSetting 0 = .ok (.iload_n 1, 1) := by decide +kernel
theorem dX3_changeSetting_1 : decode cX3_changeSetting 1 = .ok (.invokestatic 176, 3) := by decide +kernel
theorem dX3_changeSetting_4 : decode cX3_changeSetting 4 = .ok (.ifCond .eq 21, 3) := by decide +kernel
theorem dX3_changeSetting_7 : decode cX3_changeSetting 7 = .ok (.iload_n 2, 1) := by decide +kernel
theorem dX3_changeSetting_8 : decode cX3_changeSetting 8 = .ok (.getstatic 179, 3) := by decide +kernel
theorem dX3_changeSetting_11 : decode cX3_changeSetting 11 = .ok (.iload_n 1, 1) := by decide +kernel
theorem dX3_changeSetting_12 : decode cX3_changeSetting 12 = .ok (.iaload, 1) := by decide +kernel
theorem dX3_changeSetting_13 : decode cX3_changeSetting 13 = .ok (.if_icmp .lt 12, 3) := by decide +kernel
theorem dX3_changeSetting_16 : decode cX3_changeSetting 16 = .ok (.iload_n 2, 1) := by decide +kernel
theorem dX3_changeSetting_17 : decode cX3_changeSetting 17 = .ok (.getstatic 182, 3) := by decide +kernel
theorem dX3_changeSetting_20 : decode cX3_changeSetting 20 = .ok (.iload_n 1, 1) := by decide +kernel
theorem dX3_changeSetting_21 : decode cX3_changeSetting 21 = .ok (.iaload, 1) := by decide +kernel
theorem dX3_changeSetting_22 : decode cX3_changeSetting 22 = .ok (.if_icmp .le 6, 3) := by decide +kernel
theorem dX3_changeSetting_25 : decode cX3_changeSetting 25 = .ok (.ldc 74, 2) := by decide +kernel
theorem dX3_changeSetting_27 : decode cX3_changeSetting 27 = .ok (.ireturn, 1) := by decide +kernel
theorem dX3_changeSetting_28 : decode cX3_changeSetting 28 = .ok (.aload_n 0, 1) := by decide +kernel
theorem dX3_changeSetting_29 : decode cX3_changeSetting 29 = .ok (.getfield 27, 3) := by decide +kernel
theorem dX3_changeSetting_32 : decode cX3_changeSetting 32 = .ok (.iload_n 1, 1) := by decide +kernel
theorem dX3_changeSetting_33 : decode cX3_changeSetting 33 = .ok (.iaload, 1) := by decide +kernel
theorem dX3_changeSetting_34 : decode cX3_changeSetting 34 = .ok (.istore_n 3, 1) := by decide +kernel
theorem dX3_changeSetting_35 : decode cX3_changeSetting 35 = .ok (.aload_n 0, 1) := by decide +kernel
theorem dX3_changeSetting_36 : decode cX3_changeSetting 36 = .ok (.getfield 27, 3) := by decide +kernel
theorem dX3_changeSetting_39 : decode cX3_changeSetting 39 = .ok (.iload_n 1, 1) := by decide +kernel
theorem dX3_changeSetting_40 : decode cX3_changeSetting 40 = .ok (.iload_n 2, 1) := by decide +kernel
theorem dX3_changeSetting_41 : decode cX3_changeSetting 41 = .ok (.iastore, 1) := by decide +kernel
theorem dX3_changeSetting_42 : decode cX3_changeSetting 42 = .ok (.iload_n 3, 1) := by decide +kernel
theorem dX3_changeSetting_43 : decode cX3_changeSetting 43 = .ok (.ireturn, 1) := by decide +kernel
theorem dX3_tellReceipt_0 : decode cX3_tellReceipt 0 = .ok (.aload_n 0, 1) := by decide +kernel
theorem dX3_tellReceipt_1 : decode cX3_tellReceipt 1 = .ok (.iload_n 1, 1) := by decide +kernel
theorem dX3_tellReceipt_2 : decode cX3_tellReceipt 2 = .ok (.invokevirtual 99, 3) := by decide +kernel
theorem dX3_tellReceipt_5 : decode cX3_tellReceipt 5 = .ok (.astore_n 3, 1) := by decide +kernel
theorem dX3_tellReceipt_6 : decode cX3_tellReceipt 6 = .ok (.aload_n 3, 1) := by decide +kernel
theorem dX3_tellReceipt_7 : decode cX3_tellReceipt 7 = .ok (.ifnonnull 6, 3) := by decide +kernel
theorem dX3_tellReceipt_10 : decode cX3_tellReceipt 10 = .ok (.ldc 74, 2) := by decide +kernel
theorem dX3_tellReceipt_12 : decode cX3_tellReceipt 12 = .ok (.ireturn, 1) := by decide +kernel
theorem dX3_tellReceipt_13 : decode cX3_tellReceipt 13 = .ok (.iload_n 2, 1) := by decide +kernel
theorem dX3_tellReceipt_14 : decode cX3_tellReceipt 14 = .ok (.tableswitch 157 0 9 #[54, 59, 64, 69, 75, 92, 109, 126, 132, 151], 54) := by decide +kernel
theorem dX3_tellReceipt_68 : decode cX3_tellReceipt 68 = .ok (.aload_n 3, 1) := by decide +kernel
theorem dX3_tellReceipt_69 : decode cX3_tellReceipt 69 = .ok (.getfield 107, 3) := by decide +kernel
theorem dX3_tellReceipt_72 : decode cX3_tellReceipt 72 = .ok (.ireturn, 1) := by decide +kernel
theorem dX3_tellReceipt_73 : decode cX3_tellReceipt 73 = .ok (.aload_n 3, 1) := by decide +kernel
theorem dX3_tellReceipt_74 : decode cX3_tellReceipt 74 = .ok (.getfield 110, 3) := by decide +kernel
theorem dX3_tellReceipt_77 : decode cX3_tellReceipt 77 = .ok (.ireturn, 1) := by decide +kernel
theorem dX3_tellReceipt_78 : decode cX3_tellReceipt 78 = .ok (.aload_n 3, 1) := by decide +kernel
theorem dX3_tellReceipt_79 : decode cX3_tellReceipt 79 = .ok (.getfield 103, 3) := by decide +kernel
theorem dX3_tellReceipt_82 : decode cX3_tellReceipt 82 = .ok (.ireturn, 1) := by decide +kernel
theorem dX3_tellReceipt_83 : decode cX3_tellReceipt 83 = .ok (.aload_n 0, 1) := by decide +kernel
theorem dX3_tellReceipt_84 : decode cX3_tellReceipt 84 = .ok (.aload_n 3, 1) := by decide +kernel
theorem dX3_tellReceipt_85 : decode cX3_tellReceipt 85 = .ok (.invokevirtual 185, 3) := by decide +kernel
theorem dX3_tellReceipt_88 : decode cX3_tellReceipt 88 = .ok (.ireturn, 1) := by decide +kernel
theorem dX3_tellReceipt_89 : decode cX3_tellReceipt 89 = .ok (.aload_n 3, 1) := by decide +kernel
theorem dX3_tellReceipt_90 : decode cX3_tellReceipt 90 = .ok (.invokevirtual 115, 3) := by decide +kernel
theorem dX3_tellReceipt_93 : decode cX3_tellReceipt 93 = .ok (.ifCond .eq 10, 3) := by decide +kernel
theorem dX3_tellReceipt_96 : decode cX3_tellReceipt 96 = .ok (.aload_n 3, 1) := by decide +kernel
theorem dX3_tellReceipt_97 : decode cX3_tellReceipt 97 = .ok (.getfield 136, 3) := by decide +kernel
theorem dX3_tellReceipt_100 : decode cX3_tellReceipt 100 = .ok (.goto 5, 3) := by decide +kernel
theorem dX3_tellReceipt_103 : decode cX3_tellReceipt 103 = .ok (.ldc 188, 2) := by decide +kernel
theorem dX3_tellReceipt_105 : decode cX3_tellReceipt 105 = .ok (.ireturn, 1) := by decide +kernel
theorem dX3_tellReceipt_106 : decode cX3_tellReceipt 106 = .ok (.aload_n 3, 1) := by decide +kernel
theorem dX3_tellReceipt_107 : decode cX3_tellReceipt 107 = .ok (.invokevirtual 115, 3) := by decide +kernel
theorem dX3_tellReceipt_110 : decode cX3_tellReceipt 110 = .ok (.ifCond .eq 10, 3) := by decide +kernel
theorem dX3_tellReceipt_113 : decode cX3_tellReceipt 113 = .ok (.aload_n 3, 1) := by decide +kernel
theorem dX3_tellReceipt_114 : decode cX3_tellReceipt 114 = .ok (.getfield 139, 3) := by decide +kernel
theorem dX3_tellReceipt_117 : decode cX3_tellReceipt 117 = .ok (.goto 5, 3) := by decide +kernel
theorem dX3_tellReceipt_120 : decode cX3_tellReceipt 120 = .ok (.ldc 188, 2) := by decide +kernel
theorem dX3_tellReceipt_122 : decode cX3_tellReceipt 122 = .ok (.ireturn, 1) := by decide +kernel
theorem dX3_tellReceipt_123 : decode cX3_tellReceipt 123 = .ok (.aload_n 3, 1) := by decide +kernel
theorem dX3_tellReceipt_124 : decode cX3_tellReceipt 124 = .ok (.invokevirtual 189, 3) := by decide +kernel
theorem dX3_tellReceipt_127 : decode cX3_tellReceipt 127 = .ok (.ifCond .eq 10, 3) := by decide +kernel
theorem dX3_tellReceipt_130 : decode cX3_tellReceipt 130 = .ok (.aload_n 3, 1) := by decide +kernel
theorem dX3_tellReceipt_131 : decode cX3_tellReceipt 131 = .ok (.getfield 155, 3) := by decide +kernel
theorem dX3_tellReceipt_134 : decode cX3_tellReceipt 134 = .ok (.goto 5, 3) := by decide +kernel
theorem dX3_tellReceipt_137 : decode cX3_tellReceipt 137 = .ok (.ldc 188, 2) := by decide +kernel
theorem dX3_tellReceipt_139 : decode cX3_tellReceipt 139 = .ok (.ireturn, 1) := by decide +kernel
theorem dX3_tellReceipt_140 : decode cX3_tellReceipt 140 = .ok (.aload_n 0, 1) := by decide +kernel
theorem dX3_tellReceipt_141 : decode cX3_tellReceipt 141 = .ok (.aload_n 3, 1) := by decide +kernel
theorem dX3_tellReceipt_142 : decode cX3_tellReceipt 142 = .ok (.invokevirtual 132, 3) := by decide +kernel
theorem dX3_tellReceipt_145 : decode cX3_tellReceipt 145 = .ok (.ireturn, 1) := by decide +kernel
theorem dX3_tellReceipt_146 : decode cX3_tellReceipt 146 = .ok (.iconst 0, 1) := by decide +kernel
theorem dX3_tellReceipt_147 : decode cX3_tellReceipt 147 = .ok (.aload_n 3, 1) := by decide +kernel
theorem dX3_tellReceipt_148 : decode cX3_tellReceipt 148 = .ok (.getfield 139, 3) := by decide +kernel
theorem dX3_tellReceipt_151 : decode cX3_tellReceipt 151 = .ok (.aload_n 0, 1) := by decide +kernel
theorem dX3_tellReceipt_152 : decode cX3_tellReceipt 152 = .ok (.aload_n 0, 1) := by decide +kernel
theorem dX3_tellReceipt_153 : decode cX3_tellReceipt 153 = .ok (.aload_n 3, 1) := by decide +kernel
theorem dX3_tellReceipt_154 : decode cX3_tellReceipt 154 = .ok (.invokevirtual 185, 3) := by decide +kernel
theorem dX3_tellReceipt_157 : decode cX3_tellReceipt 157 = .ok (.invokevirtual 192, 3) := by decide +kernel
theorem dX3_tellReceipt_160 : decode cX3_tellReceipt 160 = .ok (.isub, 1) := by decide +kernel
theorem dX3_tellReceipt_161 : decode cX3_tellReceipt 161 = .ok (.invokestatic 195, 3) := by decide +kernel
theorem dX3_tellReceipt_164 : decode cX3_tellReceipt 164 = .ok (.ireturn, 1) := by decide +kernel
theorem dX3_tellReceipt_165 : decode cX3_tellReceipt 165 = .ok (.aload_n 0, 1) := by decide +kernel
theorem dX3_tellReceipt_166 : decode cX3_tellReceipt 166 = .ok (.aload_n 3, 1) := by decide +kernel
theorem dX3_tellReceipt_167 : decode cX3_tellReceipt 167 = .ok (.invokevirtual 200, 3) := by decide +kernel
theorem dX3_tellReceipt_170 : decode cX3_tellReceipt 170 = .ok (.ireturn, 1) := by decide +kernel
theorem dX3_tellReceipt_171 : decode cX3_tellReceipt 171 = .ok (.ldc 74, 2) := by decide +kernel
theorem dX3_tellReceipt_173 : decode cX3_tellReceipt 173 = .ok (.ireturn, 1) := by decide +kernel
theorem dX3_numberAt_0 : decode cX3_numberAt 0 = .ok (.iload_n 1, 1) := by decide +kernel
theorem dX3_numberAt_1 : decode cX3_numberAt 1 = .ok (.ifCond .ge 6, 3) := by decide +kernel
theorem dX3_numberAt_4 : decode cX3_numberAt 4 = .ok (.ldc 74, 2) := by decide +kernel
theorem dX3_numberAt_6 : decode cX3_numberAt 6 = .ok (.ireturn, 1) := by decide +kernel
theorem dX3_numberAt_7 : decode cX3_numberAt 7 = .ok (.aload_n 0, 1) := by decide +kernel
theorem dX3_numberAt_8 : decode cX3_numberAt 8 = .ok (.getfield 19, 3) := by decide +kernel
theorem dX3_numberAt_11 : decode cX3_numberAt 11 = .ok (.astore_n 2, 1) := by decide +kernel
theorem dX3_numberAt_12 : decode cX3_numberAt 12 = .ok (.aload_n 2, 1) := by decide +kernel
theorem dX3_numberAt_13 : decode cX3_numberAt 13 = .ok (.arraylength, 1) := by decide +kernel
theorem dX3_numberAt_14 : decode cX3_numberAt 14 = .ok (.istore_n 3, 1) := by decide +kernel
theorem dX3_numberAt_15 : decode cX3_numberAt 15 = .ok (.iconst 0, 1) := by decide +kernel
theorem dX3_numberAt_16 : decode cX3_numberAt 16 = .ok (.istore 4, 2) := by decide +kernel
theorem dX3_numberAt_18 : decode cX3_numberAt 18 = .ok (.iload 4, 2) := by decide +kernel
theorem dX3_numberAt_20 : decode cX3_numberAt 20 = .ok (.iload_n 3, 1) := by decide +kernel
theorem dX3_numberAt_21 : decode cX3_numberAt 21 = .ok (.if_icmp .ge 42, 3) := by decide +kernel
theorem dX3_numberAt_24 : decode cX3_numberAt 24 = .ok (.aload_n 2, 1) := by decide +kernel
theorem dX3_numberAt_25 : decode cX3_numberAt 25 = .ok (.iload 4, 2) := by decide +kernel
theorem dX3_numberAt_27 : decode cX3_numberAt 27 = .ok (.aaload, 1) := by decide +kernel
theorem dX3_numberAt_28 : decode cX3_numberAt 28 = .ok (.astore 5, 2) := by decide +kernel
theorem dX3_numberAt_30 : decode cX3_numberAt 30 = .ok (.aload 5, 2) := by decide +kernel
theorem dX3_numberAt_32 : decode cX3_numberAt 32 = .ok (.invokevirtual 203, 3) := by decide +kernel
theorem dX3_numberAt_35 : decode cX3_numberAt 35 = .ok (.ifCond .eq 22, 3) := by decide +kernel
theorem dX3_numberAt_38 : decode cX3_numberAt 38 = .ok (.aload_n 0, 1) := by decide +kernel
theorem dX3_numberAt_39 : decode cX3_numberAt 39 = .ok (.aload 5, 2) := by decide +kernel
theorem dX3_numberAt_41 : decode cX3_numberAt 41 = .ok (.getfield 96, 3) := by decide +kernel
theorem dX3_numberAt_44 : decode cX3_numberAt 44 = .ok (.invokevirtual 206, 3) := by decide +kernel
theorem dX3_numberAt_47 : decode cX3_numberAt 47 = .ok (.iload_n 1, 1) := by decide +kernel
theorem dX3_numberAt_48 : decode cX3_numberAt 48 = .ok (.if_icmp .ne 9, 3) := by decide +kernel
theorem dX3_numberAt_51 : decode cX3_numberAt 51 = .ok (.aload 5, 2) := by decide +kernel
theorem dX3_numberAt_53 : decode cX3_numberAt 53 = .ok (.getfield 96, 3) := by decide +kernel
theorem dX3_numberAt_56 : decode cX3_numberAt 56 = .ok (.ireturn, 1) := by decide +kernel
theorem dX3_numberAt_57 : decode cX3_numberAt 57 = .ok (.iinc 4 1, 3) := by decide +kernel
theorem dX3_numberAt_60 : decode cX3_numberAt 60 = .ok (.goto (-42), 3) := by decide +kernel
theorem dX3_numberAt_63 : decode cX3_numberAt 63 = .ok (.ldc 188, 2) := by decide +kernel
theorem dX3_numberAt_65 : decode cX3_numberAt 65 = .ok (.ireturn, 1) := by decide +kernel
theorem dX3_tellBin_0 : decode cX3_tellBin 0 = .ok (.iload_n 1, 1) := by decide +kernel
theorem dX3_tellBin_1 : decode cX3_tellBin 1 = .ok (.invokestatic 165, 3) := by decide +kernel
theorem dX3_tellBin_4 : decode cX3_tellBin 4 = .ok (.ifCond .ne 6, 3) := by decide +kernel
theorem dX3_tellBin_7 : decode cX3_tellBin 7 = .ok (.ldc 74, 2) := by decide +kernel
theorem dX3_tellBin_9 : decode cX3_tellBin 9 = .ok (.ireturn, 1) := by decide +kernel
theorem dX3_tellBin_10 : decode cX3_tellBin 10 = .ok (.iload_n 2, 1) := by decide +kernel
theorem dX3_tellBin_11 : decode cX3_tellBin 11 = .ok (.tableswitch 56 0 2 #[25, 35, 45], 25) := by decide +kernel
theorem dX3_tellBin_36 : decode cX3_tellBin 36 = .ok (.aload_n 0, 1) := by decide +kernel
theorem dX3_tellBin_37 : decode cX3_tellBin 37 = .ok (.getfield 11, 3) := by decide +kernel
theorem dX3_tellBin_40 : decode cX3_tellBin 40 = .ok (.iload_n 1, 1) := by decide +kernel
theorem dX3_tellBin_41 : decode cX3_tellBin 41 = .ok (.aaload, 1) := by decide +kernel
theorem dX3_tellBin_42 : decode cX3_tellBin 42 = .ok (.getfield 37, 3) := by decide +kernel
theorem dX3_tellBin_45 : decode cX3_tellBin 45 = .ok (.ireturn, 1) := by decide +kernel
theorem dX3_tellBin_46 : decode cX3_tellBin 46 = .ok (.aload_n 0, 1) := by decide +kernel
theorem dX3_tellBin_47 : decode cX3_tellBin 47 = .ok (.getfield 11, 3) := by decide +kernel
theorem dX3_tellBin_50 : decode cX3_tellBin 50 = .ok (.iload_n 1, 1) := by decide +kernel
theorem dX3_tellBin_51 : decode cX3_tellBin 51 = .ok (.aaload, 1) := by decide +kernel
theorem dX3_tellBin_52 : decode cX3_tellBin 52 = .ok (.getfield 172, 3) := by decide +kernel
theorem dX3_tellBin_55 : decode cX3_tellBin 55 = .ok (.ireturn, 1) := by decide +kernel
theorem dX3_tellBin_56 : decode cX3_tellBin 56 = .ok (.aload_n 0, 1) := by decide +kernel
theorem dX3_tellBin_57 : decode cX3_tellBin 57 = .ok (.aload_n 0, 1) := by decide +kernel
theorem dX3_tellBin_58 : decode cX3_tellBin 58 = .ok (.getfield 11, 3) := by decide +kernel
theorem dX3_tellBin_61 : decode cX3_tellBin 61 = .ok (.iload_n 1, 1) := by decide +kernel
theorem dX3_tellBin_62 : decode cX3_tellBin 62 = .ok (.aaload, 1) := by decide +kernel
theorem dX3_tellBin_63 : decode cX3_tellBin 63 = .ok (.invokevirtual 168, 3) := by decide +kernel
theorem dX3_tellBin_66 : decode cX3_tellBin 66 = .ok (.ireturn, 1) := by decide +kernel
theorem dX3_tellBin_67 : decode cX3_tellBin 67 = .ok (.ldc 74, 2) := by decide +kernel
theorem dX3_tellBin_69 : decode cX3_tellBin 69 = .ok (.ireturn, 1) := by decide +kernel
theorem dX3_tellGrade_0 : decode cX3_tellGrade 0 = .ok (.iload_n 1, 1) := by decide +kernel
theorem dX3_tellGrade_1 : decode cX3_tellGrade 1 = .ok (.invokestatic 70, 3) := by decide +kernel
theorem dX3_tellGrade_4 : decode cX3_tellGrade 4 = .ok (.ifCond .ne 6, 3) := by decide +kernel
theorem dX3_tellGrade_7 : decode cX3_tellGrade 7 = .ok (.ldc 74, 2) := by decide +kernel
theorem dX3_tellGrade_9 : decode cX3_tellGrade 9 = .ok (.ireturn, 1) := by decide +kernel
theorem dX3_tellGrade_10 : decode cX3_tellGrade 10 = .ok (.iload_n 2, 1) := by decide +kernel
theorem dX3_tellGrade_11 : decode cX3_tellGrade 11 = .ok (.tableswitch 66 0 4 #[33, 40, 47, 54, 60], 33) := by decide +kernel
theorem dX3_tellGrade_44 : decode cX3_tellGrade 44 = .ok (.aload_n 0, 1) := by decide +kernel
theorem dX3_tellGrade_45 : decode cX3_tellGrade 45 = .ok (.getfield 23, 3) := by decide +kernel
theorem dX3_tellGrade_48 : decode cX3_tellGrade 48 = .ok (.iload_n 1, 1) := by decide +kernel
theorem dX3_tellGrade_49 : decode cX3_tellGrade 49 = .ok (.iaload, 1) := by decide +kernel
theorem dX3_tellGrade_50 : decode cX3_tellGrade 50 = .ok (.ireturn, 1) := by decide +kernel
theorem dX3_tellGrade_51 : decode cX3_tellGrade 51 = .ok (.aload_n 0, 1) := by decide +kernel
theorem dX3_tellGrade_52 : decode cX3_tellGrade 52 = .ok (.iload_n 1, 1) := by decide +kernel
theorem dX3_tellGrade_53 : decode cX3_tellGrade 53 = .ok (.iload_n 1, 1) := by decide +kernel
theorem dX3_tellGrade_54 : decode cX3_tellGrade 54 = .ok (.invokevirtual 209, 3) := by decide +kernel
theorem dX3_tellGrade_57 : decode cX3_tellGrade 57 = .ok (.ireturn, 1) := by decide +kernel
theorem dX3_tellGrade_58 : decode cX3_tellGrade 58 = .ok (.aload_n 0, 1) := by decide +kernel
theorem dX3_tellGrade_59 : decode cX3_tellGrade 59 = .ok (.iload_n 1, 1) := by decide +kernel
theorem dX3_tellGrade_60 : decode cX3_tellGrade 60 = .ok (.iload_n 1, 1) := by decide +kernel
theorem dX3_tellGrade_61 : decode cX3_tellGrade 61 = .ok (.invokevirtual 212, 3) := by decide +kernel
theorem dX3_tellGrade_64 : decode cX3_tellGrade 64 = .ok (.ireturn, 1) := by decide +kernel
theorem dX3_tellGrade_65 : decode cX3_tellGrade 65 = .ok (.aload_n 0, 1) := by decide +kernel
theorem dX3_tellGrade_66 : decode cX3_tellGrade 66 = .ok (.iload_n 1, 1) := by decide +kernel
theorem dX3_tellGrade_67 : decode cX3_tellGrade 67 = .ok (.invokevirtual 173, 3) := by decide +kernel
theorem dX3_tellGrade_70 : decode cX3_tellGrade 70 = .ok (.ireturn, 1) := by decide +kernel
theorem dX3_tellGrade_71 : decode cX3_tellGrade 71 = .ok (.aload_n 0, 1) := by decide +kernel
theorem dX3_tellGrade_72 : decode cX3_tellGrade 72 = .ok (.iload_n 1, 1) := by decide +kernel
theorem dX3_tellGrade_73 : decode cX3_tellGrade 73 = .ok (.invokevirtual 79, 3) := by decide +kernel
theorem dX3_tellGrade_76 : decode cX3_tellGrade 76 = .ok (.ireturn, 1) := by decide +kernel
theorem dX3_tellGrade_77 : decode cX3_tellGrade 77 = .ok (.ldc 74, 2) := by decide +kernel
theorem dX3_tellGrade_79 : decode cX3_tellGrade 79 = .ok (.ireturn, 1) := by decide +kernel
theorem dX3_tellOwner_0 : decode cX3_tellOwner 0 = .ok (.iload_n 1, 1) := by decide +kernel
theorem dX3_tellOwner_1 : decode cX3_tellOwner 1 = .ok (.invokestatic 122, 3) := by decide +kernel
theorem dX3_tellOwner_4 : decode cX3_tellOwner 4 = .ok (.ifCond .ne 6, 3) := by decide +kernel
theorem dX3_tellOwner_7 : decode cX3_tellOwner 7 = .ok (.ldc 74, 2) := by decide +kernel
theorem dX3_tellOwner_9 : decode cX3_tellOwner 9 = .ok (.ireturn, 1) := by decide +kernel
theorem dX3_tellOwner_10 : decode cX3_tellOwner 10 = .ok (.iconst 0, 1) := by decide +kernel
theorem dX3_tellOwner_11 : decode cX3_tellOwner 11 = .ok (.istore_n 3, 1) := by decide +kernel
theorem dX3_tellOwner_12 : decode cX3_tellOwner 12 = .ok (.iconst 0, 1) := by decide +kernel
theorem dX3_tellOwner_13 : decode cX3_tellOwner 13 = .ok (.istore 4, 2) := by decide +kernel
theorem dX3_tellOwner_15 : decode cX3_tellOwner 15 = .ok (.iconst 0, 1) := by decide +kernel
theorem dX3_tellOwner_16 : decode cX3_tellOwner 16 = .ok (.istore 5, 2) := by decide +kernel
theorem dX3_tellOwner_18 : decode cX3_tellOwner 18 = .ok (.iconst 0, 1) := by decide +kernel
theorem dX3_tellOwner_19 : decode cX3_tellOwner 19 = .ok (.istore 6, 2) := by decide +kernel
theorem dX3_tellOwner_21 : decode cX3_tellOwner 21 = .ok (.aload_n 0, 1) := by decide +kernel
theorem dX3_tellOwner_22 : decode cX3_tellOwner 22 = .ok (.getfield 19, 3) := by decide +kernel
theorem dX3_tellOwner_25 : decode cX3_tellOwner 25 = .ok (.astore 7, 2) := by decide +kernel
theorem dX3_tellOwner_27 : decode cX3_tellOwner 27 = .ok (.aload 7, 2) := by decide +kernel
theorem dX3_tellOwner_29 : decode cX3_tellOwner 29 = .ok (.arraylength, 1) := by decide +kernel
theorem dX3_tellOwner_30 : decode cX3_tellOwner 30 = .ok (.istore 8, 2) := by decide +kernel
theorem dX3_tellOwner_32 : decode cX3_tellOwner 32 = .ok (.iconst 0, 1) := by decide +kernel
theorem dX3_tellOwner_33 : decode cX3_tellOwner 33 = .ok (.istore 9, 2) := by decide +kernel
theorem dX3_tellOwner_35 : decode cX3_tellOwner 35 = .ok (.iload 9, 2) := by decide +kernel
theorem dX3_tellOwner_37 : decode cX3_tellOwner 37 = .ok (.iload 8, 2) := by decide +kernel
theorem dX3_tellOwner_39 : decode cX3_tellOwner 39 = .ok (.if_icmp .ge 76, 3) := by decide +kernel
theorem dX3_tellOwner_42 : decode cX3_tellOwner 42 = .ok (.aload 7, 2) := by decide +kernel
theorem dX3_tellOwner_44 : decode cX3_tellOwner 44 = .ok (.iload 9, 2) := by decide +kernel
theorem dX3_tellOwner_46 : decode cX3_tellOwner 46 = .ok (.aaload, 1) := by decide +kernel
theorem dX3_tellOwner_47 : decode cX3_tellOwner 47 = .ok (.astore 10, 2) := by decide +kernel
theorem dX3_tellOwner_49 : decode cX3_tellOwner 49 = .ok (.aload 10, 2) := by decide +kernel
theorem dX3_tellOwner_51 : decode cX3_tellOwner 51 = .ok (.invokevirtual 203, 3) := by decide +kernel
theorem dX3_tellOwner_54 : decode cX3_tellOwner 54 = .ok (.ifCond .eq 55, 3) := by decide +kernel
theorem dX3_tellOwner_57 : decode cX3_tellOwner 57 = .ok (.aload 10, 2) := by decide +kernel
theorem dX3_tellOwner_59 : decode cX3_tellOwner 59 = .ok (.getfield 107, 3) := by decide +kernel
theorem dX3_tellOwner_62 : decode cX3_tellOwner 62 = .ok (.iload_n 1, 1) := by decide +kernel
theorem dX3_tellOwner_63 : decode cX3_tellOwner 63 = .ok (.if_icmp .ne 46, 3) := by decide +kernel
theorem dX3_tellOwner_66 : decode cX3_tellOwner 66 = .ok (.iinc 3 1, 3) := by decide +kernel
theorem dX3_tellOwner_69 : decode cX3_tellOwner 69 = .ok (.iload 4, 2) := by decide +kernel
theorem dX3_tellOwner_71 : decode cX3_tellOwner 71 = .ok (.aload 10, 2) := by decide +kernel
theorem dX3_tellOwner_73 : decode cX3_tellOwner 73 = .ok (.getfield 103, 3) := by decide +kernel
theorem dX3_tellOwner_76 : decode cX3_tellOwner 76 = .ok (.iadd, 1) := by decide +kernel
theorem dX3_tellOwner_77 : decode cX3_tellOwner 77 = .ok (.istore 4, 2) := by decide +kernel
theorem dX3_tellOwner_79 : decode cX3_tellOwner 79 = .ok (.iload 5, 2) := by decide +kernel
theorem dX3_tellOwner_81 : decode cX3_tellOwner 81 = .ok (.aload 10, 2) := by decide +kernel
theorem dX3_tellOwner_83 : decode cX3_tellOwner 83 = .ok (.getfield 139, 3) := by decide +kernel
theorem dX3_tellOwner_86 : decode cX3_tellOwner 86 = .ok (.iadd, 1) := by decide +kernel
theorem dX3_tellOwner_87 : decode cX3_tellOwner 87 = .ok (.istore 5, 2) := by decide +kernel
theorem dX3_tellOwner_89 : decode cX3_tellOwner 89 = .ok (.iload 6, 2) := by decide +kernel
theorem dX3_tellOwner_91 : decode cX3_tellOwner 91 = .ok (.aload 10, 2) := by decide +kernel
theorem dX3_tellOwner_93 : decode cX3_tellOwner 93 = .ok (.getfield 103, 3) := by decide +kernel
theorem dX3_tellOwner_96 : decode cX3_tellOwner 96 = .ok (.aload_n 0, 1) := by decide +kernel
theorem dX3_tellOwner_97 : decode cX3_tellOwner 97 = .ok (.aload 10, 2) := by decide +kernel
theorem dX3_tellOwner_99 : decode cX3_tellOwner 99 = .ok (.getfield 110, 3) := by decide +kernel
theorem dX3_tellOwner_102 : decode cX3_tellOwner 102 = .ok (.invokevirtual 215, 3) := by decide +kernel
theorem dX3_tellOwner_105 : decode cX3_tellOwner 105 = .ok (.imul, 1) := by decide +kernel
theorem dX3_tellOwner_106 : decode cX3_tellOwner 106 = .ok (.iadd, 1) := by decide +kernel
theorem dX3_tellOwner_107 : decode cX3_tellOwner 107 = .ok (.istore 6, 2) := by decide +kernel
theorem dX3_tellOwner_109 : decode cX3_tellOwner 109 = .ok (.iinc 9 1, 3) := by decide +kernel
theorem dX3_tellOwner_112 : decode cX3_tellOwner 112 = .ok (.goto (-77), 3) := by decide +kernel
theorem dX3_tellOwner_115 : decode cX3_tellOwner 115 = .ok (.iload_n 2, 1) := by decide +kernel
theorem dX3_tellOwner_116 : decode cX3_tellOwner 116 = .ok (.tableswitch 64 0 4 #[36, 43, 45, 48, 51], 36) := by decide +kernel
theorem dX3_tellOwner_152 : decode cX3_tellOwner 152 = .ok (.aload_n 0, 1) := by decide +kernel
theorem dX3_tellOwner_153 : decode cX3_tellOwner 153 = .ok (.getfield 30, 3) := by decide +kernel
theorem dX3_tellOwner_156 : decode cX3_tellOwner 156 = .ok (.iload_n 1, 1) := by decide +kernel
theorem dX3_tellOwner_157 : decode cX3_tellOwner 157 = .ok (.iaload, 1) := by decide +kernel
theorem dX3_tellOwner_158 : decode cX3_tellOwner 158 = .ok (.ireturn, 1) := by decide +kernel
theorem dX3_tellOwner_159 : decode cX3_tellOwner 159 = .ok (.iload_n 3, 1) := by decide +kernel
theorem dX3_tellOwner_160 : decode cX3_tellOwner 160 = .ok (.ireturn, 1) := by decide +kernel
theorem dX3_tellOwner_161 : decode cX3_tellOwner 161 = .ok (.iload 4, 2) := by decide +kernel
theorem dX3_tellOwner_163 : decode cX3_tellOwner 163 = .ok (.ireturn, 1) := by decide +kernel
theorem dX3_tellOwner_164 : decode cX3_tellOwner 164 = .ok (.iload 5, 2) := by decide +kernel
theorem dX3_tellOwner_166 : decode cX3_tellOwner 166 = .ok (.ireturn, 1) := by decide +kernel
theorem dX3_tellOwner_167 : decode cX3_tellOwner 167 = .ok (.aload_n 0, 1) := by decide +kernel
theorem dX3_tellOwner_168 : decode cX3_tellOwner 168 = .ok (.getfield 30, 3) := by decide +kernel
theorem dX3_tellOwner_171 : decode cX3_tellOwner 171 = .ok (.iload_n 1, 1) := by decide +kernel
theorem dX3_tellOwner_172 : decode cX3_tellOwner 172 = .ok (.iaload, 1) := by decide +kernel
theorem dX3_tellOwner_173 : decode cX3_tellOwner 173 = .ok (.iload 6, 2) := by decide +kernel
theorem dX3_tellOwner_175 : decode cX3_tellOwner 175 = .ok (.iadd, 1) := by decide +kernel
theorem dX3_tellOwner_176 : decode cX3_tellOwner 176 = .ok (.iload 5, 2) := by decide +kernel
theorem dX3_tellOwner_178 : decode cX3_tellOwner 178 = .ok (.isub, 1) := by decide +kernel
theorem dX3_tellOwner_179 : decode cX3_tellOwner 179 = .ok (.ireturn, 1) := by decide +kernel
theorem dX3_tellOwner_180 : decode cX3_tellOwner 180 = .ok (.ldc 74, 2) := by decide +kernel
theorem dX3_tellOwner_182 : decode cX3_tellOwner 182 = .ok (.ireturn, 1) := by decide +kernel
theorem dX3_tellLender_0 : decode cX3_tellLender 0 = .ok (.iload_n 1, 1) := by decide +kernel
theorem dX3_tellLender_1 : decode cX3_tellLender 1 = .ok (.invokestatic 129, 3) := by decide +kernel
theorem dX3_tellLender_4 : decode cX3_tellLender 4 = .ok (.ifCond .ne 6, 3) := by decide +kernel
theorem dX3_tellLender_7 : decode cX3_tellLender 7 = .ok (.ldc 74, 2) := by decide +kernel
theorem dX3_tellLender_9 : decode cX3_tellLender 9 = .ok (.ireturn, 1) := by decide +kernel
theorem dX3_tellLender_10 : decode cX3_tellLender 10 = .ok (.iconst 0, 1) := by decide +kernel
theorem dX3_tellLender_11 : decode cX3_tellLender 11 = .ok (.istore_n 3, 1) := by decide +kernel
theorem dX3_tellLender_12 : decode cX3_tellLender 12 = .ok (.iconst 0, 1) := by decide +kernel
theorem dX3_tellLender_13 : decode cX3_tellLender 13 = .ok (.istore 4, 2) := by decide +kernel
theorem dX3_tellLender_15 : decode cX3_tellLender 15 = .ok (.iconst 0, 1) := by decide +kernel
theorem dX3_tellLender_16 : decode cX3_tellLender 16 = .ok (.istore 5, 2) := by decide +kernel
theorem dX3_tellLender_18 : decode cX3_tellLender 18 = .ok (.iconst 0, 1) := by decide +kernel
theorem dX3_tellLender_19 : decode cX3_tellLender 19 = .ok (.istore 6, 2) := by decide +kernel
theorem dX3_tellLender_21 : decode cX3_tellLender 21 = .ok (.iconst 0, 1) := by decide +kernel
theorem dX3_tellLender_22 : decode cX3_tellLender 22 = .ok (.istore 7, 2) := by decide +kernel
theorem dX3_tellLender_24 : decode cX3_tellLender 24 = .ok (.aload_n 0, 1) := by decide +kernel
theorem dX3_tellLender_25 : decode cX3_tellLender 25 = .ok (.getfield 19, 3) := by decide +kernel
theorem dX3_tellLender_28 : decode cX3_tellLender 28 = .ok (.astore 8, 2) := by decide +kernel
theorem dX3_tellLender_30 : decode cX3_tellLender 30 = .ok (.aload 8, 2) := by decide +kernel
theorem dX3_tellLender_32 : decode cX3_tellLender 32 = .ok (.arraylength, 1) := by decide +kernel
theorem dX3_tellLender_33 : decode cX3_tellLender 33 = .ok (.istore 9, 2) := by decide +kernel
theorem dX3_tellLender_35 : decode cX3_tellLender 35 = .ok (.iconst 0, 1) := by decide +kernel
theorem dX3_tellLender_36 : decode cX3_tellLender 36 = .ok (.istore 10, 2) := by decide +kernel
theorem dX3_tellLender_38 : decode cX3_tellLender 38 = .ok (.iload 10, 2) := by decide +kernel
theorem dX3_tellLender_40 : decode cX3_tellLender 40 = .ok (.iload 9, 2) := by decide +kernel
theorem dX3_tellLender_42 : decode cX3_tellLender 42 = .ok (.if_icmp .ge 93, 3) := by decide +kernel
theorem dX3_tellLender_45 : decode cX3_tellLender 45 = .ok (.aload 8, 2) := by decide +kernel
theorem dX3_tellLender_47 : decode cX3_tellLender 47 = .ok (.iload 10, 2) := by decide +kernel
theorem dX3_tellLender_49 : decode cX3_tellLender 49 = .ok (.aaload, 1) := by decide +kernel
theorem dX3_tellLender_50 : decode cX3_tellLender 50 = .ok (.astore 11, 2) := by decide +kernel
theorem dX3_tellLender_52 : decode cX3_tellLender 52 = .ok (.aload 11, 2) := by decide +kernel
theorem dX3_tellLender_54 : decode cX3_tellLender 54 = .ok (.getfield 136, 3) := by decide +kernel
theorem dX3_tellLender_57 : decode cX3_tellLender 57 = .ok (.iload_n 1, 1) := by decide +kernel
theorem dX3_tellLender_58 : decode cX3_tellLender 58 = .ok (.if_icmp .ne 71, 3) := by decide +kernel
theorem dX3_tellLender_61 : decode cX3_tellLender 61 = .ok (.iinc 3 1, 3) := by decide +kernel
theorem dX3_tellLender_64 : decode cX3_tellLender 64 = .ok (.iload 4, 2) := by decide +kernel
theorem dX3_tellLender_66 : decode cX3_tellLender 66 = .ok (.aload 11, 2) := by decide +kernel
theorem dX3_tellLender_68 : decode cX3_tellLender 68 = .ok (.getfield 139, 3) := by decide +kernel
theorem dX3_tellLender_71 : decode cX3_tellLender 71 = .ok (.iadd, 1) := by decide +kernel
theorem dX3_tellLender_72 : decode cX3_tellLender 72 = .ok (.istore 4, 2) := by decide +kernel
theorem dX3_tellLender_74 : decode cX3_tellLender 74 = .ok (.iload 5, 2) := by decide +kernel
theorem dX3_tellLender_76 : decode cX3_tellLender 76 = .ok (.aload_n 0, 1) := by decide +kernel
theorem dX3_tellLender_77 : decode cX3_tellLender 77 = .ok (.aload 11, 2) := by decide +kernel
theorem dX3_tellLender_79 : decode cX3_tellLender 79 = .ok (.invokevirtual 185, 3) := by decide +kernel
theorem dX3_tellLender_82 : decode cX3_tellLender 82 = .ok (.iadd, 1) := by decide +kernel
theorem dX3_tellLender_83 : decode cX3_tellLender 83 = .ok (.istore 5, 2) := by decide +kernel
theorem dX3_tellLender_85 : decode cX3_tellLender 85 = .ok (.iload 6, 2) := by decide +kernel
theorem dX3_tellLender_87 : decode cX3_tellLender 87 = .ok (.aload 11, 2) := by decide +kernel
theorem dX3_tellLender_89 : decode cX3_tellLender 89 = .ok (.invokevirtual 189, 3) := by decide +kernel
theorem dX3_tellLender_92 : decode cX3_tellLender 92 = .ok (.ifCond .eq 7, 3) := by decide +kernel
theorem dX3_tellLender_95 : decode cX3_tellLender 95 = .ok (.iconst 1, 1) := by decide +kernel
theorem dX3_tellLender_96 : decode cX3_tellLender 96 = .ok (.goto 4, 3) := by decide +kernel
theorem dX3_tellLender_99 : decode cX3_tellLender 99 = .ok (.iconst 0, 1) := by decide +kernel
theorem dX3_tellLender_100 : decode cX3_tellLender 100 = .ok (.iadd, 1) := by decide +kernel
theorem dX3_tellLender_101 : decode cX3_tellLender 101 = .ok (.istore 6, 2) := by decide +kernel
theorem dX3_tellLender_103 : decode cX3_tellLender 103 = .ok (.iload 7, 2) := by decide +kernel
theorem dX3_tellLender_105 : decode cX3_tellLender 105 = .ok (.aload_n 0, 1) := by decide +kernel
theorem dX3_tellLender_106 : decode cX3_tellLender 106 = .ok (.aload 11, 2) := by decide +kernel
theorem dX3_tellLender_108 : decode cX3_tellLender 108 = .ok (.iload_n 1, 1) := by decide +kernel
theorem dX3_tellLender_109 : decode cX3_tellLender 109 = .ok (.aload_n 0, 1) := by decide +kernel
theorem dX3_tellLender_110 : decode cX3_tellLender 110 = .ok (.getfield 23, 3) := by decide +kernel
theorem dX3_tellLender_113 : decode cX3_tellLender 113 = .ok (.iconst 2, 1) := by decide +kernel
theorem dX3_tellLender_114 : decode cX3_tellLender 114 = .ok (.iaload, 1) := by decide +kernel
theorem dX3_tellLender_115 : decode cX3_tellLender 115 = .ok (.invokevirtual 158, 3) := by decide +kernel
theorem dX3_tellLender_118 : decode cX3_tellLender 118 = .ok (.ifCond .eq 7, 3) := by decide +kernel
theorem dX3_tellLender_121 : decode cX3_tellLender 121 = .ok (.iconst 1, 1) := by decide +kernel
theorem dX3_tellLender_122 : decode cX3_tellLender 122 = .ok (.goto 4, 3) := by decide +kernel
theorem dX3_tellLender_125 : decode cX3_tellLender 125 = .ok (.iconst 0, 1) := by decide +kernel
theorem dX3_tellLender_126 : decode cX3_tellLender 126 = .ok (.iadd, 1) := by decide +kernel
theorem dX3_tellLender_127 : decode cX3_tellLender 127 = .ok (.istore 7, 2) := by decide +kernel
theorem dX3_tellLender_129 : decode cX3_tellLender 129 = .ok (.iinc 10 1, 3) := by decide +kernel
theorem dX3_tellLender_132 : decode cX3_tellLender 132 = .ok (.goto (-94), 3) := by decide +kernel
theorem dX3_tellLender_135 : decode cX3_tellLender 135 = .ok (.iload_n 2, 1) := by decide +kernel
theorem dX3_tellLender_136 : decode cX3_tellLender 136 = .ok (.tableswitch 61 0 5 #[40, 42, 45, 48, 51, 58], 40) := by decide +kernel
theorem dX3_tellLender_176 : decode cX3_tellLender 176 = .ok (.iload_n 3, 1) := by decide +kernel
theorem dX3_tellLender_177 : decode cX3_tellLender 177 = .ok (.ireturn, 1) := by decide +kernel
theorem dX3_tellLender_178 : decode cX3_tellLender 178 = .ok (.iload 4, 2) := by decide +kernel
theorem dX3_tellLender_180 : decode cX3_tellLender 180 = .ok (.ireturn, 1) := by decide +kernel
theorem dX3_tellLender_181 : decode cX3_tellLender 181 = .ok (.iload 5, 2) := by decide +kernel
theorem dX3_tellLender_183 : decode cX3_tellLender 183 = .ok (.ireturn, 1) := by decide +kernel
theorem dX3_tellLender_184 : decode cX3_tellLender 184 = .ok (.iload 6, 2) := by decide +kernel
theorem dX3_tellLender_186 : decode cX3_tellLender 186 = .ok (.ireturn, 1) := by decide +kernel
theorem dX3_tellLender_187 : decode cX3_tellLender 187 = .ok (.aload_n 0, 1) := by decide +kernel
theorem dX3_tellLender_188 : decode cX3_tellLender 188 = .ok (.getfield 33, 3) := by decide +kernel
theorem dX3_tellLender_191 : decode cX3_tellLender 191 = .ok (.iload_n 1, 1) := by decide +kernel
theorem dX3_tellLender_192 : decode cX3_tellLender 192 = .ok (.iaload, 1) := by decide +kernel
theorem dX3_tellLender_193 : decode cX3_tellLender 193 = .ok (.ireturn, 1) := by decide +kernel
theorem dX3_tellLender_194 : decode cX3_tellLender 194 = .ok (.iload 7, 2) := by decide +kernel
theorem dX3_tellLender_196 : decode cX3_tellLender 196 = .ok (.ireturn, 1) := by decide +kernel
theorem dX3_tellLender_197 : decode cX3_tellLender 197 = .ok (.ldc 74, 2) := by decide +kernel
theorem dX3_tellLender_199 : decode cX3_tellLender 199 = .ok (.ireturn, 1) := by decide +kernel
theorem dX3_greatestCallingPrice_0 : decode cX3_greatestCallingPrice 0 = .ok (.iload_n 1, 1) := by decide +kernel
theorem dX3_greatestCallingPrice_1 : decode cX3_greatestCallingPrice 1 = .ok (.invokestatic 129, 3) := by decide +kernel
theorem dX3_greatestCallingPrice_4 : decode cX3_greatestCallingPrice 4 = .ok (.ifCond .ne 6, 3) := by decide +kernel
theorem dX3_greatestCallingPrice_7 : decode cX3_greatestCallingPrice 7 = .ok (.ldc 74, 2) := by decide +kernel
theorem dX3_greatestCallingPrice_9 : decode cX3_greatestCallingPrice 9 = .ok (.ireturn, 1) := by decide +kernel
theorem dX3_greatestCallingPrice_10 : decode cX3_greatestCallingPrice 10 = .ok (.bipush 99, 2) := by decide +kernel
theorem dX3_greatestCallingPrice_12 : decode cX3_greatestCallingPrice 12 = .ok (.istore_n 2, 1) := by decide +kernel
theorem dX3_greatestCallingPrice_13 : decode cX3_greatestCallingPrice 13 = .ok (.iload_n 2, 1) := by decide +kernel
theorem dX3_greatestCallingPrice_14 : decode cX3_greatestCallingPrice 14 = .ok (.iconst 1, 1) := by decide +kernel
theorem dX3_greatestCallingPrice_15 : decode cX3_greatestCallingPrice 15 = .ok (.if_icmp .lt 53, 3) := by decide +kernel
theorem dX3_greatestCallingPrice_18 : decode cX3_greatestCallingPrice 18 = .ok (.aload_n 0, 1) := by decide +kernel
theorem dX3_greatestCallingPrice_19 : decode cX3_greatestCallingPrice 19 = .ok (.getfield 19, 3) := by decide +kernel
theorem dX3_greatestCallingPrice_22 : decode cX3_greatestCallingPrice 22 = .ok (.astore_n 3, 1) := by decide +kernel
theorem dX3_greatestCallingPrice_23 : decode cX3_greatestCallingPrice 23 = .ok (.aload_n 3, 1) := by decide +kernel
theorem dX3_greatestCallingPrice_24 : decode cX3_greatestCallingPrice 24 = .ok (.arraylength, 1) := by decide +kernel
theorem dX3_greatestCallingPrice_25 : decode cX3_greatestCallingPrice 25 = .ok (.istore 4, 2) := by decide +kernel
theorem dX3_greatestCallingPrice_27 : decode cX3_greatestCallingPrice 27 = .ok (.iconst 0, 1) := by decide +kernel
theorem dX3_greatestCallingPrice_28 : decode cX3_greatestCallingPrice 28 = .ok (.istore 5, 2) := by decide +kernel
theorem dX3_greatestCallingPrice_30 : decode cX3_greatestCallingPrice 30 = .ok (.iload 5, 2) := by decide +kernel
theorem dX3_greatestCallingPrice_32 : decode cX3_greatestCallingPrice 32 = .ok (.iload 4, 2) := by decide +kernel
theorem dX3_greatestCallingPrice_34 : decode cX3_greatestCallingPrice 34 = .ok (.if_icmp .ge 28, 3) := by decide +kernel
theorem dX3_greatestCallingPrice_37 : decode cX3_greatestCallingPrice 37 = .ok (.aload_n 3, 1) := by decide +kernel
theorem dX3_greatestCallingPrice_38 : decode cX3_greatestCallingPrice 38 = .ok (.iload 5, 2) := by decide +kernel
theorem dX3_greatestCallingPrice_40 : decode cX3_greatestCallingPrice 40 = .ok (.aaload, 1) := by decide +kernel
theorem dX3_greatestCallingPrice_41 : decode cX3_greatestCallingPrice 41 = .ok (.astore 6, 2) := by decide +kernel
theorem dX3_greatestCallingPrice_43 : decode cX3_greatestCallingPrice 43 = .ok (.aload_n 0, 1) := by decide +kernel
theorem dX3_greatestCallingPrice_44 : decode cX3_greatestCallingPrice 44 = .ok (.aload 6, 2) := by decide +kernel
theorem dX3_greatestCallingPrice_46 : decode cX3_greatestCallingPrice 46 = .ok (.iload_n 1, 1) := by decide +kernel
theorem dX3_greatestCallingPrice_47 : decode cX3_greatestCallingPrice 47 = .ok (.iload_n 2, 1) := by decide +kernel
theorem dX3_greatestCallingPrice_48 : decode cX3_greatestCallingPrice 48 = .ok (.invokevirtual 158, 3) := by decide +kernel
theorem dX3_greatestCallingPrice_51 : decode cX3_greatestCallingPrice 51 = .ok (.ifCond .eq 5, 3) := by decide +kernel
theorem dX3_greatestCallingPrice_54 : decode cX3_greatestCallingPrice 54 = .ok (.iload_n 2, 1) := by decide +kernel
theorem dX3_greatestCallingPrice_55 : decode cX3_greatestCallingPrice 55 = .ok (.ireturn, 1) := by decide +kernel
theorem dX3_greatestCallingPrice_56 : decode cX3_greatestCallingPrice 56 = .ok (.iinc 5 1, 3) := by decide +kernel
theorem dX3_greatestCallingPrice_59 : decode cX3_greatestCallingPrice 59 = .ok (.goto (-29), 3) := by decide +kernel
theorem dX3_greatestCallingPrice_62 : decode cX3_greatestCallingPrice 62 = .ok (.iinc 2 (-1), 3) := by decide +kernel
theorem dX3_greatestCallingPrice_65 : decode cX3_greatestCallingPrice 65 = .ok (.goto (-52), 3) := by decide +kernel
theorem dX3_greatestCallingPrice_68 : decode cX3_greatestCallingPrice 68 = .ok (.ldc 188, 2) := by decide +kernel
theorem dX3_greatestCallingPrice_70 : decode cX3_greatestCallingPrice 70 = .ok (.ireturn, 1) := by decide +kernel
theorem dX3_tellNumber_0 : decode cX3_tellNumber 0 = .ok (.iload_n 1, 1) := by decide +kernel
theorem dX3_tellNumber_1 : decode cX3_tellNumber 1 = .ok (.tableswitch 187 0 23 #[111, 120, 127, 134, 139, 144, 149, 154, 187, 187, 187, 187, 187, 187, 187, 187, 187, 187, 187, 187, 159, 166, 173, 180], 111) := by decide +kernel
theorem dX3_tellNumber_112 : decode cX3_tellNumber 112 = .ok (.aload_n 0, 1) := by decide +kernel
theorem dX3_tellNumber_113 : decode cX3_tellNumber 113 = .ok (.aload_n 0, 1) := by decide +kernel
theorem dX3_tellNumber_114 : decode cX3_tellNumber 114 = .ok (.getfield 58, 3) := by decide +kernel
theorem dX3_tellNumber_117 : decode cX3_tellNumber 117 = .ok (.invokevirtual 206, 3) := by decide +kernel
theorem dX3_tellNumber_120 : decode cX3_tellNumber 120 = .ok (.ireturn, 1) := by decide +kernel
theorem dX3_tellNumber_121 : decode cX3_tellNumber 121 = .ok (.aload_n 0, 1) := by decide +kernel
theorem dX3_tellNumber_122 : decode cX3_tellNumber 122 = .ok (.iconst 0, 1) := by decide +kernel
theorem dX3_tellNumber_123 : decode cX3_tellNumber 123 = .ok (.iconst 2, 1) := by decide +kernel
theorem dX3_tellNumber_124 : decode cX3_tellNumber 124 = .ok (.invokevirtual 212, 3) := by decide +kernel
theorem dX3_tellNumber_127 : decode cX3_tellNumber 127 = .ok (.ireturn, 1) := by decide +kernel
theorem dX3_tellNumber_128 : decode cX3_tellNumber 128 = .ok (.aload_n 0, 1) := by decide +kernel
theorem dX3_tellNumber_129 : decode cX3_tellNumber 129 = .ok (.iconst 0, 1) := by decide +kernel
theorem dX3_tellNumber_130 : decode cX3_tellNumber 130 = .ok (.iconst 2, 1) := by decide +kernel
theorem dX3_tellNumber_131 : decode cX3_tellNumber 131 = .ok (.invokevirtual 209, 3) := by decide +kernel
theorem dX3_tellNumber_134 : decode cX3_tellNumber 134 = .ok (.ireturn, 1) := by decide +kernel
theorem dX3_tellNumber_135 : decode cX3_tellNumber 135 = .ok (.aload_n 0, 1) := by decide +kernel
theorem dX3_tellNumber_136 : decode cX3_tellNumber 136 = .ok (.getfield 55, 3) := by decide +kernel
theorem dX3_tellNumber_139 : decode cX3_tellNumber 139 = .ok (.ireturn, 1) := by decide +kernel
theorem dX3_tellNumber_140 : decode cX3_tellNumber 140 = .ok (.aload_n 0, 1) := by decide +kernel
theorem dX3_tellNumber_141 : decode cX3_tellNumber 141 = .ok (.getfield 58, 3) := by decide +kernel
theorem dX3_tellNumber_144 : decode cX3_tellNumber 144 = .ok (.ireturn, 1) := by decide +kernel
theorem dX3_tellNumber_145 : decode cX3_tellNumber 145 = .ok (.aload_n 0, 1) := by decide +kernel
theorem dX3_tellNumber_146 : decode cX3_tellNumber 146 = .ok (.getfield 61, 3) := by decide +kernel
theorem dX3_tellNumber_149 : decode cX3_tellNumber 149 = .ok (.ireturn, 1) := by decide +kernel
theorem dX3_tellNumber_150 : decode cX3_tellNumber 150 = .ok (.aload_n 0, 1) := by decide +kernel
theorem dX3_tellNumber_151 : decode cX3_tellNumber 151 = .ok (.getfield 64, 3) := by decide +kernel
theorem dX3_tellNumber_154 : decode cX3_tellNumber 154 = .ok (.ireturn, 1) := by decide +kernel
theorem dX3_tellNumber_155 : decode cX3_tellNumber 155 = .ok (.aload_n 0, 1) := by decide +kernel
theorem dX3_tellNumber_156 : decode cX3_tellNumber 156 = .ok (.getfield 67, 3) := by decide +kernel
theorem dX3_tellNumber_159 : decode cX3_tellNumber 159 = .ok (.ireturn, 1) := by decide +kernel
theorem dX3_tellNumber_160 : decode cX3_tellNumber 160 = .ok (.aload_n 0, 1) := by decide +kernel
theorem dX3_tellNumber_161 : decode cX3_tellNumber 161 = .ok (.getfield 27, 3) := by decide +kernel
theorem dX3_tellNumber_164 : decode cX3_tellNumber 164 = .ok (.iconst 0, 1) := by decide +kernel
theorem dX3_tellNumber_165 : decode cX3_tellNumber 165 = .ok (.iaload, 1) := by decide +kernel
theorem dX3_tellNumber_166 : decode cX3_tellNumber 166 = .ok (.ireturn, 1) := by decide +kernel
theorem dX3_tellNumber_167 : decode cX3_tellNumber 167 = .ok (.aload_n 0, 1) := by decide +kernel
theorem dX3_tellNumber_168 : decode cX3_tellNumber 168 = .ok (.getfield 27, 3) := by decide +kernel
theorem dX3_tellNumber_171 : decode cX3_tellNumber 171 = .ok (.iconst 1, 1) := by decide +kernel
theorem dX3_tellNumber_172 : decode cX3_tellNumber 172 = .ok (.iaload, 1) := by decide +kernel
theorem dX3_tellNumber_173 : decode cX3_tellNumber 173 = .ok (.ireturn, 1) := by decide +kernel
theorem dX3_tellNumber_174 : decode cX3_tellNumber 174 = .ok (.aload_n 0, 1) := by decide +kernel
theorem dX3_tellNumber_175 : decode cX3_tellNumber 175 = .ok (.getfield 27, 3) := by decide +kernel
theorem dX3_tellNumber_178 : decode cX3_tellNumber 178 = .ok (.iconst 2, 1) := by decide +kernel
theorem dX3_tellNumber_179 : decode cX3_tellNumber 179 = .ok (.iaload, 1) := by decide +kernel
theorem dX3_tellNumber_180 : decode cX3_tellNumber 180 = .ok (.ireturn, 1) := by decide +kernel
theorem dX3_tellNumber_181 : decode cX3_tellNumber 181 = .ok (.aload_n 0, 1) := by decide +kernel
theorem dX3_tellNumber_182 : decode cX3_tellNumber 182 = .ok (.getfield 27, 3) := by decide +kernel
theorem dX3_tellNumber_185 : decode cX3_tellNumber 185 = .ok (.iconst 3, 1) := by decide +kernel
theorem dX3_tellNumber_186 : decode cX3_tellNumber 186 = .ok (.iaload, 1) := by decide +kernel
theorem dX3_tellNumber_187 : decode cX3_tellNumber 187 = .ok (.ireturn, 1) := by decide +kernel
theorem dX3_tellNumber_188 : decode cX3_tellNumber 188 = .ok (.ldc 74, 2) := by decide +kernel
theorem dX3_tellNumber_190 : decode cX3_tellNumber 190 = .ok (.ireturn, 1) := by decide +kernel
theorem dX3_grainOf_0 : decode cX3_grainOf 0 = .ok (.iconst 0, 1) := by decide +kernel
theorem dX3_grainOf_1 : decode cX3_grainOf 1 = .ok (.istore_n 3, 1) := by decide +kernel
theorem dX3_grainOf_2 : decode cX3_grainOf 2 = .ok (.aload_n 0, 1) := by decide +kernel
theorem dX3_grainOf_3 : decode cX3_grainOf 3 = .ok (.getfield 11, 3) := by decide +kernel
theorem dX3_grainOf_6 : decode cX3_grainOf 6 = .ok (.astore 4, 2) := by decide +kernel
theorem dX3_grainOf_8 : decode cX3_grainOf 8 = .ok (.aload 4, 2) := by decide +kernel
theorem dX3_grainOf_10 : decode cX3_grainOf 10 = .ok (.arraylength, 1) := by decide +kernel
theorem dX3_grainOf_11 : decode cX3_grainOf 11 = .ok (.istore 5, 2) := by decide +kernel
theorem dX3_grainOf_13 : decode cX3_grainOf 13 = .ok (.iconst 0, 1) := by decide +kernel
theorem dX3_grainOf_14 : decode cX3_grainOf 14 = .ok (.istore 6, 2) := by decide +kernel
theorem dX3_grainOf_16 : decode cX3_grainOf 16 = .ok (.iload 6, 2) := by decide +kernel
theorem dX3_grainOf_18 : decode cX3_grainOf 18 = .ok (.iload 5, 2) := by decide +kernel
theorem dX3_grainOf_20 : decode cX3_grainOf 20 = .ok (.if_icmp .ge 42, 3) := by decide +kernel
theorem dX3_grainOf_23 : decode cX3_grainOf 23 = .ok (.aload 4, 2) := by decide +kernel
theorem dX3_grainOf_25 : decode cX3_grainOf 25 = .ok (.iload 6, 2) := by decide +kernel
theorem dX3_grainOf_27 : decode cX3_grainOf 27 = .ok (.aaload, 1) := by decide +kernel
theorem dX3_grainOf_28 : decode cX3_grainOf 28 = .ok (.astore 7, 2) := by decide +kernel
theorem dX3_grainOf_30 : decode cX3_grainOf 30 = .ok (.aload 7, 2) := by decide +kernel
theorem dX3_grainOf_32 : decode cX3_grainOf 32 = .ok (.getfield 37, 3) := by decide +kernel
theorem dX3_grainOf_35 : decode cX3_grainOf 35 = .ok (.iload_n 1, 1) := by decide +kernel
theorem dX3_grainOf_36 : decode cX3_grainOf 36 = .ok (.if_icmp .lt 20, 3) := by decide +kernel
theorem dX3_grainOf_39 : decode cX3_grainOf 39 = .ok (.aload 7, 2) := by decide +kernel
theorem dX3_grainOf_41 : decode cX3_grainOf 41 = .ok (.getfield 37, 3) := by decide +kernel
theorem dX3_grainOf_44 : decode cX3_grainOf 44 = .ok (.iload_n 2, 1) := by decide +kernel
theorem dX3_grainOf_45 : decode cX3_grainOf 45 = .ok (.if_icmp .gt 11, 3) := by decide +kernel
theorem dX3_grainOf_48 : decode cX3_grainOf 48 = .ok (.iload_n 3, 1) := by decide +kernel
theorem dX3_grainOf_49 : decode cX3_grainOf 49 = .ok (.aload 7, 2) := by decide +kernel
theorem dX3_grainOf_51 : decode cX3_grainOf 51 = .ok (.getfield 172, 3) := by decide +kernel
theorem dX3_grainOf_54 : decode cX3_grainOf 54 = .ok (.iadd, 1) := by decide +kernel
theorem dX3_grainOf_55 : decode cX3_grainOf 55 = .ok (.istore_n 3, 1) := by decide +kernel
theorem dX3_grainOf_56 : decode cX3_grainOf 56 = .ok (.iinc 6 1, 3) := by decide +kernel
theorem dX3_grainOf_59 : decode cX3_grainOf 59 = .ok (.goto (-43), 3) := by decide +kernel
theorem dX3_grainOf_62 : decode cX3_grainOf 62 = .ok (.iload_n 3, 1) := by decide +kernel
theorem dX3_grainOf_63 : decode cX3_grainOf 63 = .ok (.ireturn, 1) := by decide +kernel
theorem dX3_roomIn_0 : decode cX3_roomIn 0 = .ok (.iconst 0, 1) := by decide +kernel
theorem dX3_roomIn_1 : decode cX3_roomIn 1 = .ok (.istore_n 2, 1) := by decide +kernel
theorem dX3_roomIn_2 : decode cX3_roomIn 2 = .ok (.aload_n 0, 1) := by decide +kernel
theorem dX3_roomIn_3 : decode cX3_roomIn 3 = .ok (.getfield 11, 3) := by decide +kernel
theorem dX3_roomIn_6 : decode cX3_roomIn 6 = .ok (.astore_n 3, 1) := by decide +kernel
theorem dX3_roomIn_7 : decode cX3_roomIn 7 = .ok (.aload_n 3, 1) := by decide +kernel
theorem dX3_roomIn_8 : decode cX3_roomIn 8 = .ok (.arraylength, 1) := by decide +kernel
theorem dX3_roomIn_9 : decode cX3_roomIn 9 = .ok (.istore 4, 2) := by decide +kernel
theorem dX3_roomIn_11 : decode cX3_roomIn 11 = .ok (.iconst 0, 1) := by decide +kernel
theorem dX3_roomIn_12 : decode cX3_roomIn 12 = .ok (.istore 5, 2) := by decide +kernel
theorem dX3_roomIn_14 : decode cX3_roomIn 14 = .ok (.iload 5, 2) := by decide +kernel
theorem dX3_roomIn_16 : decode cX3_roomIn 16 = .ok (.iload 4, 2) := by decide +kernel
theorem dX3_roomIn_18 : decode cX3_roomIn 18 = .ok (.if_icmp .ge 36, 3) := by decide +kernel
theorem dX3_roomIn_21 : decode cX3_roomIn 21 = .ok (.aload_n 3, 1) := by decide +kernel
theorem dX3_roomIn_22 : decode cX3_roomIn 22 = .ok (.iload 5, 2) := by decide +kernel
theorem dX3_roomIn_24 : decode cX3_roomIn 24 = .ok (.aaload, 1) := by decide +kernel
theorem dX3_roomIn_25 : decode cX3_roomIn 25 = .ok (.astore 6, 2) := by decide +kernel
theorem dX3_roomIn_27 : decode cX3_roomIn 27 = .ok (.aload 6, 2) := by decide +kernel
theorem dX3_roomIn_29 : decode cX3_roomIn 29 = .ok (.getfield 37, 3) := by decide +kernel
theorem dX3_roomIn_32 : decode cX3_roomIn 32 = .ok (.iload_n 1, 1) := by decide +kernel
theorem dX3_roomIn_33 : decode cX3_roomIn 33 = .ok (.if_icmp .ne 15, 3) := by decide +kernel
theorem dX3_roomIn_36 : decode cX3_roomIn 36 = .ok (.iload_n 2, 1) := by decide +kernel
theorem dX3_roomIn_37 : decode cX3_roomIn 37 = .ok (.sipush 2000, 3) := by decide +kernel
theorem dX3_roomIn_40 : decode cX3_roomIn 40 = .ok (.aload 6, 2) := by decide +kernel
theorem dX3_roomIn_42 : decode cX3_roomIn 42 = .ok (.getfield 172, 3) := by decide +kernel
theorem dX3_roomIn_45 : decode cX3_roomIn 45 = .ok (.isub, 1) := by decide +kernel
theorem dX3_roomIn_46 : decode cX3_roomIn 46 = .ok (.iadd, 1) := by decide +kernel
theorem dX3_roomIn_47 : decode cX3_roomIn 47 = .ok (.istore_n 2, 1) := by decide +kernel
theorem dX3_roomIn_48 : decode cX3_roomIn 48 = .ok (.iinc 5 1, 3) := by decide +kernel
theorem dX3_roomIn_51 : decode cX3_roomIn 51 = .ok (.goto (-37), 3) := by decide +kernel
theorem dX3_roomIn_54 : decode cX3_roomIn 54 = .ok (.iload_n 2, 1) := by decide +kernel
theorem dX3_roomIn_55 : decode cX3_roomIn 55 = .ok (.ireturn, 1) := by decide +kernel
theorem dX3_surplus_0 : decode cX3_surplus 0 = .ok (.aload_n 0, 1) := by decide +kernel
theorem dX3_surplus_1 : decode cX3_surplus 1 = .ok (.iconst 0, 1) := by decide +kernel
theorem dX3_surplus_2 : decode cX3_surplus 2 = .ok (.iload_n 1, 1) := by decide +kernel
theorem dX3_surplus_3 : decode cX3_surplus 3 = .ok (.invokevirtual 209, 3) := by decide +kernel
theorem dX3_surplus_6 : decode cX3_surplus 6 = .ok (.aload_n 0, 1) := by decide +kernel
theorem dX3_surplus_7 : decode cX3_surplus 7 = .ok (.iconst 0, 1) := by decide +kernel
theorem dX3_surplus_8 : decode cX3_surplus 8 = .ok (.iload_n 1, 1) := by decide +kernel
theorem dX3_surplus_9 : decode cX3_surplus 9 = .ok (.invokevirtual 212, 3) := by decide +kernel
theorem dX3_surplus_12 : decode cX3_surplus 12 = .ok (.isub, 1) := by decide +kernel
theorem dX3_surplus_13 : decode cX3_surplus 13 = .ok (.ireturn, 1) := by decide +kernel
theorem dX3_greatestLoss_0 : decode cX3_greatestLoss 0 = .ok (.aload_n 1, 1) := by decide +kernel
theorem dX3_greatestLoss_1 : decode cX3_greatestLoss 1 = .ok (.getfield 172, 3) := by decide +kernel
theorem dX3_greatestLoss_4 : decode cX3_greatestLoss 4 = .ok (.istore_n 2, 1) := by decide +kernel
theorem dX3_greatestLoss_5 : decode cX3_greatestLoss 5 = .ok (.aload_n 1, 1) := by decide +kernel
theorem dX3_greatestLoss_6 : decode cX3_greatestLoss 6 = .ok (.getfield 37, 3) := by decide +kernel
theorem dX3_greatestLoss_9 : decode cX3_greatestLoss 9 = .ok (.istore_n 3, 1) := by decide +kernel
theorem dX3_greatestLoss_10 : decode cX3_greatestLoss 10 = .ok (.iload_n 3, 1) := by decide +kernel
theorem dX3_greatestLoss_11 : decode cX3_greatestLoss 11 = .ok (.iconst 3, 1) := by decide +kernel
theorem dX3_greatestLoss_12 : decode cX3_greatestLoss 12 = .ok (.if_icmp .ge 19, 3) := by decide +kernel
theorem dX3_greatestLoss_15 : decode cX3_greatestLoss 15 = .ok (.iload_n 2, 1) := by decide +kernel
theorem dX3_greatestLoss_16 : decode cX3_greatestLoss 16 = .ok (.aload_n 0, 1) := by decide +kernel
theorem dX3_greatestLoss_17 : decode cX3_greatestLoss 17 = .ok (.iload_n 3, 1) := by decide +kernel
theorem dX3_greatestLoss_18 : decode cX3_greatestLoss 18 = .ok (.invokevirtual 173, 3) := by decide +kernel
theorem dX3_greatestLoss_21 : decode cX3_greatestLoss 21 = .ok (.invokestatic 218, 3) := by decide +kernel
theorem dX3_greatestLoss_24 : decode cX3_greatestLoss 24 = .ok (.istore_n 2, 1) := by decide +kernel
theorem dX3_greatestLoss_25 : decode cX3_greatestLoss 25 = .ok (.iinc 3 1, 3) := by decide +kernel
theorem dX3_greatestLoss_28 : decode cX3_greatestLoss 28 = .ok (.goto (-18), 3) := by decide +kernel
theorem dX3_greatestLoss_31 : decode cX3_greatestLoss 31 = .ok (.iload_n 2, 1) := by decide +kernel
theorem dX3_greatestLoss_32 : decode cX3_greatestLoss 32 = .ok (.ireturn, 1) := by decide +kernel
theorem dX3_fillBins_0 : decode cX3_fillBins 0 = .ok (.iload_n 2, 1) := by decide +kernel
theorem dX3_fillBins_1 : decode cX3_fillBins 1 = .ok (.istore_n 3, 1) := by decide +kernel
theorem dX3_fillBins_2 : decode cX3_fillBins 2 = .ok (.aload_n 0, 1) := by decide +kernel
theorem dX3_fillBins_3 : decode cX3_fillBins 3 = .ok (.getfield 11, 3) := by decide +kernel
theorem dX3_fillBins_6 : decode cX3_fillBins 6 = .ok (.astore 4, 2) := by decide +kernel
theorem dX3_fillBins_8 : decode cX3_fillBins 8 = .ok (.aload 4, 2) := by decide +kernel
theorem dX3_fillBins_10 : decode cX3_fillBins 10 = .ok (.arraylength, 1) := by decide +kernel
theorem dX3_fillBins_11 : decode cX3_fillBins 11 = .ok (.istore 5, 2) := by decide +kernel
theorem dX3_fillBins_13 : decode cX3_fillBins 13 = .ok (.iconst 0, 1) := by decide +kernel
theorem dX3_fillBins_14 : decode cX3_fillBins 14 = .ok (.istore 6, 2) := by decide +kernel
theorem dX3_fillBins_16 : decode cX3_fillBins 16 = .ok (.iload 6, 2) := by decide +kernel
theorem dX3_fillBins_18 : decode cX3_fillBins 18 = .ok (.iload 5, 2) := by decide +kernel
theorem dX3_fillBins_20 : decode cX3_fillBins 20 = .ok (.if_icmp .ge 57, 3) := by decide +kernel
theorem dX3_fillBins_23 : decode cX3_fillBins 23 = .ok (.aload 4, 2) := by decide +kernel
theorem dX3_fillBins_25 : decode cX3_fillBins 25 = .ok (.iload 6, 2) := by decide +kernel
theorem dX3_fillBins_27 : decode cX3_fillBins 27 = .ok (.aaload, 1) := by decide +kernel
theorem dX3_fillBins_28 : decode cX3_fillBins 28 = .ok (.astore 7, 2) := by decide +kernel
theorem dX3_fillBins_30 : decode cX3_fillBins 30 = .ok (.aload 7, 2) := by decide +kernel
theorem dX3_fillBins_32 : decode cX3_fillBins 32 = .ok (.getfield 37, 3) := by decide +kernel
theorem dX3_fillBins_35 : decode cX3_fillBins 35 = .ok (.iload_n 1, 1) := by decide +kernel
theorem dX3_fillBins_36 : decode cX3_fillBins 36 = .ok (.if_icmp .ne 35, 3) := by decide +kernel
theorem dX3_fillBins_39 : decode cX3_fillBins 39 = .ok (.iload_n 3, 1) := by decide +kernel
theorem dX3_fillBins_40 : decode cX3_fillBins 40 = .ok (.sipush 2000, 3) := by decide +kernel
theorem dX3_fillBins_43 : decode cX3_fillBins 43 = .ok (.aload 7, 2) := by decide +kernel
theorem dX3_fillBins_45 : decode cX3_fillBins 45 = .ok (.getfield 172, 3) := by decide +kernel
theorem dX3_fillBins_48 : decode cX3_fillBins 48 = .ok (.isub, 1) := by decide +kernel
theorem dX3_fillBins_49 : decode cX3_fillBins 49 = .ok (.invokestatic 218, 3) := by decide +kernel
theorem dX3_fillBins_52 : decode cX3_fillBins 52 = .ok (.istore 8, 2) := by decide +kernel
theorem dX3_fillBins_54 : decode cX3_fillBins 54 = .ok (.aload 7, 2) := by decide +kernel
theorem dX3_fillBins_56 : decode cX3_fillBins 56 = .ok (.dup, 1) := by decide +kernel
theorem dX3_fillBins_57 : decode cX3_fillBins 57 = .ok (.getfield 172, 3) := by decide +kernel
theorem dX3_fillBins_60 : decode cX3_fillBins 60 = .ok (.iload 8, 2) := by decide +kernel
theorem dX3_fillBins_62 : decode cX3_fillBins 62 = .ok (.iadd, 1) := by decide +kernel
theorem dX3_fillBins_63 : decode cX3_fillBins 63 = .ok (.putfield 172, 3) := by decide +kernel
theorem dX3_fillBins_66 : decode cX3_fillBins 66 = .ok (.iload_n 3, 1) := by decide +kernel
theorem dX3_fillBins_67 : decode cX3_fillBins 67 = .ok (.iload 8, 2) := by decide +kernel
theorem dX3_fillBins_69 : decode cX3_fillBins 69 = .ok (.isub, 1) := by decide +kernel
theorem dX3_fillBins_70 : decode cX3_fillBins 70 = .ok (.istore_n 3, 1) := by decide +kernel
theorem dX3_fillBins_71 : decode cX3_fillBins 71 = .ok (.iinc 6 1, 3) := by decide +kernel
theorem dX3_fillBins_74 : decode cX3_fillBins 74 = .ok (.goto (-58), 3) := by decide +kernel
theorem dX3_fillBins_77 : decode cX3_fillBins 77 = .ok (.return_, 1) := by decide +kernel
theorem dX3_takeOut_0 : decode cX3_takeOut 0 = .ok (.iload_n 2, 1) := by decide +kernel
theorem dX3_takeOut_1 : decode cX3_takeOut 1 = .ok (.istore_n 3, 1) := by decide +kernel
theorem dX3_takeOut_2 : decode cX3_takeOut 2 = .ok (.aload_n 0, 1) := by decide +kernel
theorem dX3_takeOut_3 : decode cX3_takeOut 3 = .ok (.getfield 11, 3) := by decide +kernel
theorem dX3_takeOut_6 : decode cX3_takeOut 6 = .ok (.astore 4, 2) := by decide +kernel
theorem dX3_takeOut_8 : decode cX3_takeOut 8 = .ok (.aload 4, 2) := by decide +kernel
theorem dX3_takeOut_10 : decode cX3_takeOut 10 = .ok (.arraylength, 1) := by decide +kernel
theorem dX3_takeOut_11 : decode cX3_takeOut 11 = .ok (.istore 5, 2) := by decide +kernel
theorem dX3_takeOut_13 : decode cX3_takeOut 13 = .ok (.iconst 0, 1) := by decide +kernel
theorem dX3_takeOut_14 : decode cX3_takeOut 14 = .ok (.istore 6, 2) := by decide +kernel
theorem dX3_takeOut_16 : decode cX3_takeOut 16 = .ok (.iload 6, 2) := by decide +kernel
theorem dX3_takeOut_18 : decode cX3_takeOut 18 = .ok (.iload 5, 2) := by decide +kernel
theorem dX3_takeOut_20 : decode cX3_takeOut 20 = .ok (.if_icmp .ge 53, 3) := by decide +kernel
theorem dX3_takeOut_23 : decode cX3_takeOut 23 = .ok (.aload 4, 2) := by decide +kernel
theorem dX3_takeOut_25 : decode cX3_takeOut 25 = .ok (.iload 6, 2) := by decide +kernel
theorem dX3_takeOut_27 : decode cX3_takeOut 27 = .ok (.aaload, 1) := by decide +kernel
theorem dX3_takeOut_28 : decode cX3_takeOut 28 = .ok (.astore 7, 2) := by decide +kernel
theorem dX3_takeOut_30 : decode cX3_takeOut 30 = .ok (.aload 7, 2) := by decide +kernel
theorem dX3_takeOut_32 : decode cX3_takeOut 32 = .ok (.getfield 37, 3) := by decide +kernel
theorem dX3_takeOut_35 : decode cX3_takeOut 35 = .ok (.iload_n 1, 1) := by decide +kernel
theorem dX3_takeOut_36 : decode cX3_takeOut 36 = .ok (.if_icmp .ne 31, 3) := by decide +kernel
theorem dX3_takeOut_39 : decode cX3_takeOut 39 = .ok (.iload_n 3, 1) := by decide +kernel
theorem dX3_takeOut_40 : decode cX3_takeOut 40 = .ok (.aload 7, 2) := by decide +kernel
theorem dX3_takeOut_42 : decode cX3_takeOut 42 = .ok (.getfield 172, 3) := by decide +kernel
theorem dX3_takeOut_45 : decode cX3_takeOut 45 = .ok (.invokestatic 218, 3) := by decide +kernel
theorem dX3_takeOut_48 : decode cX3_takeOut 48 = .ok (.istore 8, 2) := by decide +kernel
theorem dX3_takeOut_50 : decode cX3_takeOut 50 = .ok (.aload 7, 2) := by decide +kernel
theorem dX3_takeOut_52 : decode cX3_takeOut 52 = .ok (.dup, 1) := by decide +kernel
theorem dX3_takeOut_53 : decode cX3_takeOut 53 = .ok (.getfield 172, 3) := by decide +kernel
theorem dX3_takeOut_56 : decode cX3_takeOut 56 = .ok (.iload 8, 2) := by decide +kernel
theorem dX3_takeOut_58 : decode cX3_takeOut 58 = .ok (.isub, 1) := by decide +kernel
theorem dX3_takeOut_59 : decode cX3_takeOut 59 = .ok (.putfield 172, 3) := by decide +kernel
theorem dX3_takeOut_62 : decode cX3_takeOut 62 = .ok (.iload_n 3, 1) := by decide +kernel
theorem dX3_takeOut_63 : decode cX3_takeOut 63 = .ok (.iload 8, 2) := by decide +kernel
theorem dX3_takeOut_65 : decode cX3_takeOut 65 = .ok (.isub, 1) := by decide +kernel
theorem dX3_takeOut_66 : decode cX3_takeOut 66 = .ok (.istore_n 3, 1) := by decide +kernel
theorem dX3_takeOut_67 : decode cX3_takeOut 67 = .ok (.iinc 6 1, 3) := by decide +kernel
theorem dX3_takeOut_70 : decode cX3_takeOut 70 = .ok (.goto (-54), 3) := by decide +kernel
theorem dX3_takeOut_73 : decode cX3_takeOut 73 = .ok (.iload_n 3, 1) := by decide +kernel
theorem dX3_takeOut_74 : decode cX3_takeOut 74 = .ok (.ireturn, 1) := by decide +kernel
theorem dX3_find_0 : decode cX3_find 0 = .ok (.aload_n 0, 1) := by decide +kernel
theorem dX3_find_1 : decode cX3_find 1 = .ok (.getfield 19, 3) := by decide +kernel
theorem dX3_find_4 : decode cX3_find 4 = .ok (.astore_n 2, 1) := by decide +kernel
theorem dX3_find_5 : decode cX3_find 5 = .ok (.aload_n 2, 1) := by decide +kernel
theorem dX3_find_6 : decode cX3_find 6 = .ok (.arraylength, 1) := by decide +kernel
theorem dX3_find_7 : decode cX3_find 7 = .ok (.istore_n 3, 1) := by decide +kernel
theorem dX3_find_8 : decode cX3_find 8 = .ok (.iconst 0, 1) := by decide +kernel
theorem dX3_find_9 : decode cX3_find 9 = .ok (.istore 4, 2) := by decide +kernel
theorem dX3_find_11 : decode cX3_find 11 = .ok (.iload 4, 2) := by decide +kernel
theorem dX3_find_13 : decode cX3_find 13 = .ok (.iload_n 3, 1) := by decide +kernel
theorem dX3_find_14 : decode cX3_find 14 = .ok (.if_icmp .ge 35, 3) := by decide +kernel
theorem dX3_find_17 : decode cX3_find 17 = .ok (.aload_n 2, 1) := by decide +kernel
theorem dX3_find_18 : decode cX3_find 18 = .ok (.iload 4, 2) := by decide +kernel
theorem dX3_find_20 : decode cX3_find 20 = .ok (.aaload, 1) := by decide +kernel
theorem dX3_find_21 : decode cX3_find 21 = .ok (.astore 5, 2) := by decide +kernel
theorem dX3_find_23 : decode cX3_find 23 = .ok (.aload 5, 2) := by decide +kernel
theorem dX3_find_25 : decode cX3_find 25 = .ok (.invokevirtual 203, 3) := by decide +kernel
theorem dX3_find_28 : decode cX3_find 28 = .ok (.ifCond .eq 15, 3) := by decide +kernel
theorem dX3_find_31 : decode cX3_find 31 = .ok (.aload 5, 2) := by decide +kernel
theorem dX3_find_33 : decode cX3_find 33 = .ok (.getfield 96, 3) := by decide +kernel
theorem dX3_find_36 : decode cX3_find 36 = .ok (.iload_n 1, 1) := by decide +kernel
theorem dX3_find_37 : decode cX3_find 37 = .ok (.if_icmp .ne 6, 3) := by decide +kernel
theorem dX3_find_40 : decode cX3_find 40 = .ok (.aload 5, 2) := by decide +kernel
theorem dX3_find_42 : decode cX3_find 42 = .ok (.areturn, 1) := by decide +kernel
theorem dX3_find_43 : decode cX3_find 43 = .ok (.iinc 4 1, 3) := by decide +kernel
theorem dX3_find_46 : decode cX3_find 46 = .ok (.goto (-35), 3) := by decide +kernel
theorem dX3_find_49 : decode cX3_find 49 = .ok (.aconst_null, 1) := by decide +kernel
theorem dX3_find_50 : decode cX3_find 50 = .ok (.areturn, 1) := by decide +kernel
theorem dX3_freePlace_0 : decode cX3_freePlace 0 = .ok (.aload_n 0, 1) := by decide +kernel
theorem dX3_freePlace_1 : decode cX3_freePlace 1 = .ok (.getfield 19, 3) := by decide +kernel
theorem dX3_freePlace_4 : decode cX3_freePlace 4 = .ok (.astore_n 1, 1) := by decide +kernel
theorem dX3_freePlace_5 : decode cX3_freePlace 5 = .ok (.aload_n 1, 1) := by decide +kernel
theorem dX3_freePlace_6 : decode cX3_freePlace 6 = .ok (.arraylength, 1) := by decide +kernel
theorem dX3_freePlace_7 : decode cX3_freePlace 7 = .ok (.istore_n 2, 1) := by decide +kernel
theorem dX3_freePlace_8 : decode cX3_freePlace 8 = .ok (.iconst 0, 1) := by decide +kernel
theorem dX3_freePlace_9 : decode cX3_freePlace 9 = .ok (.istore_n 3, 1) := by decide +kernel
theorem dX3_freePlace_10 : decode cX3_freePlace 10 = .ok (.iload_n 3, 1) := by decide +kernel
theorem dX3_freePlace_11 : decode cX3_freePlace 11 = .ok (.iload_n 2, 1) := by decide +kernel
theorem dX3_freePlace_12 : decode cX3_freePlace 12 = .ok (.if_icmp .ge 25, 3) := by decide +kernel
theorem dX3_freePlace_15 : decode cX3_freePlace 15 = .ok (.aload_n 1, 1) := by decide +kernel
theorem dX3_freePlace_16 : decode cX3_freePlace 16 = .ok (.iload_n 3, 1) := by decide +kernel
theorem dX3_freePlace_17 : decode cX3_freePlace 17 = .ok (.aaload, 1) := by decide +kernel
theorem dX3_freePlace_18 : decode cX3_freePlace 18 = .ok (.astore 4, 2) := by decide +kernel
theorem dX3_freePlace_20 : decode cX3_freePlace 20 = .ok (.aload 4, 2) := by decide +kernel
theorem dX3_freePlace_22 : decode cX3_freePlace 22 = .ok (.invokevirtual 203, 3) := by decide +kernel
theorem dX3_freePlace_25 : decode cX3_freePlace 25 = .ok (.ifCond .ne 6, 3) := by decide +kernel
theorem dX3_freePlace_28 : decode cX3_freePlace 28 = .ok (.aload 4, 2) := by decide +kernel
theorem dX3_freePlace_30 : decode cX3_freePlace 30 = .ok (.areturn, 1) := by decide +kernel
theorem dX3_freePlace_31 : decode cX3_freePlace 31 = .ok (.iinc 3 1, 3) := by decide +kernel
theorem dX3_freePlace_34 : decode cX3_freePlace 34 = .ok (.goto (-24), 3) := by decide +kernel
theorem dX3_freePlace_37 : decode cX3_freePlace 37 = .ok (.aconst_null, 1) := by decide +kernel
theorem dX3_freePlace_38 : decode cX3_freePlace 38 = .ok (.areturn, 1) := by decide +kernel
theorem dX3_nextNumber_0 : decode cX3_nextNumber 0 = .ok (.aload_n 0, 1) := by decide +kernel
theorem dX3_nextNumber_1 : decode cX3_nextNumber 1 = .ok (.getfield 58, 3) := by decide +kernel
theorem dX3_nextNumber_4 : decode cX3_nextNumber 4 = .ok (.istore_n 1, 1) := by decide +kernel
theorem dX3_nextNumber_5 : decode cX3_nextNumber 5 = .ok (.aload_n 0, 1) := by decide +kernel
theorem dX3_nextNumber_6 : decode cX3_nextNumber 6 = .ok (.dup, 1) := by decide +kernel
theorem dX3_nextNumber_7 : decode cX3_nextNumber 7 = .ok (.getfield 58, 3) := by decide +kernel
theorem dX3_nextNumber_10 : decode cX3_nextNumber 10 = .ok (.iconst 1, 1) := by decide +kernel
theorem dX3_nextNumber_11 : decode cX3_nextNumber 11 = .ok (.iadd, 1) := by decide +kernel
theorem dX3_nextNumber_12 : decode cX3_nextNumber 12 = .ok (.putfield 58, 3) := by decide +kernel
theorem dX3_nextNumber_15 : decode cX3_nextNumber 15 = .ok (.iload_n 1, 1) := by decide +kernel
theorem dX3_nextNumber_16 : decode cX3_nextNumber 16 = .ok (.ireturn, 1) := by decide +kernel
theorem dX3_receiptsBelow_0 : decode cX3_receiptsBelow 0 = .ok (.iconst 0, 1) := by decide +kernel
theorem dX3_receiptsBelow_1 : decode cX3_receiptsBelow 1 = .ok (.istore_n 2, 1) := by decide +kernel
theorem dX3_receiptsBelow_2 : decode cX3_receiptsBelow 2 = .ok (.aload_n 0, 1) := by decide +kernel
theorem dX3_receiptsBelow_3 : decode cX3_receiptsBelow 3 = .ok (.getfield 19, 3) := by decide +kernel
theorem dX3_receiptsBelow_6 : decode cX3_receiptsBelow 6 = .ok (.astore_n 3, 1) := by decide +kernel
theorem dX3_receiptsBelow_7 : decode cX3_receiptsBelow 7 = .ok (.aload_n 3, 1) := by decide +kernel
theorem dX3_receiptsBelow_8 : decode cX3_receiptsBelow 8 = .ok (.arraylength, 1) := by decide +kernel
theorem dX3_receiptsBelow_9 : decode cX3_receiptsBelow 9 = .ok (.istore 4, 2) := by decide +kernel
theorem dX3_receiptsBelow_11 : decode cX3_receiptsBelow 11 = .ok (.iconst 0, 1) := by decide +kernel
theorem dX3_receiptsBelow_12 : decode cX3_receiptsBelow 12 = .ok (.istore 5, 2) := by decide +kernel
theorem dX3_receiptsBelow_14 : decode cX3_receiptsBelow 14 = .ok (.iload 5, 2) := by decide +kernel
theorem dX3_receiptsBelow_16 : decode cX3_receiptsBelow 16 = .ok (.iload 4, 2) := by decide +kernel
theorem dX3_receiptsBelow_18 : decode cX3_receiptsBelow 18 = .ok (.if_icmp .ge 35, 3) := by decide +kernel
theorem dX3_receiptsBelow_21 : decode cX3_receiptsBelow 21 = .ok (.aload_n 3, 1) := by decide +kernel
theorem dX3_receiptsBelow_22 : decode cX3_receiptsBelow 22 = .ok (.iload 5, 2) := by decide +kernel
theorem dX3_receiptsBelow_24 : decode cX3_receiptsBelow 24 = .ok (.aaload, 1) := by decide +kernel
theorem dX3_receiptsBelow_25 : decode cX3_receiptsBelow 25 = .ok (.astore 6, 2) := by decide +kernel
theorem dX3_receiptsBelow_27 : decode cX3_receiptsBelow 27 = .ok (.aload 6, 2) := by decide +kernel
theorem dX3_receiptsBelow_29 : decode cX3_receiptsBelow 29 = .ok (.invokevirtual 203, 3) := by decide +kernel
theorem dX3_receiptsBelow_32 : decode cX3_receiptsBelow 32 = .ok (.ifCond .eq 15, 3) := by decide +kernel
theorem dX3_receiptsBelow_35 : decode cX3_receiptsBelow 35 = .ok (.aload 6, 2) := by decide +kernel
theorem dX3_receiptsBelow_37 : decode cX3_receiptsBelow 37 = .ok (.getfield 96, 3) := by decide +kernel
theorem dX3_receiptsBelow_40 : decode cX3_receiptsBelow 40 = .ok (.iload_n 1, 1) := by decide +kernel
theorem dX3_receiptsBelow_41 : decode cX3_receiptsBelow 41 = .ok (.if_icmp .ge 6, 3) := by decide +kernel
theorem dX3_receiptsBelow_44 : decode cX3_receiptsBelow 44 = .ok (.iinc 2 1, 3) := by decide +kernel
theorem dX3_receiptsBelow_47 : decode cX3_receiptsBelow 47 = .ok (.iinc 5 1, 3) := by decide +kernel
theorem dX3_receiptsBelow_50 : decode cX3_receiptsBelow 50 = .ok (.goto (-36), 3) := by decide +kernel
theorem dX3_receiptsBelow_53 : decode cX3_receiptsBelow 53 = .ok (.iload_n 2, 1) := by decide +kernel
theorem dX3_receiptsBelow_54 : decode cX3_receiptsBelow 54 = .ok (.ireturn, 1) := by decide +kernel
theorem dX3_receiptsOf_0 : decode cX3_receiptsOf 0 = .ok (.iconst 0, 1) := by decide +kernel
theorem dX3_receiptsOf_1 : decode cX3_receiptsOf 1 = .ok (.istore_n 3, 1) := by decide +kernel
theorem dX3_receiptsOf_2 : decode cX3_receiptsOf 2 = .ok (.aload_n 0, 1) := by decide +kernel
theorem dX3_receiptsOf_3 : decode cX3_receiptsOf 3 = .ok (.getfield 19, 3) := by decide +kernel
theorem dX3_receiptsOf_6 : decode cX3_receiptsOf 6 = .ok (.astore 4, 2) := by decide +kernel
theorem dX3_receiptsOf_8 : decode cX3_receiptsOf 8 = .ok (.aload 4, 2) := by decide +kernel
theorem dX3_receiptsOf_10 : decode cX3_receiptsOf 10 = .ok (.arraylength, 1) := by decide +kernel
theorem dX3_receiptsOf_11 : decode cX3_receiptsOf 11 = .ok (.istore 5, 2) := by decide +kernel
theorem dX3_receiptsOf_13 : decode cX3_receiptsOf 13 = .ok (.iconst 0, 1) := by decide +kernel
theorem dX3_receiptsOf_14 : decode cX3_receiptsOf 14 = .ok (.istore 6, 2) := by decide +kernel
theorem dX3_receiptsOf_16 : decode cX3_receiptsOf 16 = .ok (.iload 6, 2) := by decide +kernel
theorem dX3_receiptsOf_18 : decode cX3_receiptsOf 18 = .ok (.iload 5, 2) := by decide +kernel
theorem dX3_receiptsOf_20 : decode cX3_receiptsOf 20 = .ok (.if_icmp .ge 50, 3) := by decide +kernel
theorem dX3_receiptsOf_23 : decode cX3_receiptsOf 23 = .ok (.aload 4, 2) := by decide +kernel
theorem dX3_receiptsOf_25 : decode cX3_receiptsOf 25 = .ok (.iload 6, 2) := by decide +kernel
theorem dX3_receiptsOf_27 : decode cX3_receiptsOf 27 = .ok (.aaload, 1) := by decide +kernel
theorem dX3_receiptsOf_28 : decode cX3_receiptsOf 28 = .ok (.astore 7, 2) := by decide +kernel
theorem dX3_receiptsOf_30 : decode cX3_receiptsOf 30 = .ok (.aload 7, 2) := by decide +kernel
theorem dX3_receiptsOf_32 : decode cX3_receiptsOf 32 = .ok (.invokevirtual 203, 3) := by decide +kernel
theorem dX3_receiptsOf_35 : decode cX3_receiptsOf 35 = .ok (.ifCond .eq 29, 3) := by decide +kernel
theorem dX3_receiptsOf_38 : decode cX3_receiptsOf 38 = .ok (.aload 7, 2) := by decide +kernel
theorem dX3_receiptsOf_40 : decode cX3_receiptsOf 40 = .ok (.getfield 110, 3) := by decide +kernel
theorem dX3_receiptsOf_43 : decode cX3_receiptsOf 43 = .ok (.iload_n 1, 1) := by decide +kernel
theorem dX3_receiptsOf_44 : decode cX3_receiptsOf 44 = .ok (.if_icmp .lt 20, 3) := by decide +kernel
theorem dX3_receiptsOf_47 : decode cX3_receiptsOf 47 = .ok (.aload 7, 2) := by decide +kernel
theorem dX3_receiptsOf_49 : decode cX3_receiptsOf 49 = .ok (.getfield 110, 3) := by decide +kernel
theorem dX3_receiptsOf_52 : decode cX3_receiptsOf 52 = .ok (.iload_n 2, 1) := by decide +kernel
theorem dX3_receiptsOf_53 : decode cX3_receiptsOf 53 = .ok (.if_icmp .gt 11, 3) := by decide +kernel
theorem dX3_receiptsOf_56 : decode cX3_receiptsOf 56 = .ok (.iload_n 3, 1) := by decide +kernel
theorem dX3_receiptsOf_57 : decode cX3_receiptsOf 57 = .ok (.aload 7, 2) := by decide +kernel
theorem dX3_receiptsOf_59 : decode cX3_receiptsOf 59 = .ok (.getfield 103, 3) := by decide +kernel
theorem dX3_receiptsOf_62 : decode cX3_receiptsOf 62 = .ok (.iadd, 1) := by decide +kernel
theorem dX3_receiptsOf_63 : decode cX3_receiptsOf 63 = .ok (.istore_n 3, 1) := by decide +kernel
theorem dX3_receiptsOf_64 : decode cX3_receiptsOf 64 = .ok (.iinc 6 1, 3) := by decide +kernel
theorem dX3_receiptsOf_67 : decode cX3_receiptsOf 67 = .ok (.goto (-51), 3) := by decide +kernel
theorem dX3_receiptsOf_70 : decode cX3_receiptsOf 70 = .ok (.iload_n 3, 1) := by decide +kernel
theorem dX3_receiptsOf_71 : decode cX3_receiptsOf 71 = .ok (.ireturn, 1) := by decide +kernel
theorem dX3_priceOf_0 : decode cX3_priceOf 0 = .ok (.iload_n 1, 1) := by decide +kernel
theorem dX3_priceOf_1 : decode cX3_priceOf 1 = .ok (.invokestatic 70, 3) := by decide +kernel
theorem dX3_priceOf_4 : decode cX3_priceOf 4 = .ok (.ifCond .eq 12, 3) := by decide +kernel
theorem dX3_priceOf_7 : decode cX3_priceOf 7 = .ok (.aload_n 0, 1) := by decide +kernel
theorem dX3_priceOf_8 : decode cX3_priceOf 8 = .ok (.getfield 23, 3) := by decide +kernel
theorem dX3_priceOf_11 : decode cX3_priceOf 11 = .ok (.iload_n 1, 1) := by decide +kernel
theorem dX3_priceOf_12 : decode cX3_priceOf 12 = .ok (.iaload, 1) := by decide +kernel
theorem dX3_priceOf_13 : decode cX3_priceOf 13 = .ok (.goto 4, 3) := by decide +kernel
theorem dX3_priceOf_16 : decode cX3_priceOf 16 = .ok (.iconst 0, 1) := by decide +kernel
theorem dX3_priceOf_17 : decode cX3_priceOf 17 = .ok (.ireturn, 1) := by decide +kernel
theorem dX3_moneyOf_0 : decode cX3_moneyOf 0 = .ok (.iload_n 1, 1) := by decide +kernel
theorem dX3_moneyOf_1 : decode cX3_moneyOf 1 = .ok (.invokestatic 122, 3) := by decide +kernel
theorem dX3_moneyOf_4 : decode cX3_moneyOf 4 = .ok (.ifCond .eq 12, 3) := by decide +kernel
theorem dX3_moneyOf_7 : decode cX3_moneyOf 7 = .ok (.aload_n 0, 1) := by decide +kernel
theorem dX3_moneyOf_8 : decode cX3_moneyOf 8 = .ok (.getfield 30, 3) := by decide +kernel
theorem dX3_moneyOf_11 : decode cX3_moneyOf 11 = .ok (.iload_n 1, 1) := by decide +kernel
theorem dX3_moneyOf_12 : decode cX3_moneyOf 12 = .ok (.iaload, 1) := by decide +kernel
theorem dX3_moneyOf_13 : decode cX3_moneyOf 13 = .ok (.goto 4, 3) := by decide +kernel
theorem dX3_moneyOf_16 : decode cX3_moneyOf 16 = .ok (.iconst 0, 1) := by decide +kernel
theorem dX3_moneyOf_17 : decode cX3_moneyOf 17 = .ok (.ireturn, 1) := by decide +kernel
theorem dX3_addMoney_0 : decode cX3_addMoney 0 = .ok (.iload_n 1, 1) := by decide +kernel
theorem dX3_addMoney_1 : decode cX3_addMoney 1 = .ok (.invokestatic 122, 3) := by decide +kernel
theorem dX3_addMoney_4 : decode cX3_addMoney 4 = .ok (.ifCond .eq 13, 3) := by decide +kernel
theorem dX3_addMoney_7 : decode cX3_addMoney 7 = .ok (.aload_n 0, 1) := by decide +kernel
theorem dX3_addMoney_8 : decode cX3_addMoney 8 = .ok (.getfield 30, 3) := by decide +kernel
theorem dX3_addMoney_11 : decode cX3_addMoney 11 = .ok (.iload_n 1, 1) := by decide +kernel
theorem dX3_addMoney_12 : decode cX3_addMoney 12 = .ok (.dup2, 1) := by decide +kernel
theorem dX3_addMoney_13 : decode cX3_addMoney 13 = .ok (.iaload, 1) := by decide +kernel
theorem dX3_addMoney_14 : decode cX3_addMoney 14 = .ok (.iload_n 2, 1) := by decide +kernel
theorem dX3_addMoney_15 : decode cX3_addMoney 15 = .ok (.iadd, 1) := by decide +kernel
theorem dX3_addMoney_16 : decode cX3_addMoney 16 = .ok (.iastore, 1) := by decide +kernel
theorem dX3_addMoney_17 : decode cX3_addMoney 17 = .ok (.return_, 1) := by decide +kernel
theorem dX3_worth_0 : decode cX3_worth 0 = .ok (.aload_n 1, 1) := by decide +kernel
theorem dX3_worth_1 : decode cX3_worth 1 = .ok (.getfield 103, 3) := by decide +kernel
theorem dX3_worth_4 : decode cX3_worth 4 = .ok (.aload_n 0, 1) := by decide +kernel
theorem dX3_worth_5 : decode cX3_worth 5 = .ok (.getfield 23, 3) := by decide +kernel
theorem dX3_worth_8 : decode cX3_worth 8 = .ok (.iconst 2, 1) := by decide +kernel
theorem dX3_worth_9 : decode cX3_worth 9 = .ok (.iaload, 1) := by decide +kernel
theorem dX3_worth_10 : decode cX3_worth 10 = .ok (.imul, 1) := by decide +kernel
theorem dX3_worth_11 : decode cX3_worth 11 = .ok (.ireturn, 1) := by decide +kernel
theorem dX3_greatestLoan_0 : decode cX3_greatestLoan 0 = .ok (.aload_n 0, 1) := by decide +kernel
theorem dX3_greatestLoan_1 : decode cX3_greatestLoan 1 = .ok (.aload_n 1, 1) := by decide +kernel
theorem dX3_greatestLoan_2 : decode cX3_greatestLoan 2 = .ok (.invokevirtual 185, 3) := by decide +kernel
theorem dX3_greatestLoan_5 : decode cX3_greatestLoan 5 = .ok (.aload_n 0, 1) := by decide +kernel
theorem dX3_greatestLoan_6 : decode cX3_greatestLoan 6 = .ok (.getfield 27, 3) := by decide +kernel
theorem dX3_greatestLoan_9 : decode cX3_greatestLoan 9 = .ok (.iconst 0, 1) := by decide +kernel
theorem dX3_greatestLoan_10 : decode cX3_greatestLoan 10 = .ok (.iaload, 1) := by decide +kernel
theorem dX3_greatestLoan_11 : decode cX3_greatestLoan 11 = .ok (.imul, 1) := by decide +kernel
theorem dX3_greatestLoan_12 : decode cX3_greatestLoan 12 = .ok (.bipush 100, 2) := by decide +kernel
theorem dX3_greatestLoan_14 : decode cX3_greatestLoan 14 = .ok (.idiv, 1) := by decide +kernel
theorem dX3_greatestLoan_15 : decode cX3_greatestLoan 15 = .ok (.ireturn, 1) := by decide +kernel
theorem dX3_callLimit_0 : decode cX3_callLimit 0 = .ok (.iload_n 1, 1) := by decide +kernel
theorem dX3_callLimit_1 : decode cX3_callLimit 1 = .ok (.aload_n 0, 1) := by decide +kernel
theorem dX3_callLimit_2 : decode cX3_callLimit 2 = .ok (.getfield 27, 3) := by decide +kernel
theorem dX3_callLimit_5 : decode cX3_callLimit 5 = .ok (.iconst 1, 1) := by decide +kernel
theorem dX3_callLimit_6 : decode cX3_callLimit 6 = .ok (.iaload, 1) := by decide +kernel
theorem dX3_callLimit_7 : decode cX3_callLimit 7 = .ok (.imul, 1) := by decide +kernel
theorem dX3_callLimit_8 : decode cX3_callLimit 8 = .ok (.bipush 100, 2) := by decide +kernel
theorem dX3_callLimit_10 : decode cX3_callLimit 10 = .ok (.idiv, 1) := by decide +kernel
theorem dX3_callLimit_11 : decode cX3_callLimit 11 = .ok (.ireturn, 1) := by decide +kernel
theorem dX3_isLoanTooHigh_0 : decode cX3_isLoanTooHigh 0 = .ok (.aload_n 1, 1) := by decide +kernel
theorem dX3_isLoanTooHigh_1 : decode cX3_isLoanTooHigh 1 = .ok (.getfield 139, 3) := by decide +kernel
theorem dX3_isLoanTooHigh_4 : decode cX3_isLoanTooHigh 4 = .ok (.aload_n 0, 1) := by decide +kernel
theorem dX3_isLoanTooHigh_5 : decode cX3_isLoanTooHigh 5 = .ok (.aload_n 0, 1) := by decide +kernel
theorem dX3_isLoanTooHigh_6 : decode cX3_isLoanTooHigh 6 = .ok (.aload_n 1, 1) := by decide +kernel
theorem dX3_isLoanTooHigh_7 : decode cX3_isLoanTooHigh 7 = .ok (.invokevirtual 185, 3) := by decide +kernel
theorem dX3_isLoanTooHigh_10 : decode cX3_isLoanTooHigh 10 = .ok (.invokevirtual 192, 3) := by decide +kernel
theorem dX3_isLoanTooHigh_13 : decode cX3_isLoanTooHigh 13 = .ok (.if_icmp .le 7, 3) := by decide +kernel
theorem dX3_isLoanTooHigh_16 : decode cX3_isLoanTooHigh 16 = .ok (.iconst 1, 1) := by decide +kernel
theorem dX3_isLoanTooHigh_17 : decode cX3_isLoanTooHigh 17 = .ok (.goto 4, 3) := by decide +kernel
theorem dX3_isLoanTooHigh_20 : decode cX3_isLoanTooHigh 20 = .ok (.iconst 0, 1) := by decide +kernel
theorem dX3_isLoanTooHigh_21 : decode cX3_isLoanTooHigh 21 = .ok (.ireturn, 1) := by decide +kernel
theorem dX3_wouldBeCalled_0 : decode cX3_wouldBeCalled 0 = .ok (.aload_n 1, 1) := by decide +kernel
theorem dX3_wouldBeCalled_1 : decode cX3_wouldBeCalled 1 = .ok (.getfield 136, 3) := by decide +kernel
theorem dX3_wouldBeCalled_4 : decode cX3_wouldBeCalled 4 = .ok (.iload_n 2, 1) := by decide +kernel
theorem dX3_wouldBeCalled_5 : decode cX3_wouldBeCalled 5 = .ok (.if_icmp .ne 31, 3) := by decide +kernel
theorem dX3_wouldBeCalled_8 : decode cX3_wouldBeCalled 8 = .ok (.aload_n 1, 1) := by decide +kernel
theorem dX3_wouldBeCalled_9 : decode cX3_wouldBeCalled 9 = .ok (.invokevirtual 189, 3) := by decide +kernel
theorem dX3_wouldBeCalled_12 : decode cX3_wouldBeCalled 12 = .ok (.ifCond .ne 24, 3) := by decide +kernel
theorem dX3_wouldBeCalled_15 : decode cX3_wouldBeCalled 15 = .ok (.aload_n 1, 1) := by decide +kernel
theorem dX3_wouldBeCalled_16 : decode cX3_wouldBeCalled 16 = .ok (.getfield 139, 3) := by decide +kernel
theorem dX3_wouldBeCalled_19 : decode cX3_wouldBeCalled 19 = .ok (.aload_n 0, 1) := by decide +kernel
theorem dX3_wouldBeCalled_20 : decode cX3_wouldBeCalled 20 = .ok (.aload_n 1, 1) := by decide +kernel
theorem dX3_wouldBeCalled_21 : decode cX3_wouldBeCalled 21 = .ok (.getfield 103, 3) := by decide +kernel
theorem dX3_wouldBeCalled_24 : decode cX3_wouldBeCalled 24 = .ok (.iload_n 3, 1) := by decide +kernel
theorem dX3_wouldBeCalled_25 : decode cX3_wouldBeCalled 25 = .ok (.imul, 1) := by decide +kernel
theorem dX3_wouldBeCalled_26 : decode cX3_wouldBeCalled 26 = .ok (.invokevirtual 192, 3) := by decide +kernel
theorem dX3_wouldBeCalled_29 : decode cX3_wouldBeCalled 29 = .ok (.if_icmp .le 7, 3) := by decide +kernel
theorem dX3_wouldBeCalled_32 : decode cX3_wouldBeCalled 32 = .ok (.iconst 1, 1) := by decide +kernel
theorem dX3_wouldBeCalled_33 : decode cX3_wouldBeCalled 33 = .ok (.goto 4, 3) := by decide +kernel
theorem dX3_wouldBeCalled_36 : decode cX3_wouldBeCalled 36 = .ok (.iconst 0, 1) := by decide +kernel
theorem dX3_wouldBeCalled_37 : decode cX3_wouldBeCalled 37 = .ok (.ireturn, 1) := by decide +kernel
theorem dX3_loanRatioBits_0 : decode cX3_loanRatioBits 0 = .ok (.aload_n 0, 1) := by decide +kernel
theorem dX3_loanRatioBits_1 : decode cX3_loanRatioBits 1 = .ok (.aload_n 1, 1) := by decide +kernel
theorem dX3_loanRatioBits_2 : decode cX3_loanRatioBits 2 = .ok (.invokevirtual 185, 3) := by decide +kernel
theorem dX3_loanRatioBits_5 : decode cX3_loanRatioBits 5 = .ok (.istore_n 2, 1) := by decide +kernel
theorem dX3_loanRatioBits_6 : decode cX3_loanRatioBits 6 = .ok (.iload_n 2, 1) := by decide +kernel
theorem dX3_loanRatioBits_7 : decode cX3_loanRatioBits 7 = .ok (.ifCond .le 17, 3) := by decide +kernel
theorem dX3_loanRatioBits_10 : decode cX3_loanRatioBits 10 = .ok (.aload_n 1, 1) := by decide +kernel
theorem dX3_loanRatioBits_11 : decode cX3_loanRatioBits 11 = .ok (.getfield 139, 3) := by decide +kernel
theorem dX3_loanRatioBits_14 : decode cX3_loanRatioBits 14 = .ok (.i2f, 1) := by decide +kernel
theorem dX3_loanRatioBits_15 : decode cX3_loanRatioBits 15 = .ok (.iload_n 2, 1) := by decide +kernel
theorem dX3_loanRatioBits_16 : decode cX3_loanRatioBits 16 = .ok (.i2f, 1) := by decide +kernel
theorem dX3_loanRatioBits_17 : decode cX3_loanRatioBits 17 = .ok (.fdiv, 1) := by decide +kernel
theorem dX3_loanRatioBits_18 : decode cX3_loanRatioBits 18 = .ok (.invokestatic 221, 3) := by decide +kernel
theorem dX3_loanRatioBits_21 : decode cX3_loanRatioBits 21 = .ok (.goto 4, 3) := by decide +kernel
theorem dX3_loanRatioBits_24 : decode cX3_loanRatioBits 24 = .ok (.iconst 0, 1) := by decide +kernel
theorem dX3_loanRatioBits_25 : decode cX3_loanRatioBits 25 = .ok (.ireturn, 1) := by decide +kernel
theorem dX3_splitLoan_0 : decode cX3_splitLoan 0 = .ok (.aload_n 1, 1) := by decide +kernel
theorem dX3_splitLoan_1 : decode cX3_splitLoan 1 = .ok (.getfield 103, 3) := by decide +kernel
theorem dX3_splitLoan_4 : decode cX3_splitLoan 4 = .ok (.ifCond .gt 4, 3) := by decide +kernel
theorem dX3_splitLoan_7 : decode cX3_splitLoan 7 = .ok (.return_, 1) := by decide +kernel
theorem dX3_splitLoan_8 : decode cX3_splitLoan 8 = .ok (.aload_n 1, 1) := by decide +kernel
theorem dX3_splitLoan_9 : decode cX3_splitLoan 9 = .ok (.getfield 139, 3) := by decide +kernel
theorem dX3_splitLoan_12 : decode cX3_splitLoan 12 = .ok (.i2l, 1) := by decide +kernel
theorem dX3_splitLoan_13 : decode cX3_splitLoan 13 = .ok (.aload_n 2, 1) := by decide +kernel
theorem dX3_splitLoan_14 : decode cX3_splitLoan 14 = .ok (.getfield 103, 3) := by decide +kernel
theorem dX3_splitLoan_17 : decode cX3_splitLoan 17 = .ok (.i2l, 1) := by decide +kernel
theorem dX3_splitLoan_18 : decode cX3_splitLoan 18 = .ok (.lmul, 1) := by decide +kernel
theorem dX3_splitLoan_19 : decode cX3_splitLoan 19 = .ok (.aload_n 1, 1) := by decide +kernel
theorem dX3_splitLoan_20 : decode cX3_splitLoan 20 = .ok (.getfield 103, 3) := by decide +kernel
theorem dX3_splitLoan_23 : decode cX3_splitLoan 23 = .ok (.i2l, 1) := by decide +kernel
theorem dX3_splitLoan_24 : decode cX3_splitLoan 24 = .ok (.ldiv, 1) := by decide +kernel
theorem dX3_splitLoan_25 : decode cX3_splitLoan 25 = .ok (.l2i, 1) := by decide +kernel
theorem dX3_splitLoan_26 : decode cX3_splitLoan 26 = .ok (.istore_n 3, 1) := by decide +kernel
theorem dX3_splitLoan_27 : decode cX3_splitLoan 27 = .ok (.iload_n 3, 1) := by decide +kernel
theorem dX3_splitLoan_28 : decode cX3_splitLoan 28 = .ok (.ifCond .le 26, 3) := by decide +kernel
theorem dX3_splitLoan_31 : decode cX3_splitLoan 31 = .ok (.aload_n 2, 1) := by decide +kernel
theorem dX3_splitLoan_32 : decode cX3_splitLoan 32 = .ok (.aload_n 1, 1) := by decide +kernel
theorem dX3_splitLoan_33 : decode cX3_splitLoan 33 = .ok (.getfield 136, 3) := by decide +kernel
theorem dX3_splitLoan_36 : decode cX3_splitLoan 36 = .ok (.putfield 136, 3) := by decide +kernel
theorem dX3_splitLoan_39 : decode cX3_splitLoan 39 = .ok (.aload_n 2, 1) := by decide +kernel
theorem dX3_splitLoan_40 : decode cX3_splitLoan 40 = .ok (.iload_n 3, 1) := by decide +kernel
theorem dX3_splitLoan_41 : decode cX3_splitLoan 41 = .ok (.putfield 139, 3) := by decide +kernel
theorem dX3_splitLoan_44 : decode cX3_splitLoan 44 = .ok (.aload_n 1, 1) := by decide +kernel
theorem dX3_splitLoan_45 : decode cX3_splitLoan 45 = .ok (.dup, 1) := by decide +kernel
theorem dX3_splitLoan_46 : decode cX3_splitLoan 46 = .ok (.getfield 139, 3) := by decide +kernel
theorem dX3_splitLoan_49 : decode cX3_splitLoan 49 = .ok (.iload_n 3, 1) := by decide +kernel
theorem dX3_splitLoan_50 : decode cX3_splitLoan 50 = .ok (.isub, 1) := by decide +kernel
theorem dX3_splitLoan_51 : decode cX3_splitLoan 51 = .ok (.putfield 139, 3) := by decide +kernel
theorem dX3_splitLoan_54 : decode cX3_splitLoan 54 = .ok (.return_, 1) := by decide +kernel
theorem dX3_passDay_0 : decode cX3_passDay 0 = .ok (.aload_n 0, 1) := by decide +kernel
theorem dX3_passDay_1 : decode cX3_passDay 1 = .ok (.dup, 1) := by decide +kernel
theorem dX3_passDay_2 : decode cX3_passDay 2 = .ok (.getfield 55, 3) := by decide +kernel
theorem dX3_passDay_5 : decode cX3_passDay 5 = .ok (.iconst 1, 1) := by decide +kernel
theorem dX3_passDay_6 : decode cX3_passDay 6 = .ok (.iadd, 1) := by decide +kernel
theorem dX3_passDay_7 : decode cX3_passDay 7 = .ok (.putfield 55, 3) := by decide +kernel
theorem dX3_passDay_10 : decode cX3_passDay 10 = .ok (.aload_n 0, 1) := by decide +kernel
theorem dX3_passDay_11 : decode cX3_passDay 11 = .ok (.getfield 19, 3) := by decide +kernel
theorem dX3_passDay_14 : decode cX3_passDay 14 = .ok (.astore_n 1, 1) := by decide +kernel
theorem dX3_passDay_15 : decode cX3_passDay 15 = .ok (.aload_n 1, 1) := by decide +kernel
theorem dX3_passDay_16 : decode cX3_passDay 16 = .ok (.arraylength, 1) := by decide +kernel
theorem dX3_passDay_17 : decode cX3_passDay 17 = .ok (.istore_n 2, 1) := by decide +kernel
theorem dX3_passDay_18 : decode cX3_passDay 18 = .ok (.iconst 0, 1) := by decide +kernel
theorem dX3_passDay_19 : decode cX3_passDay 19 = .ok (.istore_n 3, 1) := by decide +kernel
theorem dX3_passDay_20 : decode cX3_passDay 20 = .ok (.iload_n 3, 1) := by decide +kernel
theorem dX3_passDay_21 : decode cX3_passDay 21 = .ok (.iload_n 2, 1) := by decide +kernel
theorem dX3_passDay_22 : decode cX3_passDay 22 = .ok (.if_icmp .ge 65, 3) := by decide +kernel
theorem dX3_passDay_25 : decode cX3_passDay 25 = .ok (.aload_n 1, 1) := by decide +kernel
theorem dX3_passDay_26 : decode cX3_passDay 26 = .ok (.iload_n 3, 1) := by decide +kernel
theorem dX3_passDay_27 : decode cX3_passDay 27 = .ok (.aaload, 1) := by decide +kernel
theorem dX3_passDay_28 : decode cX3_passDay 28 = .ok (.astore 4, 2) := by decide +kernel
theorem dX3_passDay_30 : decode cX3_passDay 30 = .ok (.aload 4, 2) := by decide +kernel
theorem dX3_passDay_32 : decode cX3_passDay 32 = .ok (.invokevirtual 189, 3) := by decide +kernel
theorem dX3_passDay_35 : decode cX3_passDay 35 = .ok (.ifCond .eq 46, 3) := by decide +kernel
theorem dX3_passDay_38 : decode cX3_passDay 38 = .ok (.aload 4, 2) := by decide +kernel
theorem dX3_passDay_40 : decode cX3_passDay 40 = .ok (.dup, 1) := by decide +kernel
theorem dX3_passDay_41 : decode cX3_passDay 41 = .ok (.getfield 155, 3) := by decide +kernel
theorem dX3_passDay_44 : decode cX3_passDay 44 = .ok (.iconst 1, 1) := by decide +kernel
theorem dX3_passDay_45 : decode cX3_passDay 45 = .ok (.isub, 1) := by decide +kernel
theorem dX3_passDay_46 : decode cX3_passDay 46 = .ok (.putfield 155, 3) := by decide +kernel
theorem dX3_passDay_49 : decode cX3_passDay 49 = .ok (.aload_n 0, 1) := by decide +kernel
theorem dX3_passDay_50 : decode cX3_passDay 50 = .ok (.aload 4, 2) := by decide +kernel
theorem dX3_passDay_52 : decode cX3_passDay 52 = .ok (.invokevirtual 151, 3) := by decide +kernel
theorem dX3_passDay_55 : decode cX3_passDay 55 = .ok (.ifCond .ne 12, 3) := by decide +kernel
theorem dX3_passDay_58 : decode cX3_passDay 58 = .ok (.aload 4, 2) := by decide +kernel
theorem dX3_passDay_60 : decode cX3_passDay 60 = .ok (.iconst 0, 1) := by decide +kernel
theorem dX3_passDay_61 : decode cX3_passDay 61 = .ok (.putfield 155, 3) := by decide +kernel
theorem dX3_passDay_64 : decode cX3_passDay 64 = .ok (.goto 17, 3) := by decide +kernel
theorem dX3_passDay_67 : decode cX3_passDay 67 = .ok (.aload 4, 2) := by decide +kernel
theorem dX3_passDay_69 : decode cX3_passDay 69 = .ok (.invokevirtual 189, 3) := by decide +kernel
theorem dX3_passDay_72 : decode cX3_passDay 72 = .ok (.ifCond .ne 9, 3) := by decide +kernel
theorem dX3_passDay_75 : decode cX3_passDay 75 = .ok (.aload_n 0, 1) := by decide +kernel
theorem dX3_passDay_76 : decode cX3_passDay 76 = .ok (.aload 4, 2) := by decide +kernel
theorem dX3_passDay_78 : decode cX3_passDay 78 = .ok (.invokevirtual 225, 3) := by decide +kernel
theorem dX3_passDay_81 : decode cX3_passDay 81 = .ok (.iinc 3 1, 3) := by decide +kernel
theorem dX3_passDay_84 : decode cX3_passDay 84 = .ok (.goto (-64), 3) := by decide +kernel
theorem dX3_passDay_87 : decode cX3_passDay 87 = .ok (.return_, 1) := by decide +kernel
theorem dX3_seize_0 : decode cX3_seize 0 = .ok (.aload_n 1, 1) := by decide +kernel
theorem dX3_seize_1 : decode cX3_seize 1 = .ok (.getfield 136, 3) := by decide +kernel
theorem dX3_seize_4 : decode cX3_seize 4 = .ok (.istore_n 2, 1) := by decide +kernel
theorem dX3_seize_5 : decode cX3_seize 5 = .ok (.iload_n 2, 1) := by decide +kernel
theorem dX3_seize_6 : decode cX3_seize 6 = .ok (.invokestatic 129, 3) := by decide +kernel
theorem dX3_seize_9 : decode cX3_seize 9 = .ok (.ifCond .eq 37, 3) := by decide +kernel
theorem dX3_seize_12 : decode cX3_seize 12 = .ok (.aload_n 0, 1) := by decide +kernel
theorem dX3_seize_13 : decode cX3_seize 13 = .ok (.getfield 33, 3) := by decide +kernel
theorem dX3_seize_16 : decode cX3_seize 16 = .ok (.iload_n 2, 1) := by decide +kernel
theorem dX3_seize_17 : decode cX3_seize 17 = .ok (.dup2, 1) := by decide +kernel
theorem dX3_seize_18 : decode cX3_seize 18 = .ok (.iaload, 1) := by decide +kernel
theorem dX3_seize_19 : decode cX3_seize 19 = .ok (.aload_n 1, 1) := by decide +kernel
theorem dX3_seize_20 : decode cX3_seize 20 = .ok (.getfield 139, 3) := by decide +kernel
theorem dX3_seize_23 : decode cX3_seize 23 = .ok (.iadd, 1) := by decide +kernel
theorem dX3_seize_24 : decode cX3_seize 24 = .ok (.iastore, 1) := by decide +kernel
theorem dX3_seize_25 : decode cX3_seize 25 = .ok (.aload_n 0, 1) := by decide +kernel
theorem dX3_seize_26 : decode cX3_seize 26 = .ok (.dup, 1) := by decide +kernel
theorem dX3_seize_27 : decode cX3_seize 27 = .ok (.getfield 61, 3) := by decide +kernel
theorem dX3_seize_30 : decode cX3_seize 30 = .ok (.iconst 1, 1) := by decide +kernel
theorem dX3_seize_31 : decode cX3_seize 31 = .ok (.iadd, 1) := by decide +kernel
theorem dX3_seize_32 : decode cX3_seize 32 = .ok (.putfield 61, 3) := by decide +kernel
theorem dX3_seize_35 : decode cX3_seize 35 = .ok (.aload_n 1, 1) := by decide +kernel
theorem dX3_seize_36 : decode cX3_seize 36 = .ok (.iconst 5, 1) := by decide +kernel
theorem dX3_seize_37 : decode cX3_seize 37 = .ok (.iload_n 2, 1) := by decide +kernel
theorem dX3_seize_38 : decode cX3_seize 38 = .ok (.iadd, 1) := by decide +kernel
theorem dX3_seize_39 : decode cX3_seize 39 = .ok (.putfield 107, 3) := by decide +kernel
theorem dX3_seize_42 : decode cX3_seize 42 = .ok (.aload_n 1, 1) := by decide +kernel
theorem dX3_seize_43 : decode cX3_seize 43 = .ok (.invokevirtual 148, 3) := by decide +kernel
theorem dX3_seize_46 : decode cX3_seize 46 = .ok (.return_, 1) := by decide +kernel
theorem dX4_init_0 : decode cX4_init 0 = .ok (.aload_n 0, 1) := by decide +kernel
theorem dX4_init_1 : decode cX4_init 1 = .ok (.invokespecial 1, 3) := by decide +kernel
theorem dX4_init_4 : decode cX4_init 4 = .ok (.aload_n 0, 1) := by decide +kernel
theorem dX4_init_5 : decode cX4_init 5 = .ok (.new 7, 3) := by decide +kernel
theorem dX4_init_8 : decode cX4_init 8 = .ok (.dup, 1) := by decide +kernel
theorem dX4_init_9 : decode cX4_init 9 = .ok (.invokespecial 9, 3) := by decide +kernel
theorem dX4_init_12 : decode cX4_init 12 = .ok (.putfield 10, 3) := by decide +kernel
theorem dX4_init_15 : decode cX4_init 15 = .ok (.aload_n 0, 1) := by decide +kernel
theorem dX4_init_16 : decode cX4_init 16 = .ok (.iconst 4, 1) := by decide +kernel
theorem dX4_init_17 : decode cX4_init 17 = .ok (.anewarray 16, 3) := by decide +kernel
theorem dX4_init_20 : decode cX4_init 20 = .ok (.putfield 18, 3) := by decide +kernel
theorem dX4_init_23 : decode cX4_init 23 = .ok (.aload_n 0, 1) := by decide +kernel
theorem dX4_init_24 : decode cX4_init 24 = .ok (.new 16, 3) := by decide +kernel
theorem dX4_init_27 : decode cX4_init 27 = .ok (.dup, 1) := by decide +kernel
theorem dX4_init_28 : decode cX4_init 28 = .ok (.invokespecial 22, 3) := by decide +kernel
theorem dX4_init_31 : decode cX4_init 31 = .ok (.putfield 23, 3) := by decide +kernel
theorem dX4_init_34 : decode cX4_init 34 = .ok (.aload_n 0, 1) := by decide +kernel
theorem dX4_init_35 : decode cX4_init 35 = .ok (.new 16, 3) := by decide +kernel
theorem dX4_init_38 : decode cX4_init 38 = .ok (.dup, 1) := by decide +kernel
theorem dX4_init_39 : decode cX4_init 39 = .ok (.invokespecial 22, 3) := by decide +kernel
theorem dX4_init_42 : decode cX4_init 42 = .ok (.putfield 27, 3) := by decide +kernel
theorem dX4_init_45 : decode cX4_init 45 = .ok (.iconst 0, 1) := by decide +kernel
theorem dX4_init_46 : decode cX4_init 46 = .ok (.istore_n 1, 1) := by decide +kernel
theorem dX4_init_47 : decode cX4_init 47 = .ok (.iload_n 1, 1) := by decide +kernel
theorem dX4_init_48 : decode cX4_init 48 = .ok (.iconst 4, 1) := by decide +kernel
theorem dX4_init_49 : decode cX4_init 49 = .ok (.if_icmp .ge 22, 3) := by decide +kernel
theorem dX4_init_52 : decode cX4_init 52 = .ok (.aload_n 0, 1) := by decide +kernel
theorem dX4_init_53 : decode cX4_init 53 = .ok (.getfield 18, 3) := by decide +kernel
theorem dX4_init_56 : decode cX4_init 56 = .ok (.iload_n 1, 1) := by decide +kernel
theorem dX4_init_57 : decode cX4_init 57 = .ok (.new 16, 3) := by decide +kernel
theorem dX4_init_60 : decode cX4_init 60 = .ok (.dup, 1) := by decide +kernel
theorem dX4_init_61 : decode cX4_init 61 = .ok (.invokespecial 22, 3) := by decide +kernel
theorem dX4_init_64 : decode cX4_init 64 = .ok (.aastore, 1) := by decide +kernel
theorem dX4_init_65 : decode cX4_init 65 = .ok (.iinc 1 1, 3) := by decide +kernel
theorem dX4_init_68 : decode cX4_init 68 = .ok (.goto (-21), 3) := by decide +kernel
theorem dX4_init_71 : decode cX4_init 71 = .ok (.return_, 1) := by decide +kernel
theorem dX4_store_0 : decode cX4_store 0 = .ok (.aload_n 0, 1) := by decide +kernel
theorem dX4_store_1 : decode cX4_store 1 = .ok (.getfield 27, 3) := by decide +kernel
theorem dX4_store_4 : decode cX4_store 4 = .ok (.aload_n 0, 1) := by decide +kernel
theorem dX4_store_5 : decode cX4_store 5 = .ok (.getfield 23, 3) := by decide +kernel
theorem dX4_store_8 : decode cX4_store 8 = .ok (.invokevirtual 30, 3) := by decide +kernel
theorem dX4_store_11 : decode cX4_store 11 = .ok (.aload_n 0, 1) := by decide +kernel
theorem dX4_store_12 : decode cX4_store 12 = .ok (.aload_n 0, 1) := by decide +kernel
theorem dX4_store_13 : decode cX4_store 13 = .ok (.getfield 23, 3) := by decide +kernel
theorem dX4_store_16 : decode cX4_store 16 = .ok (.iload_n 1, 1) := by decide +kernel
theorem dX4_store_17 : decode cX4_store 17 = .ok (.iload_n 2, 1) := by decide +kernel
theorem dX4_store_18 : decode cX4_store 18 = .ok (.iload_n 3, 1) := by decide +kernel
theorem dX4_store_19 : decode cX4_store 19 = .ok (.invokevirtual 34, 3) := by decide +kernel
theorem dX4_store_22 : decode cX4_store 22 = .ok (.invokevirtual 38, 3) := by decide +kernel
theorem dX4_store_25 : decode cX4_store 25 = .ok (.ireturn, 1) := by decide +kernel
theorem dX4_split_0 : decode cX4_split 0 = .ok (.aload_n 0, 1) := by decide +kernel
theorem dX4_split_1 : decode cX4_split 1 = .ok (.getfield 27, 3) := by decide +kernel
theorem dX4_split_4 : decode cX4_split 4 = .ok (.aload_n 0, 1) := by decide +kernel
theorem dX4_split_5 : decode cX4_split 5 = .ok (.getfield 23, 3) := by decide +kernel
theorem dX4_split_8 : decode cX4_split 8 = .ok (.invokevirtual 30, 3) := by decide +kernel
theorem dX4_split_11 : decode cX4_split 11 = .ok (.aload_n 0, 1) := by decide +kernel
theorem dX4_split_12 : decode cX4_split 12 = .ok (.aload_n 0, 1) := by decide +kernel
theorem dX4_split_13 : decode cX4_split 13 = .ok (.getfield 23, 3) := by decide +kernel
theorem dX4_split_16 : decode cX4_split 16 = .ok (.iload_n 1, 1) := by decide +kernel
theorem dX4_split_17 : decode cX4_split 17 = .ok (.iload_n 2, 1) := by decide +kernel
theorem dX4_split_18 : decode cX4_split 18 = .ok (.invokevirtual 42, 3) := by decide +kernel
theorem dX4_split_21 : decode cX4_split 21 = .ok (.invokevirtual 38, 3) := by decide +kernel
theorem dX4_split_24 : decode cX4_split 24 = .ok (.ireturn, 1) := by decide +kernel
theorem dX4_join_0 : decode cX4_join 0 = .ok (.aload_n 0, 1) := by decide +kernel
theorem dX4_join_1 : decode cX4_join 1 = .ok (.getfield 27, 3) := by decide +kernel
theorem dX4_join_4 : decode cX4_join 4 = .ok (.aload_n 0, 1) := by decide +kernel
theorem dX4_join_5 : decode cX4_join 5 = .ok (.getfield 23, 3) := by decide +kernel
theorem dX4_join_8 : decode cX4_join 8 = .ok (.invokevirtual 30, 3) := by decide +kernel
theorem dX4_join_11 : decode cX4_join 11 = .ok (.aload_n 0, 1) := by decide +kernel
theorem dX4_join_12 : decode cX4_join 12 = .ok (.aload_n 0, 1) := by decide +kernel
theorem dX4_join_13 : decode cX4_join 13 = .ok (.getfield 23, 3) := by decide +kernel
theorem dX4_join_16 : decode cX4_join 16 = .ok (.iload_n 1, 1) := by decide +kernel
theorem dX4_join_17 : decode cX4_join 17 = .ok (.iload_n 2, 1) := by decide +kernel
theorem dX4_join_18 : decode cX4_join 18 = .ok (.invokevirtual 46, 3) := by decide +kernel
theorem dX4_join_21 : decode cX4_join 21 = .ok (.invokevirtual 38, 3) := by decide +kernel
theorem dX4_join_24 : decode cX4_join 24 = .ok (.ireturn, 1) := by decide +kernel
theorem dX4_hand_0 : decode cX4_hand 0 = .ok (.aload_n 0, 1) := by decide +kernel
theorem dX4_hand_1 : decode cX4_hand 1 = .ok (.getfield 27, 3) := by decide +kernel
theorem dX4_hand_4 : decode cX4_hand 4 = .ok (.aload_n 0, 1) := by decide +kernel
theorem dX4_hand_5 : decode cX4_hand 5 = .ok (.getfield 23, 3) := by decide +kernel
theorem dX4_hand_8 : decode cX4_hand 8 = .ok (.invokevirtual 30, 3) := by decide +kernel
theorem dX4_hand_11 : decode cX4_hand 11 = .ok (.aload_n 0, 1) := by decide +kernel
theorem dX4_hand_12 : decode cX4_hand 12 = .ok (.aload_n 0, 1) := by decide +kernel
theorem dX4_hand_13 : decode cX4_hand 13 = .ok (.getfield 23, 3) := by decide +kernel
theorem dX4_hand_16 : decode cX4_hand 16 = .ok (.iload_n 1, 1) := by decide +kernel
theorem dX4_hand_17 : decode cX4_hand 17 = .ok (.iload_n 2, 1) := by decide +kernel
theorem dX4_hand_18 : decode cX4_hand 18 = .ok (.invokevirtual 49, 3) := by decide +kernel
theorem dX4_hand_21 : decode cX4_hand 21 = .ok (.invokevirtual 38, 3) := by decide +kernel
theorem dX4_hand_24 : decode cX4_hand 24 = .ok (.ireturn, 1) := by decide +kernel
theorem dX4_deliver_0 : decode cX4_deliver 0 = .ok (.aload_n 0, 1) := by decide +kernel
theorem dX4_deliver_1 : decode cX4_deliver 1 = .ok (.getfield 27, 3) := by decide +kernel
theorem dX4_deliver_4 : decode cX4_deliver 4 = .ok (.aload_n 0, 1) := by decide +kernel
theorem dX4_deliver_5 : decode cX4_deliver 5 = .ok (.getfield 23, 3) := by decide +kernel
theorem dX4_deliver_8 : decode cX4_deliver 8 = .ok (.invokevirtual 30, 3) := by decide +kernel
theorem dX4_deliver_11 : decode cX4_deliver 11 = .ok (.aload_n 0, 1) := by decide +kernel
theorem dX4_deliver_12 : decode cX4_deliver 12 = .ok (.aload_n 0, 1) := by decide +kernel
theorem dX4_deliver_13 : decode cX4_deliver 13 = .ok (.getfield 23, 3) := by decide +kernel
theorem dX4_deliver_16 : decode cX4_deliver 16 = .ok (.iload_n 1, 1) := by decide +kernel
theorem dX4_deliver_17 : decode cX4_deliver 17 = .ok (.invokevirtual 52, 3) := by decide +kernel
theorem dX4_deliver_20 : decode cX4_deliver 20 = .ok (.invokevirtual 38, 3) := by decide +kernel
theorem dX4_deliver_23 : decode cX4_deliver 23 = .ok (.ireturn, 1) := by decide +kernel
theorem dX4_pledge_0 : decode cX4_pledge 0 = .ok (.aload_n 0, 1) := by decide +kernel
theorem dX4_pledge_1 : decode cX4_pledge 1 = .ok (.getfield 27, 3) := by decide +kernel
theorem dX4_pledge_4 : decode cX4_pledge 4 = .ok (.aload_n 0, 1) := by decide +kernel
theorem dX4_pledge_5 : decode cX4_pledge 5 = .ok (.getfield 23, 3) := by decide +kernel
theorem dX4_pledge_8 : decode cX4_pledge 8 = .ok (.invokevirtual 30, 3) := by decide +kernel
theorem dX4_pledge_11 : decode cX4_pledge 11 = .ok (.aload_n 0, 1) := by decide +kernel
theorem dX4_pledge_12 : decode cX4_pledge 12 = .ok (.aload_n 0, 1) := by decide +kernel
theorem dX4_pledge_13 : decode cX4_pledge 13 = .ok (.getfield 23, 3) := by decide +kernel
theorem dX4_pledge_16 : decode cX4_pledge 16 = .ok (.iload_n 1, 1) := by decide +kernel
theorem dX4_pledge_17 : decode cX4_pledge 17 = .ok (.iload_n 2, 1) := by decide +kernel
theorem dX4_pledge_18 : decode cX4_pledge 18 = .ok (.iload_n 3, 1) := by decide +kernel
theorem dX4_pledge_19 : decode cX4_pledge 19 = .ok (.invokevirtual 55, 3) := by decide +kernel
theorem dX4_pledge_22 : decode cX4_pledge 22 = .ok (.invokevirtual 38, 3) := by decide +kernel
theorem dX4_pledge_25 : decode cX4_pledge 25 = .ok (.ireturn, 1) := by decide +kernel
theorem dX4_repay_0 : decode cX4_repay 0 = .ok (.aload_n 0, 1) := by decide +kernel
theorem dX4_repay_1 : decode cX4_repay 1 = .ok (.getfield 27, 3) := by decide +kernel
theorem dX4_repay_4 : decode cX4_repay 4 = .ok (.aload_n 0, 1) := by decide +kernel
theorem dX4_repay_5 : decode cX4_repay 5 = .ok (.getfield 23, 3) := by decide +kernel
theorem dX4_repay_8 : decode cX4_repay 8 = .ok (.invokevirtual 30, 3) := by decide +kernel
theorem dX4_repay_11 : decode cX4_repay 11 = .ok (.aload_n 0, 1) := by decide +kernel
theorem dX4_repay_12 : decode cX4_repay 12 = .ok (.aload_n 0, 1) := by decide +kernel
theorem dX4_repay_13 : decode cX4_repay 13 = .ok (.getfield 23, 3) := by decide +kernel
theorem dX4_repay_16 : decode cX4_repay 16 = .ok (.iload_n 1, 1) := by decide +kernel
theorem dX4_repay_17 : decode cX4_repay 17 = .ok (.iload_n 2, 1) := by decide +kernel
theorem dX4_repay_18 : decode cX4_repay 18 = .ok (.invokevirtual 58, 3) := by decide +kernel
theorem dX4_repay_21 : decode cX4_repay 21 = .ok (.invokevirtual 38, 3) := by decide +kernel
theorem dX4_repay_24 : decode cX4_repay 24 = .ok (.ireturn, 1) := by decide +kernel
theorem dX4_price_0 : decode cX4_price 0 = .ok (.aload_n 0, 1) := by decide +kernel
theorem dX4_price_1 : decode cX4_price 1 = .ok (.getfield 27, 3) := by decide +kernel
theorem dX4_price_4 : decode cX4_price 4 = .ok (.aload_n 0, 1) := by decide +kernel
theorem dX4_price_5 : decode cX4_price 5 = .ok (.getfield 23, 3) := by decide +kernel
theorem dX4_price_8 : decode cX4_price 8 = .ok (.invokevirtual 30, 3) := by decide +kernel
theorem dX4_price_11 : decode cX4_price 11 = .ok (.aload_n 0, 1) := by decide +kernel
theorem dX4_price_12 : decode cX4_price 12 = .ok (.aload_n 0, 1) := by decide +kernel
theorem dX4_price_13 : decode cX4_price 13 = .ok (.getfield 23, 3) := by decide +kernel
theorem dX4_price_16 : decode cX4_price 16 = .ok (.iload_n 1, 1) := by decide +kernel
theorem dX4_price_17 : decode cX4_price 17 = .ok (.iload_n 2, 1) := by decide +kernel
theorem dX4_price_18 : decode cX4_price 18 = .ok (.invokevirtual 61, 3) := by decide +kernel
theorem dX4_price_21 : decode cX4_price 21 = .ok (.invokevirtual 38, 3) := by decide +kernel
theorem dX4_price_24 : decode cX4_price 24 = .ok (.ireturn, 1) := by decide +kernel
theorem dX4_call_0 : decode cX4_call 0 = .ok (.aload_n 0, 1) := by decide +kernel
theorem dX4_call_1 : decode cX4_call 1 = .ok (.getfield 27, 3) := by decide +kernel
theorem dX4_call_4 : decode cX4_call 4 = .ok (.aload_n 0, 1) := by decide +kernel
theorem dX4_call_5 : decode cX4_call 5 = .ok (.getfield 23, 3) := by decide +kernel
theorem dX4_call_8 : decode cX4_call 8 = .ok (.invokevirtual 30, 3) := by decide +kernel
theorem dX4_call_11 : decode cX4_call 11 = .ok (.aload_n 0, 1) := by decide +kernel
theorem dX4_call_12 : decode cX4_call 12 = .ok (.aload_n 0, 1) := by decide +kernel
theorem dX4_call_13 : decode cX4_call 13 = .ok (.getfield 23, 3) := by decide +kernel
theorem dX4_call_16 : decode cX4_call 16 = .ok (.iload_n 1, 1) := by decide +kernel
theorem dX4_call_17 : decode cX4_call 17 = .ok (.invokevirtual 64, 3) := by decide +kernel
theorem dX4_call_20 : decode cX4_call 20 = .ok (.invokevirtual 38, 3) := by decide +kernel
theorem dX4_call_23 : decode cX4_call 23 = .ok (.ireturn, 1) := by decide +kernel
theorem dX4_pass_0 : decode cX4_pass 0 = .ok (.aload_n 0, 1) := by decide +kernel
theorem dX4_pass_1 : decode cX4_pass 1 = .ok (.getfield 27, 3) := by decide +kernel
theorem dX4_pass_4 : decode cX4_pass 4 = .ok (.aload_n 0, 1) := by decide +kernel
theorem dX4_pass_5 : decode cX4_pass 5 = .ok (.getfield 23, 3) := by decide +kernel
theorem dX4_pass_8 : decode cX4_pass 8 = .ok (.invokevirtual 30, 3) := by decide +kernel
theorem dX4_pass_11 : decode cX4_pass 11 = .ok (.aload_n 0, 1) := by decide +kernel
theorem dX4_pass_12 : decode cX4_pass 12 = .ok (.aload_n 0, 1) := by decide +kernel
theorem dX4_pass_13 : decode cX4_pass 13 = .ok (.getfield 23, 3) := by decide +kernel
theorem dX4_pass_16 : decode cX4_pass 16 = .ok (.iload_n 1, 1) := by decide +kernel
theorem dX4_pass_17 : decode cX4_pass 17 = .ok (.invokevirtual 67, 3) := by decide +kernel
theorem dX4_pass_20 : decode cX4_pass 20 = .ok (.invokevirtual 38, 3) := by decide +kernel
theorem dX4_pass_23 : decode cX4_pass 23 = .ok (.ireturn, 1) := by decide +kernel
theorem dX4_lose_0 : decode cX4_lose 0 = .ok (.aload_n 0, 1) := by decide +kernel
theorem dX4_lose_1 : decode cX4_lose 1 = .ok (.getfield 27, 3) := by decide +kernel
theorem dX4_lose_4 : decode cX4_lose 4 = .ok (.aload_n 0, 1) := by decide +kernel
theorem dX4_lose_5 : decode cX4_lose 5 = .ok (.getfield 23, 3) := by decide +kernel
theorem dX4_lose_8 : decode cX4_lose 8 = .ok (.invokevirtual 30, 3) := by decide +kernel
theorem dX4_lose_11 : decode cX4_lose 11 = .ok (.aload_n 0, 1) := by decide +kernel
theorem dX4_lose_12 : decode cX4_lose 12 = .ok (.aload_n 0, 1) := by decide +kernel
theorem dX4_lose_13 : decode cX4_lose 13 = .ok (.getfield 23, 3) := by decide +kernel
theorem dX4_lose_16 : decode cX4_lose 16 = .ok (.iload_n 1, 1) := by decide +kernel
theorem dX4_lose_17 : decode cX4_lose 17 = .ok (.iload_n 2, 1) := by decide +kernel
theorem dX4_lose_18 : decode cX4_lose 18 = .ok (.invokevirtual 70, 3) := by decide +kernel
theorem dX4_lose_21 : decode cX4_lose 21 = .ok (.invokevirtual 38, 3) := by decide +kernel
theorem dX4_lose_24 : decode cX4_lose 24 = .ok (.ireturn, 1) := by decide +kernel
theorem dX4_regrade_0 : decode cX4_regrade 0 = .ok (.aload_n 0, 1) := by decide +kernel
theorem dX4_regrade_1 : decode cX4_regrade 1 = .ok (.getfield 27, 3) := by decide +kernel
theorem dX4_regrade_4 : decode cX4_regrade 4 = .ok (.aload_n 0, 1) := by decide +kernel
theorem dX4_regrade_5 : decode cX4_regrade 5 = .ok (.getfield 23, 3) := by decide +kernel
theorem dX4_regrade_8 : decode cX4_regrade 8 = .ok (.invokevirtual 30, 3) := by decide +kernel
theorem dX4_regrade_11 : decode cX4_regrade 11 = .ok (.aload_n 0, 1) := by decide +kernel
theorem dX4_regrade_12 : decode cX4_regrade 12 = .ok (.aload_n 0, 1) := by decide +kernel
theorem dX4_regrade_13 : decode cX4_regrade 13 = .ok (.getfield 23, 3) := by decide +kernel
theorem dX4_regrade_16 : decode cX4_regrade 16 = .ok (.iload_n 1, 1) := by decide +kernel
theorem dX4_regrade_17 : decode cX4_regrade 17 = .ok (.iload_n 2, 1) := by decide +kernel
theorem dX4_regrade_18 : decode cX4_regrade 18 = .ok (.invokevirtual 73, 3) := by decide +kernel
theorem dX4_regrade_21 : decode cX4_regrade 21 = .ok (.invokevirtual 38, 3) := by decide +kernel
theorem dX4_regrade_24 : decode cX4_regrade 24 = .ok (.ireturn, 1) := by decide +kernel
theorem dX4_set_0 : decode cX4_set 0 = .ok (.aload_n 0, 1) := by decide +kernel
theorem dX4_set_1 : decode cX4_set 1 = .ok (.getfield 27, 3) := by decide +kernel
theorem dX4_set_4 : decode cX4_set 4 = .ok (.aload_n 0, 1) := by decide +kernel
theorem dX4_set_5 : decode cX4_set 5 = .ok (.getfield 23, 3) := by decide +kernel
theorem dX4_set_8 : decode cX4_set 8 = .ok (.invokevirtual 30, 3) := by decide +kernel
theorem dX4_set_11 : decode cX4_set 11 = .ok (.aload_n 0, 1) := by decide +kernel
theorem dX4_set_12 : decode cX4_set 12 = .ok (.aload_n 0, 1) := by decide +kernel
theorem dX4_set_13 : decode cX4_set 13 = .ok (.getfield 23, 3) := by decide +kernel
theorem dX4_set_16 : decode cX4_set 16 = .ok (.iload_n 1, 1) := by decide +kernel
theorem dX4_set_17 : decode cX4_set 17 = .ok (.iload_n 2, 1) := by decide +kernel
theorem dX4_set_18 : decode cX4_set 18 = .ok (.invokevirtual 76, 3) := by decide +kernel
theorem dX4_set_21 : decode cX4_set 21 = .ok (.invokevirtual 38, 3) := by decide +kernel
theorem dX4_set_24 : decode cX4_set 24 = .ok (.ireturn, 1) := by decide +kernel
theorem dX4_receiptOf_0 : decode cX4_receiptOf 0 = .ok (.aload_n 0, 1) := by decide +kernel
theorem dX4_receiptOf_1 : decode cX4_receiptOf 1 = .ok (.getfield 23, 3) := by decide +kernel
theorem dX4_receiptOf_4 : decode cX4_receiptOf 4 = .ok (.iload_n 1, 1) := by decide +kernel
theorem dX4_receiptOf_5 : decode cX4_receiptOf 5 = .ok (.iload_n 2, 1) := by decide +kernel
theorem dX4_receiptOf_6 : decode cX4_receiptOf 6 = .ok (.invokevirtual 79, 3) := by decide +kernel
theorem dX4_receiptOf_9 : decode cX4_receiptOf 9 = .ok (.ireturn, 1) := by decide +kernel
theorem dX4_receipt_0 : decode cX4_receipt 0 = .ok (.aload_n 0, 1) := by decide +kernel
theorem dX4_receipt_1 : decode cX4_receipt 1 = .ok (.getfield 23, 3) := by decide +kernel
theorem dX4_receipt_4 : decode cX4_receipt 4 = .ok (.iload_n 1, 1) := by decide +kernel
theorem dX4_receipt_5 : decode cX4_receipt 5 = .ok (.invokevirtual 82, 3) := by decide +kernel
theorem dX4_receipt_8 : decode cX4_receipt 8 = .ok (.ireturn, 1) := by decide +kernel
theorem dX4_binOf_0 : decode cX4_binOf 0 = .ok (.aload_n 0, 1) := by decide +kernel
theorem dX4_binOf_1 : decode cX4_binOf 1 = .ok (.getfield 23, 3) := by decide +kernel
theorem dX4_binOf_4 : decode cX4_binOf 4 = .ok (.iload_n 1, 1) := by decide +kernel
theorem dX4_binOf_5 : decode cX4_binOf 5 = .ok (.iload_n 2, 1) := by decide +kernel
theorem dX4_binOf_6 : decode cX4_binOf 6 = .ok (.invokevirtual 85, 3) := by decide +kernel
theorem dX4_binOf_9 : decode cX4_binOf 9 = .ok (.ireturn, 1) := by decide +kernel
theorem dX4_gradeOf_0 : decode cX4_gradeOf 0 = .ok (.aload_n 0, 1) := by decide +kernel
theorem dX4_gradeOf_1 : decode cX4_gradeOf 1 = .ok (.getfield 23, 3) := by decide +kernel
theorem dX4_gradeOf_4 : decode cX4_gradeOf 4 = .ok (.iload_n 1, 1) := by decide +kernel
theorem dX4_gradeOf_5 : decode cX4_gradeOf 5 = .ok (.iload_n 2, 1) := by decide +kernel
theorem dX4_gradeOf_6 : decode cX4_gradeOf 6 = .ok (.invokevirtual 88, 3) := by decide +kernel
theorem dX4_gradeOf_9 : decode cX4_gradeOf 9 = .ok (.ireturn, 1) := by decide +kernel
theorem dX4_ownerOf_0 : decode cX4_ownerOf 0 = .ok (.aload_n 0, 1) := by decide +kernel
theorem dX4_ownerOf_1 : decode cX4_ownerOf 1 = .ok (.getfield 23, 3) := by decide +kernel
theorem dX4_ownerOf_4 : decode cX4_ownerOf 4 = .ok (.iload_n 1, 1) := by decide +kernel
theorem dX4_ownerOf_5 : decode cX4_ownerOf 5 = .ok (.iload_n 2, 1) := by decide +kernel
theorem dX4_ownerOf_6 : decode cX4_ownerOf 6 = .ok (.invokevirtual 91, 3) := by decide +kernel
theorem dX4_ownerOf_9 : decode cX4_ownerOf 9 = .ok (.ireturn, 1) := by decide +kernel
theorem dX4_lenderOf_0 : decode cX4_lenderOf 0 = .ok (.aload_n 0, 1) := by decide +kernel
theorem dX4_lenderOf_1 : decode cX4_lenderOf 1 = .ok (.getfield 23, 3) := by decide +kernel
theorem dX4_lenderOf_4 : decode cX4_lenderOf 4 = .ok (.iload_n 1, 1) := by decide +kernel
theorem dX4_lenderOf_5 : decode cX4_lenderOf 5 = .ok (.iload_n 2, 1) := by decide +kernel
theorem dX4_lenderOf_6 : decode cX4_lenderOf 6 = .ok (.invokevirtual 94, 3) := by decide +kernel
theorem dX4_lenderOf_9 : decode cX4_lenderOf 9 = .ok (.ireturn, 1) := by decide +kernel
theorem dX4_fallTo_0 : decode cX4_fallTo 0 = .ok (.aload_n 0, 1) := by decide +kernel
theorem dX4_fallTo_1 : decode cX4_fallTo 1 = .ok (.getfield 23, 3) := by decide +kernel
theorem dX4_fallTo_4 : decode cX4_fallTo 4 = .ok (.iload_n 1, 1) := by decide +kernel
theorem dX4_fallTo_5 : decode cX4_fallTo 5 = .ok (.invokevirtual 97, 3) := by decide +kernel
theorem dX4_fallTo_8 : decode cX4_fallTo 8 = .ok (.ireturn, 1) := by decide +kernel
theorem dX4_count_0 : decode cX4_count 0 = .ok (.iload_n 1, 1) := by decide +kernel
theorem dX4_count_1 : decode cX4_count 1 = .ok (.lookupswitch 40 #[(8, 27), (9, 32)], 27) := by decide +kernel
theorem dX4_count_28 : decode cX4_count 28 = .ok (.aload_n 0, 1) := by decide +kernel
theorem dX4_count_29 : decode cX4_count 29 = .ok (.getfield 100, 3) := by decide +kernel
theorem dX4_count_32 : decode cX4_count 32 = .ok (.ireturn, 1) := by decide +kernel
theorem dX4_count_33 : decode cX4_count 33 = .ok (.aload_n 0, 1) := by decide +kernel
theorem dX4_count_34 : decode cX4_count 34 = .ok (.getfield 10, 3) := by decide +kernel
theorem dX4_count_37 : decode cX4_count 37 = .ok (.getfield 104, 3) := by decide +kernel
theorem dX4_count_40 : decode cX4_count 40 = .ok (.ireturn, 1) := by decide +kernel
theorem dX4_count_41 : decode cX4_count 41 = .ok (.aload_n 0, 1) := by decide +kernel
theorem dX4_count_42 : decode cX4_count 42 = .ok (.getfield 23, 3) := by decide +kernel
theorem dX4_count_45 : decode cX4_count 45 = .ok (.iload_n 1, 1) := by decide +kernel
theorem dX4_count_46 : decode cX4_count 46 = .ok (.invokevirtual 107, 3) := by decide +kernel
theorem dX4_count_49 : decode cX4_count 49 = .ok (.ireturn, 1) := by decide +kernel
theorem dX4_undo_0 : decode cX4_undo 0 = .ok (.aload_n 0, 1) := by decide +kernel
theorem dX4_undo_1 : decode cX4_undo 1 = .ok (.getfield 100, 3) := by decide +kernel
theorem dX4_undo_4 : decode cX4_undo 4 = .ok (.ifCond .gt 6, 3) := by decide +kernel
theorem dX4_undo_7 : decode cX4_undo 7 = .ok (.ldc 110, 2) := by decide +kernel
theorem dX4_undo_9 : decode cX4_undo 9 = .ok (.ireturn, 1) := by decide +kernel
theorem dX4_undo_10 : decode cX4_undo 10 = .ok (.aload_n 0, 1) := by decide +kernel
theorem dX4_undo_11 : decode cX4_undo 11 = .ok (.getfield 23, 3) := by decide +kernel
theorem dX4_undo_14 : decode cX4_undo 14 = .ok (.astore_n 1, 1) := by decide +kernel
theorem dX4_undo_15 : decode cX4_undo 15 = .ok (.aload_n 0, 1) := by decide +kernel
theorem dX4_undo_16 : decode cX4_undo 16 = .ok (.aload_n 0, 1) := by decide +kernel
theorem dX4_undo_17 : decode cX4_undo 17 = .ok (.getfield 18, 3) := by decide +kernel
theorem dX4_undo_20 : decode cX4_undo 20 = .ok (.iconst 0, 1) := by decide +kernel
theorem dX4_undo_21 : decode cX4_undo 21 = .ok (.aaload, 1) := by decide +kernel
theorem dX4_undo_22 : decode cX4_undo 22 = .ok (.putfield 23, 3) := by decide +kernel
theorem dX4_undo_25 : decode cX4_undo 25 = .ok (.iconst 0, 1) := by decide +kernel
theorem dX4_undo_26 : decode cX4_undo 26 = .ok (.istore_n 2, 1) := by decide +kernel
theorem dX4_undo_27 : decode cX4_undo 27 = .ok (.iload_n 2, 1) := by decide +kernel
theorem dX4_undo_28 : decode cX4_undo 28 = .ok (.iconst 1, 1) := by decide +kernel
theorem dX4_undo_29 : decode cX4_undo 29 = .ok (.iadd, 1) := by decide +kernel
theorem dX4_undo_30 : decode cX4_undo 30 = .ok (.iconst 4, 1) := by decide +kernel
theorem dX4_undo_31 : decode cX4_undo 31 = .ok (.if_icmp .ge 23, 3) := by decide +kernel
theorem dX4_undo_34 : decode cX4_undo 34 = .ok (.aload_n 0, 1) := by decide +kernel
theorem dX4_undo_35 : decode cX4_undo 35 = .ok (.getfield 18, 3) := by decide +kernel
theorem dX4_undo_38 : decode cX4_undo 38 = .ok (.iload_n 2, 1) := by decide +kernel
theorem dX4_undo_39 : decode cX4_undo 39 = .ok (.aload_n 0, 1) := by decide +kernel
theorem dX4_undo_40 : decode cX4_undo 40 = .ok (.getfield 18, 3) := by decide +kernel
theorem dX4_undo_43 : decode cX4_undo 43 = .ok (.iload_n 2, 1) := by decide +kernel
theorem dX4_undo_44 : decode cX4_undo 44 = .ok (.iconst 1, 1) := by decide +kernel
theorem dX4_undo_45 : decode cX4_undo 45 = .ok (.iadd, 1) := by decide +kernel
theorem dX4_undo_46 : decode cX4_undo 46 = .ok (.aaload, 1) := by decide +kernel
theorem dX4_undo_47 : decode cX4_undo 47 = .ok (.aastore, 1) := by decide +kernel
theorem dX4_undo_48 : decode cX4_undo 48 = .ok (.iinc 2 1, 3) := by decide +kernel
theorem dX4_undo_51 : decode cX4_undo 51 = .ok (.goto (-24), 3) := by decide +kernel
theorem dX4_undo_54 : decode cX4_undo 54 = .ok (.aload_n 0, 1) := by decide +kernel
theorem dX4_undo_55 : decode cX4_undo 55 = .ok (.getfield 18, 3) := by decide +kernel
theorem dX4_undo_58 : decode cX4_undo 58 = .ok (.iconst 3, 1) := by decide +kernel
theorem dX4_undo_59 : decode cX4_undo 59 = .ok (.aload_n 1, 1) := by decide +kernel
theorem dX4_undo_60 : decode cX4_undo 60 = .ok (.aastore, 1) := by decide +kernel
theorem dX4_undo_61 : decode cX4_undo 61 = .ok (.aload_n 0, 1) := by decide +kernel
theorem dX4_undo_62 : decode cX4_undo 62 = .ok (.dup, 1) := by decide +kernel
theorem dX4_undo_63 : decode cX4_undo 63 = .ok (.getfield 100, 3) := by decide +kernel
theorem dX4_undo_66 : decode cX4_undo 66 = .ok (.iconst 1, 1) := by decide +kernel
theorem dX4_undo_67 : decode cX4_undo 67 = .ok (.isub, 1) := by decide +kernel
theorem dX4_undo_68 : decode cX4_undo 68 = .ok (.putfield 100, 3) := by decide +kernel
theorem dX4_undo_71 : decode cX4_undo 71 = .ok (.aload_n 0, 1) := by decide +kernel
theorem dX4_undo_72 : decode cX4_undo 72 = .ok (.getfield 100, 3) := by decide +kernel
theorem dX4_undo_75 : decode cX4_undo 75 = .ok (.ireturn, 1) := by decide +kernel
theorem dX4_type_0 : decode cX4_type 0 = .ok (.aload_n 0, 1) := by decide +kernel
theorem dX4_type_1 : decode cX4_type 1 = .ok (.getfield 10, 3) := by decide +kernel
theorem dX4_type_4 : decode cX4_type 4 = .ok (.iload_n 1, 1) := by decide +kernel
theorem dX4_type_5 : decode cX4_type 5 = .ok (.invokevirtual 111, 3) := by decide +kernel
theorem dX4_type_8 : decode cX4_type 8 = .ok (.ireturn, 1) := by decide +kernel
theorem dX4_clearText_0 : decode cX4_clearText 0 = .ok (.aload_n 0, 1) := by decide +kernel
theorem dX4_clearText_1 : decode cX4_clearText 1 = .ok (.getfield 10, 3) := by decide +kernel
theorem dX4_clearText_4 : decode cX4_clearText 4 = .ok (.getfield 104, 3) := by decide +kernel
theorem dX4_clearText_7 : decode cX4_clearText 7 = .ok (.istore_n 1, 1) := by decide +kernel
theorem dX4_clearText_8 : decode cX4_clearText 8 = .ok (.aload_n 0, 1) := by decide +kernel
theorem dX4_clearText_9 : decode cX4_clearText 9 = .ok (.getfield 10, 3) := by decide +kernel
theorem dX4_clearText_12 : decode cX4_clearText 12 = .ok (.iconst 0, 1) := by decide +kernel
theorem dX4_clearText_13 : decode cX4_clearText 13 = .ok (.putfield 104, 3) := by decide +kernel
theorem dX4_clearText_16 : decode cX4_clearText 16 = .ok (.iload_n 1, 1) := by decide +kernel
theorem dX4_clearText_17 : decode cX4_clearText 17 = .ok (.ireturn, 1) := by decide +kernel
theorem dX4_fault_0 : decode cX4_fault 0 = .ok (.iload_n 1, 1) := by decide +kernel
theorem dX4_fault_1 : decode cX4_fault 1 = .ok (.ifCond .lt 8, 3) := by decide +kernel
theorem dX4_fault_4 : decode cX4_fault 4 = .ok (.iload_n 1, 1) := by decide +kernel
theorem dX4_fault_5 : decode cX4_fault 5 = .ok (.iconst 2, 1) := by decide +kernel
theorem dX4_fault_6 : decode cX4_fault 6 = .ok (.if_icmp .le 6, 3) := by decide +kernel
theorem dX4_fault_9 : decode cX4_fault 9 = .ok (.ldc 114, 2) := by decide +kernel
theorem dX4_fault_11 : decode cX4_fault 11 = .ok (.ireturn, 1) := by decide +kernel
theorem dX4_fault_12 : decode cX4_fault 12 = .ok (.aload_n 0, 1) := by decide +kernel
theorem dX4_fault_13 : decode cX4_fault 13 = .ok (.getfield 27, 3) := by decide +kernel
theorem dX4_fault_16 : decode cX4_fault 16 = .ok (.aload_n 0, 1) := by decide +kernel
theorem dX4_fault_17 : decode cX4_fault 17 = .ok (.getfield 23, 3) := by decide +kernel
theorem dX4_fault_20 : decode cX4_fault 20 = .ok (.invokevirtual 30, 3) := by decide +kernel
theorem dX4_fault_23 : decode cX4_fault 23 = .ok (.aload_n 0, 1) := by decide +kernel
theorem dX4_fault_24 : decode cX4_fault 24 = .ok (.getfield 10, 3) := by decide +kernel
theorem dX4_fault_27 : decode cX4_fault 27 = .ok (.aload_n 0, 1) := by decide +kernel
theorem dX4_fault_28 : decode cX4_fault 28 = .ok (.getfield 27, 3) := by decide +kernel
theorem dX4_fault_31 : decode cX4_fault 31 = .ok (.invokevirtual 115, 3) := by decide +kernel
theorem dX4_fault_34 : decode cX4_fault 34 = .ok (.aload_n 0, 1) := by decide +kernel
theorem dX4_fault_35 : decode cX4_fault 35 = .ok (.getfield 10, 3) := by decide +kernel
theorem dX4_fault_38 : decode cX4_fault 38 = .ok (.getfield 118, 3) := by decide +kernel
theorem dX4_fault_41 : decode cX4_fault 41 = .ok (.ifCond .ne 6, 3) := by decide +kernel
theorem dX4_fault_44 : decode cX4_fault 44 = .ok (.ldc 121, 2) := by decide +kernel
theorem dX4_fault_46 : decode cX4_fault 46 = .ok (.ireturn, 1) := by decide +kernel
theorem dX4_fault_47 : decode cX4_fault 47 = .ok (.iload_n 1, 1) := by decide +kernel
theorem dX4_fault_48 : decode cX4_fault 48 = .ok (.lookupswitch 44 #[(0, 28), (1, 36)], 28) := by decide +kernel
theorem dX4_fault_76 : decode cX4_fault 76 = .ok (.aload_n 0, 1) := by decide +kernel
theorem dX4_fault_77 : decode cX4_fault 77 = .ok (.getfield 10, 3) := by decide +kernel
theorem dX4_fault_80 : decode cX4_fault 80 = .ok (.getfield 122, 3) := by decide +kernel
theorem dX4_fault_83 : decode cX4_fault 83 = .ok (.ireturn, 1) := by decide +kernel
theorem dX4_fault_84 : decode cX4_fault 84 = .ok (.aload_n 0, 1) := by decide +kernel
theorem dX4_fault_85 : decode cX4_fault 85 = .ok (.getfield 10, 3) := by decide +kernel
theorem dX4_fault_88 : decode cX4_fault 88 = .ok (.getfield 118, 3) := by decide +kernel
theorem dX4_fault_91 : decode cX4_fault 91 = .ok (.ireturn, 1) := by decide +kernel
theorem dX4_fault_92 : decode cX4_fault 92 = .ok (.aload_n 0, 1) := by decide +kernel
theorem dX4_fault_93 : decode cX4_fault 93 = .ok (.getfield 10, 3) := by decide +kernel
theorem dX4_fault_96 : decode cX4_fault 96 = .ok (.getfield 125, 3) := by decide +kernel
theorem dX4_fault_99 : decode cX4_fault 99 = .ok (.ireturn, 1) := by decide +kernel
theorem dX4_play_0 : decode cX4_play 0 = .ok (.aload_n 0, 1) := by decide +kernel
theorem dX4_play_1 : decode cX4_play 1 = .ok (.getfield 27, 3) := by decide +kernel
theorem dX4_play_4 : decode cX4_play 4 = .ok (.aload_n 0, 1) := by decide +kernel
theorem dX4_play_5 : decode cX4_play 5 = .ok (.getfield 23, 3) := by decide +kernel
theorem dX4_play_8 : decode cX4_play 8 = .ok (.invokevirtual 30, 3) := by decide +kernel
theorem dX4_play_11 : decode cX4_play 11 = .ok (.aload_n 0, 1) := by decide +kernel
theorem dX4_play_12 : decode cX4_play 12 = .ok (.getfield 10, 3) := by decide +kernel
theorem dX4_play_15 : decode cX4_play 15 = .ok (.aload_n 0, 1) := by decide +kernel
theorem dX4_play_16 : decode cX4_play 16 = .ok (.getfield 27, 3) := by decide +kernel
theorem dX4_play_19 : decode cX4_play 19 = .ok (.invokevirtual 115, 3) := by decide +kernel
theorem dX4_play_22 : decode cX4_play 22 = .ok (.aload_n 0, 1) := by decide +kernel
theorem dX4_play_23 : decode cX4_play 23 = .ok (.getfield 10, 3) := by decide +kernel
theorem dX4_play_26 : decode cX4_play 26 = .ok (.getfield 118, 3) := by decide +kernel
theorem dX4_play_29 : decode cX4_play 29 = .ok (.ifCond .eq 6, 3) := by decide +kernel
theorem dX4_play_32 : decode cX4_play 32 = .ok (.ldc 110, 2) := by decide +kernel
theorem dX4_play_34 : decode cX4_play 34 = .ok (.ireturn, 1) := by decide +kernel
theorem dX4_play_35 : decode cX4_play 35 = .ok (.aload_n 0, 1) := by decide +kernel
theorem dX4_play_36 : decode cX4_play 36 = .ok (.getfield 23, 3) := by decide +kernel
theorem dX4_play_39 : decode cX4_play 39 = .ok (.astore_n 1, 1) := by decide +kernel
theorem dX4_play_40 : decode cX4_play 40 = .ok (.aload_n 0, 1) := by decide +kernel
theorem dX4_play_41 : decode cX4_play 41 = .ok (.aload_n 0, 1) := by decide +kernel
theorem dX4_play_42 : decode cX4_play 42 = .ok (.getfield 27, 3) := by decide +kernel
theorem dX4_play_45 : decode cX4_play 45 = .ok (.putfield 23, 3) := by decide +kernel
theorem dX4_play_48 : decode cX4_play 48 = .ok (.aload_n 0, 1) := by decide +kernel
theorem dX4_play_49 : decode cX4_play 49 = .ok (.aload_n 1, 1) := by decide +kernel
theorem dX4_play_50 : decode cX4_play 50 = .ok (.putfield 27, 3) := by decide +kernel
theorem dX4_play_53 : decode cX4_play 53 = .ok (.aload_n 0, 1) := by decide +kernel
theorem dX4_play_54 : decode cX4_play 54 = .ok (.invokevirtual 128, 3) := by decide +kernel
theorem dX4_play_57 : decode cX4_play 57 = .ok (.aload_n 0, 1) := by decide +kernel
theorem dX4_play_58 : decode cX4_play 58 = .ok (.getfield 10, 3) := by decide +kernel
theorem dX4_play_61 : decode cX4_play 61 = .ok (.getfield 131, 3) := by decide +kernel
theorem dX4_play_64 : decode cX4_play 64 = .ok (.ireturn, 1) := by decide +kernel
theorem dX4_recorded_0 : decode cX4_recorded 0 = .ok (.iload_n 1, 1) := by decide +kernel
theorem dX4_recorded_1 : decode cX4_recorded 1 = .ok (.invokestatic 134, 3) := by decide +kernel
theorem dX4_recorded_4 : decode cX4_recorded 4 = .ok (.ifCond .ne 7, 3) := by decide +kernel
theorem dX4_recorded_7 : decode cX4_recorded 7 = .ok (.aload_n 0, 1) := by decide +kernel
theorem dX4_recorded_8 : decode cX4_recorded 8 = .ok (.invokevirtual 128, 3) := by decide +kernel
theorem dX4_recorded_11 : decode cX4_recorded 11 = .ok (.iload_n 1, 1) := by decide +kernel
theorem dX4_recorded_12 : decode cX4_recorded 12 = .ok (.ireturn, 1) := by decide +kernel
theorem dX4_recordSpare_0 : decode cX4_recordSpare 0 = .ok (.aload_n 0, 1) := by decide +kernel
theorem dX4_recordSpare_1 : decode cX4_recordSpare 1 = .ok (.getfield 18, 3) := by decide +kernel
theorem dX4_recordSpare_4 : decode cX4_recordSpare 4 = .ok (.iconst 3, 1) := by decide +kernel
theorem dX4_recordSpare_5 : decode cX4_recordSpare 5 = .ok (.aaload, 1) := by decide +kernel
theorem dX4_recordSpare_6 : decode cX4_recordSpare 6 = .ok (.astore_n 1, 1) := by decide +kernel
theorem dX4_recordSpare_7 : decode cX4_recordSpare 7 = .ok (.iconst 3, 1) := by decide +kernel
theorem dX4_recordSpare_8 : decode cX4_recordSpare 8 = .ok (.istore_n 2, 1) := by decide +kernel
theorem dX4_recordSpare_9 : decode cX4_recordSpare 9 = .ok (.iload_n 2, 1) := by decide +kernel
theorem dX4_recordSpare_10 : decode cX4_recordSpare 10 = .ok (.ifCond .le 23, 3) := by decide +kernel
theorem dX4_recordSpare_13 : decode cX4_recordSpare 13 = .ok (.aload_n 0, 1) := by decide +kernel
theorem dX4_recordSpare_14 : decode cX4_recordSpare 14 = .ok (.getfield 18, 3) := by decide +kernel
theorem dX4_recordSpare_17 : decode cX4_recordSpare 17 = .ok (.iload_n 2, 1) := by decide +kernel
theorem dX4_recordSpare_18 : decode cX4_recordSpare 18 = .ok (.aload_n 0, 1) := by decide +kernel
theorem dX4_recordSpare_19 : decode cX4_recordSpare 19 = .ok (.getfield 18, 3) := by decide +kernel
theorem dX4_recordSpare_22 : decode cX4_recordSpare 22 = .ok (.iload_n 2, 1) := by decide +kernel
theorem dX4_recordSpare_23 : decode cX4_recordSpare 23 = .ok (.iconst 1, 1) := by decide +kernel
theorem dX4_recordSpare_24 : decode cX4_recordSpare 24 = .ok (.isub, 1) := by decide +kernel
theorem dX4_recordSpare_25 : decode cX4_recordSpare 25 = .ok (.aaload, 1) := by decide +kernel
theorem dX4_recordSpare_26 : decode cX4_recordSpare 26 = .ok (.aastore, 1) := by decide +kernel
theorem dX4_recordSpare_27 : decode cX4_recordSpare 27 = .ok (.iinc 2 (-1), 3) := by decide +kernel
theorem dX4_recordSpare_30 : decode cX4_recordSpare 30 = .ok (.goto (-21), 3) := by decide +kernel
theorem dX4_recordSpare_33 : decode cX4_recordSpare 33 = .ok (.aload_n 0, 1) := by decide +kernel
theorem dX4_recordSpare_34 : decode cX4_recordSpare 34 = .ok (.getfield 18, 3) := by decide +kernel
theorem dX4_recordSpare_37 : decode cX4_recordSpare 37 = .ok (.iconst 0, 1) := by decide +kernel
theorem dX4_recordSpare_38 : decode cX4_recordSpare 38 = .ok (.aload_n 0, 1) := by decide +kernel
theorem dX4_recordSpare_39 : decode cX4_recordSpare 39 = .ok (.getfield 27, 3) := by decide +kernel
theorem dX4_recordSpare_42 : decode cX4_recordSpare 42 = .ok (.aastore, 1) := by decide +kernel
theorem dX4_recordSpare_43 : decode cX4_recordSpare 43 = .ok (.aload_n 0, 1) := by decide +kernel
theorem dX4_recordSpare_44 : decode cX4_recordSpare 44 = .ok (.aload_n 1, 1) := by decide +kernel
theorem dX4_recordSpare_45 : decode cX4_recordSpare 45 = .ok (.putfield 27, 3) := by decide +kernel
theorem dX4_recordSpare_48 : decode cX4_recordSpare 48 = .ok (.aload_n 0, 1) := by decide +kernel
theorem dX4_recordSpare_49 : decode cX4_recordSpare 49 = .ok (.getfield 100, 3) := by decide +kernel
theorem dX4_recordSpare_52 : decode cX4_recordSpare 52 = .ok (.iconst 4, 1) := by decide +kernel
theorem dX4_recordSpare_53 : decode cX4_recordSpare 53 = .ok (.if_icmp .ge 13, 3) := by decide +kernel
theorem dX4_recordSpare_56 : decode cX4_recordSpare 56 = .ok (.aload_n 0, 1) := by decide +kernel
theorem dX4_recordSpare_57 : decode cX4_recordSpare 57 = .ok (.dup, 1) := by decide +kernel
theorem dX4_recordSpare_58 : decode cX4_recordSpare 58 = .ok (.getfield 100, 3) := by decide +kernel
theorem dX4_recordSpare_61 : decode cX4_recordSpare 61 = .ok (.iconst 1, 1) := by decide +kernel
theorem dX4_recordSpare_62 : decode cX4_recordSpare 62 = .ok (.iadd, 1) := by decide +kernel
theorem dX4_recordSpare_63 : decode cX4_recordSpare 63 = .ok (.putfield 100, 3) := by decide +kernel
theorem dX4_recordSpare_66 : decode cX4_recordSpare 66 = .ok (.return_, 1) := by decide +kernel
theorem dX4_isError_0 : decode cX4_isError 0 = .ok (.iload_n 0, 1) := by decide +kernel
theorem dX4_isError_1 : decode cX4_isError 1 = .ok (.ldc 121, 2) := by decide +kernel
theorem dX4_isError_3 : decode cX4_isError 3 = .ok (.if_icmp .lt 13, 3) := by decide +kernel
theorem dX4_isError_6 : decode cX4_isError 6 = .ok (.iload_n 0, 1) := by decide +kernel
theorem dX4_isError_7 : decode cX4_isError 7 = .ok (.ldc 114, 2) := by decide +kernel
theorem dX4_isError_9 : decode cX4_isError 9 = .ok (.if_icmp .gt 7, 3) := by decide +kernel
theorem dX4_isError_12 : decode cX4_isError 12 = .ok (.iconst 1, 1) := by decide +kernel
theorem dX4_isError_13 : decode cX4_isError 13 = .ok (.goto 4, 3) := by decide +kernel
theorem dX4_isError_16 : decode cX4_isError 16 = .ok (.iconst 0, 1) := by decide +kernel
theorem dX4_isError_17 : decode cX4_isError 17 = .ok (.ireturn, 1) := by decide +kernel
theorem dX4_isGrade_0 : decode cX4_isGrade 0 = .ok (.iload_n 0, 1) := by decide +kernel
theorem dX4_isGrade_1 : decode cX4_isGrade 1 = .ok (.ifCond .lt 12, 3) := by decide +kernel
theorem dX4_isGrade_4 : decode cX4_isGrade 4 = .ok (.iload_n 0, 1) := by decide +kernel
theorem dX4_isGrade_5 : decode cX4_isGrade 5 = .ok (.iconst 3, 1) := by decide +kernel
theorem dX4_isGrade_6 : decode cX4_isGrade 6 = .ok (.if_icmp .ge 7, 3) := by decide +kernel
theorem dX4_isGrade_9 : decode cX4_isGrade 9 = .ok (.iconst 1, 1) := by decide +kernel
theorem dX4_isGrade_10 : decode cX4_isGrade 10 = .ok (.goto 4, 3) := by decide +kernel
theorem dX4_isGrade_13 : decode cX4_isGrade 13 = .ok (.iconst 0, 1) := by decide +kernel
theorem dX4_isGrade_14 : decode cX4_isGrade 14 = .ok (.ireturn, 1) := by decide +kernel
theorem dX4_isBin_0 : decode cX4_isBin 0 = .ok (.iload_n 0, 1) := by decide +kernel
theorem dX4_isBin_1 : decode cX4_isBin 1 = .ok (.ifCond .lt 12, 3) := by decide +kernel
theorem dX4_isBin_4 : decode cX4_isBin 4 = .ok (.iload_n 0, 1) := by decide +kernel
theorem dX4_isBin_5 : decode cX4_isBin 5 = .ok (.iconst 5, 1) := by decide +kernel
theorem dX4_isBin_6 : decode cX4_isBin 6 = .ok (.if_icmp .ge 7, 3) := by decide +kernel
theorem dX4_isBin_9 : decode cX4_isBin 9 = .ok (.iconst 1, 1) := by decide +kernel
theorem dX4_isBin_10 : decode cX4_isBin 10 = .ok (.goto 4, 3) := by decide +kernel
theorem dX4_isBin_13 : decode cX4_isBin 13 = .ok (.iconst 0, 1) := by decide +kernel
theorem dX4_isBin_14 : decode cX4_isBin 14 = .ok (.ireturn, 1) := by decide +kernel
theorem dX4_isOwner_0 : decode cX4_isOwner 0 = .ok (.iload_n 0, 1) := by decide +kernel
theorem dX4_isOwner_1 : decode cX4_isOwner 1 = .ok (.ifCond .lt 13, 3) := by decide +kernel
theorem dX4_isOwner_4 : decode cX4_isOwner 4 = .ok (.iload_n 0, 1) := by decide +kernel
theorem dX4_isOwner_5 : decode cX4_isOwner 5 = .ok (.bipush 8, 2) := by decide +kernel
theorem dX4_isOwner_7 : decode cX4_isOwner 7 = .ok (.if_icmp .ge 7, 3) := by decide +kernel
theorem dX4_isOwner_10 : decode cX4_isOwner 10 = .ok (.iconst 1, 1) := by decide +kernel
theorem dX4_isOwner_11 : decode cX4_isOwner 11 = .ok (.goto 4, 3) := by decide +kernel
theorem dX4_isOwner_14 : decode cX4_isOwner 14 = .ok (.iconst 0, 1) := by decide +kernel
theorem dX4_isOwner_15 : decode cX4_isOwner 15 = .ok (.ireturn, 1) := by decide +kernel
theorem dX4_isLender_0 : decode cX4_isLender 0 = .ok (.iload_n 0, 1) := by decide +kernel
theorem dX4_isLender_1 : decode cX4_isLender 1 = .ok (.ifCond .lt 12, 3) := by decide +kernel
theorem dX4_isLender_4 : decode cX4_isLender 4 = .ok (.iload_n 0, 1) := by decide +kernel
theorem dX4_isLender_5 : decode cX4_isLender 5 = .ok (.iconst 3, 1) := by decide +kernel
theorem dX4_isLender_6 : decode cX4_isLender 6 = .ok (.if_icmp .ge 7, 3) := by decide +kernel
theorem dX4_isLender_9 : decode cX4_isLender 9 = .ok (.iconst 1, 1) := by decide +kernel
theorem dX4_isLender_10 : decode cX4_isLender 10 = .ok (.goto 4, 3) := by decide +kernel
theorem dX4_isLender_13 : decode cX4_isLender 13 = .ok (.iconst 0, 1) := by decide +kernel
theorem dX4_isLender_14 : decode cX4_isLender 14 = .ok (.ireturn, 1) := by decide +kernel
theorem dX4_isSetting_0 : decode cX4_isSetting 0 = .ok (.iload_n 0, 1) := by decide +kernel
theorem dX4_isSetting_1 : decode cX4_isSetting 1 = .ok (.ifCond .lt 12, 3) := by decide +kernel
theorem dX4_isSetting_4 : decode cX4_isSetting 4 = .ok (.iload_n 0, 1) := by decide +kernel
theorem dX4_isSetting_5 : decode cX4_isSetting 5 = .ok (.iconst 4, 1) := by decide +kernel
theorem dX4_isSetting_6 : decode cX4_isSetting 6 = .ok (.if_icmp .ge 7, 3) := by decide +kernel
theorem dX4_isSetting_9 : decode cX4_isSetting 9 = .ok (.iconst 1, 1) := by decide +kernel
theorem dX4_isSetting_10 : decode cX4_isSetting 10 = .ok (.goto 4, 3) := by decide +kernel
theorem dX4_isSetting_13 : decode cX4_isSetting 13 = .ok (.iconst 0, 1) := by decide +kernel
theorem dX4_isSetting_14 : decode cX4_isSetting 14 = .ok (.ireturn, 1) := by decide +kernel
theorem dX4_bitsOf_0 : decode cX4_bitsOf 0 = .ok (.fload_n 0, 1) := by decide +kernel
theorem dX4_bitsOf_1 : decode cX4_bitsOf 1 = .ok (.fconst 0, 1) := by decide +kernel
theorem dX4_bitsOf_2 : decode cX4_bitsOf 2 = .ok (.fcmp .g, 1) := by decide +kernel
theorem dX4_bitsOf_3 : decode cX4_bitsOf 3 = .ok (.ifCond .gt 5, 3) := by decide +kernel
theorem dX4_bitsOf_6 : decode cX4_bitsOf 6 = .ok (.iconst 0, 1) := by decide +kernel
theorem dX4_bitsOf_7 : decode cX4_bitsOf 7 = .ok (.ireturn, 1) := by decide +kernel
theorem dX4_bitsOf_8 : decode cX4_bitsOf 8 = .ok (.fload_n 0, 1) := by decide +kernel
theorem dX4_bitsOf_9 : decode cX4_bitsOf 9 = .ok (.fstore_n 1, 1) := by decide +kernel
theorem dX4_bitsOf_10 : decode cX4_bitsOf 10 = .ok (.bipush 127, 2) := by decide +kernel
theorem dX4_bitsOf_12 : decode cX4_bitsOf 12 = .ok (.istore_n 2, 1) := by decide +kernel
theorem dX4_bitsOf_13 : decode cX4_bitsOf 13 = .ok (.iconst 0, 1) := by decide +kernel
theorem dX4_bitsOf_14 : decode cX4_bitsOf 14 = .ok (.istore_n 3, 1) := by decide +kernel
theorem dX4_bitsOf_15 : decode cX4_bitsOf 15 = .ok (.iload_n 3, 1) := by decide +kernel
theorem dX4_bitsOf_16 : decode cX4_bitsOf 16 = .ok (.bipush 127, 2) := by decide +kernel
theorem dX4_bitsOf_18 : decode cX4_bitsOf 18 = .ok (.if_icmp .ge 22, 3) := by decide +kernel
theorem dX4_bitsOf_21 : decode cX4_bitsOf 21 = .ok (.fload_n 1, 1) := by decide +kernel
theorem dX4_bitsOf_22 : decode cX4_bitsOf 22 = .ok (.fconst 2, 1) := by decide +kernel
theorem dX4_bitsOf_23 : decode cX4_bitsOf 23 = .ok (.fcmp .l, 1) := by decide +kernel
theorem dX4_bitsOf_24 : decode cX4_bitsOf 24 = .ok (.ifCond .lt 16, 3) := by decide +kernel
theorem dX4_bitsOf_27 : decode cX4_bitsOf 27 = .ok (.fload_n 1, 1) := by decide +kernel
theorem dX4_bitsOf_28 : decode cX4_bitsOf 28 = .ok (.fconst 2, 1) := by decide +kernel
theorem dX4_bitsOf_29 : decode cX4_bitsOf 29 = .ok (.fdiv, 1) := by decide +kernel
theorem dX4_bitsOf_30 : decode cX4_bitsOf 30 = .ok (.fstore_n 1, 1) := by decide +kernel
theorem dX4_bitsOf_31 : decode cX4_bitsOf 31 = .ok (.iinc 2 1, 3) := by decide +kernel
theorem dX4_bitsOf_34 : decode cX4_bitsOf 34 = .ok (.iinc 3 1, 3) := by decide +kernel
theorem dX4_bitsOf_37 : decode cX4_bitsOf 37 = .ok (.goto (-22), 3) := by decide +kernel
theorem dX4_bitsOf_40 : decode cX4_bitsOf 40 = .ok (.iconst 0, 1) := by decide +kernel
theorem dX4_bitsOf_41 : decode cX4_bitsOf 41 = .ok (.istore_n 3, 1) := by decide +kernel
theorem dX4_bitsOf_42 : decode cX4_bitsOf 42 = .ok (.iload_n 3, 1) := by decide +kernel
theorem dX4_bitsOf_43 : decode cX4_bitsOf 43 = .ok (.bipush 126, 2) := by decide +kernel
theorem dX4_bitsOf_45 : decode cX4_bitsOf 45 = .ok (.if_icmp .ge 22, 3) := by decide +kernel
theorem dX4_bitsOf_48 : decode cX4_bitsOf 48 = .ok (.fload_n 1, 1) := by decide +kernel
theorem dX4_bitsOf_49 : decode cX4_bitsOf 49 = .ok (.fconst 1, 1) := by decide +kernel
theorem dX4_bitsOf_50 : decode cX4_bitsOf 50 = .ok (.fcmp .g, 1) := by decide +kernel
theorem dX4_bitsOf_51 : decode cX4_bitsOf 51 = .ok (.ifCond .ge 16, 3) := by decide +kernel
theorem dX4_bitsOf_54 : decode cX4_bitsOf 54 = .ok (.fload_n 1, 1) := by decide +kernel
theorem dX4_bitsOf_55 : decode cX4_bitsOf 55 = .ok (.fconst 2, 1) := by decide +kernel
theorem dX4_bitsOf_56 : decode cX4_bitsOf 56 = .ok (.fmul, 1) := by decide +kernel
theorem dX4_bitsOf_57 : decode cX4_bitsOf 57 = .ok (.fstore_n 1, 1) := by decide +kernel
theorem dX4_bitsOf_58 : decode cX4_bitsOf 58 = .ok (.iinc 2 (-1), 3) := by decide +kernel
theorem dX4_bitsOf_61 : decode cX4_bitsOf 61 = .ok (.iinc 3 1, 3) := by decide +kernel
theorem dX4_bitsOf_64 : decode cX4_bitsOf 64 = .ok (.goto (-22), 3) := by decide +kernel
theorem dX4_bitsOf_67 : decode cX4_bitsOf 67 = .ok (.iload_n 2, 1) := by decide +kernel
theorem dX4_bitsOf_68 : decode cX4_bitsOf 68 = .ok (.bipush 23, 2) := by decide +kernel
theorem dX4_bitsOf_70 : decode cX4_bitsOf 70 = .ok (.ishl, 1) := by decide +kernel
theorem dX4_bitsOf_71 : decode cX4_bitsOf 71 = .ok (.fload_n 1, 1) := by decide +kernel
theorem dX4_bitsOf_72 : decode cX4_bitsOf 72 = .ok (.ldc 138, 2) := by decide +kernel
theorem dX4_bitsOf_74 : decode cX4_bitsOf 74 = .ok (.fmul, 1) := by decide +kernel
theorem dX4_bitsOf_75 : decode cX4_bitsOf 75 = .ok (.f2i, 1) := by decide +kernel
theorem dX4_bitsOf_76 : decode cX4_bitsOf 76 = .ok (.ldc 139, 2) := by decide +kernel
theorem dX4_bitsOf_78 : decode cX4_bitsOf 78 = .ok (.isub, 1) := by decide +kernel
theorem dX4_bitsOf_79 : decode cX4_bitsOf 79 = .ok (.iadd, 1) := by decide +kernel
theorem dX4_bitsOf_80 : decode cX4_bitsOf 80 = .ok (.ireturn, 1) := by decide +kernel
theorem dJ9_max_7cf53_0 : decode cJ9_max_7cf53 0 = .ok (.iload_n 0, 1) := by decide +kernel
theorem dJ9_max_7cf53_1 : decode cJ9_max_7cf53 1 = .ok (.iload_n 1, 1) := by decide +kernel
theorem dJ9_max_7cf53_2 : decode cJ9_max_7cf53 2 = .ok (.if_icmp .lt 7, 3) := by decide +kernel
theorem dJ9_max_7cf53_5 : decode cJ9_max_7cf53 5 = .ok (.iload_n 0, 1) := by decide +kernel
theorem dJ9_max_7cf53_6 : decode cJ9_max_7cf53 6 = .ok (.goto 4, 3) := by decide +kernel
theorem dJ9_max_7cf53_9 : decode cJ9_max_7cf53 9 = .ok (.iload_n 1, 1) := by decide +kernel
theorem dJ9_max_7cf53_10 : decode cJ9_max_7cf53 10 = .ok (.ireturn, 1) := by decide +kernel
theorem dJ9_min_7cf53_0 : decode cJ9_min_7cf53 0 = .ok (.iload_n 0, 1) := by decide +kernel
theorem dJ9_min_7cf53_1 : decode cJ9_min_7cf53 1 = .ok (.iload_n 1, 1) := by decide +kernel
theorem dJ9_min_7cf53_2 : decode cJ9_min_7cf53 2 = .ok (.if_icmp .gt 7, 3) := by decide +kernel
theorem dJ9_min_7cf53_5 : decode cJ9_min_7cf53 5 = .ok (.iload_n 0, 1) := by decide +kernel
theorem dJ9_min_7cf53_6 : decode cJ9_min_7cf53 6 = .ok (.goto 4, 3) := by decide +kernel
theorem dJ9_min_7cf53_9 : decode cJ9_min_7cf53 9 = .ok (.iload_n 1, 1) := by decide +kernel
theorem dJ9_min_7cf53_10 : decode cJ9_min_7cf53 10 = .ok (.ireturn, 1) := by decide +kernel
theorem dL_lot_0 : decode cL_lot 0 = .ok (.iload_n 1, 1) := by decide +kernel
theorem dL_lot_1 : decode cL_lot 1 = .ok (.aload_n 0, 1) := by decide +kernel
theorem dL_lot_2 : decode cL_lot 2 = .ok (.arraylength, 1) := by decide +kernel
theorem dL_lot_3 : decode cL_lot 3 = .ok (.if_icmp .ge 9, 3) := by decide +kernel
theorem dL_lot_6 : decode cL_lot 6 = .ok (.aload_n 0, 1) := by decide +kernel
theorem dL_lot_7 : decode cL_lot 7 = .ok (.iload_n 1, 1) := by decide +kernel
theorem dL_lot_8 : decode cL_lot 8 = .ok (.iaload, 1) := by decide +kernel
theorem dL_lot_9 : decode cL_lot 9 = .ok (.goto 15, 3) := by decide +kernel
theorem dL_lot_12 : decode cL_lot 12 = .ok (.ldc 7, 2) := by decide +kernel
theorem dL_lot_14 : decode cL_lot 14 = .ok (.iload_n 1, 1) := by decide +kernel
theorem dL_lot_15 : decode cL_lot 15 = .ok (.sipush 3089, 3) := by decide +kernel
theorem dL_lot_18 : decode cL_lot 18 = .ok (.iadd, 1) := by decide +kernel
theorem dL_lot_19 : decode cL_lot 19 = .ok (.imul, 1) := by decide +kernel
theorem dL_lot_20 : decode cL_lot 20 = .ok (.sipush 2851, 3) := by decide +kernel
theorem dL_lot_23 : decode cL_lot 23 = .ok (.iadd, 1) := by decide +kernel
theorem dL_lot_24 : decode cL_lot 24 = .ok (.ireturn, 1) := by decide +kernel
theorem dL_low_0 : decode cL_low 0 = .ok (.iload_n 0, 1) := by decide +kernel
theorem dL_low_1 : decode cL_low 1 = .ok (.ldc 8, 2) := by decide +kernel
theorem dL_low_3 : decode cL_low 3 = .ok (.iand, 1) := by decide +kernel
theorem dL_low_4 : decode cL_low 4 = .ok (.iload_n 1, 1) := by decide +kernel
theorem dL_low_5 : decode cL_low 5 = .ok (.irem, 1) := by decide +kernel
theorem dL_low_6 : decode cL_low 6 = .ok (.ireturn, 1) := by decide +kernel
theorem dL_digest_0 : decode cL_digest 0 = .ok (.ldc2_w 9, 3) := by decide +kernel
theorem dL_digest_3 : decode cL_digest 3 = .ok (.lstore_n 1, 1) := by decide +kernel
theorem dL_digest_4 : decode cL_digest 4 = .ok (.iconst 0, 1) := by decide +kernel
theorem dL_digest_5 : decode cL_digest 5 = .ok (.istore_n 3, 1) := by decide +kernel
theorem dL_digest_6 : decode cL_digest 6 = .ok (.iload_n 3, 1) := by decide +kernel
theorem dL_digest_7 : decode cL_digest 7 = .ok (.bipush 24, 2) := by decide +kernel
theorem dL_digest_9 : decode cL_digest 9 = .ok (.if_icmp .ge 38, 3) := by decide +kernel
theorem dL_digest_12 : decode cL_digest 12 = .ok (.ldc2_w 11, 3) := by decide +kernel
theorem dL_digest_15 : decode cL_digest 15 = .ok (.lload_n 1, 1) := by decide +kernel
theorem dL_digest_16 : decode cL_digest 16 = .ok (.lmul, 1) := by decide +kernel
theorem dL_digest_17 : decode cL_digest 17 = .ok (.iload_n 3, 1) := by decide +kernel
theorem dL_digest_18 : decode cL_digest 18 = .ok (.bipush 8, 2) := by decide +kernel
theorem dL_digest_20 : decode cL_digest 20 = .ok (.if_icmp .eq 9, 3) := by decide +kernel
theorem dL_digest_23 : decode cL_digest 23 = .ok (.iload_n 3, 1) := by decide +kernel
theorem dL_digest_24 : decode cL_digest 24 = .ok (.bipush 9, 2) := by decide +kernel
theorem dL_digest_26 : decode cL_digest 26 = .ok (.if_icmp .ne 7, 3) := by decide +kernel
theorem dL_digest_29 : decode cL_digest 29 = .ok (.iconst 0, 1) := by decide +kernel
theorem dL_digest_30 : decode cL_digest 30 = .ok (.goto 8, 3) := by decide +kernel
theorem dL_digest_33 : decode cL_digest 33 = .ok (.aload_n 0, 1) := by decide +kernel
theorem dL_digest_34 : decode cL_digest 34 = .ok (.iload_n 3, 1) := by decide +kernel
theorem dL_digest_35 : decode cL_digest 35 = .ok (.invokevirtual 13, 3) := by decide +kernel
theorem dL_digest_38 : decode cL_digest 38 = .ok (.i2l, 1) := by decide +kernel
theorem dL_digest_39 : decode cL_digest 39 = .ok (.ladd, 1) := by decide +kernel
theorem dL_digest_40 : decode cL_digest 40 = .ok (.lstore_n 1, 1) := by decide +kernel
theorem dL_digest_41 : decode cL_digest 41 = .ok (.iinc 3 1, 3) := by decide +kernel
theorem dL_digest_44 : decode cL_digest 44 = .ok (.goto (-38), 3) := by decide +kernel
theorem dL_digest_47 : decode cL_digest 47 = .ok (.iconst 0, 1) := by decide +kernel
theorem dL_digest_48 : decode cL_digest 48 = .ok (.istore_n 3, 1) := by decide +kernel
theorem dL_digest_49 : decode cL_digest 49 = .ok (.iload_n 3, 1) := by decide +kernel
theorem dL_digest_50 : decode cL_digest 50 = .ok (.aload_n 0, 1) := by decide +kernel
theorem dL_digest_51 : decode cL_digest 51 = .ok (.iconst 0, 1) := by decide +kernel
theorem dL_digest_52 : decode cL_digest 52 = .ok (.invokevirtual 13, 3) := by decide +kernel
theorem dL_digest_55 : decode cL_digest 55 = .ok (.bipush 10, 2) := by decide +kernel
theorem dL_digest_57 : decode cL_digest 57 = .ok (.imul, 1) := by decide +kernel
theorem dL_digest_58 : decode cL_digest 58 = .ok (.if_icmp .ge 33, 3) := by decide +kernel
theorem dL_digest_61 : decode cL_digest 61 = .ok (.ldc2_w 11, 3) := by decide +kernel
theorem dL_digest_64 : decode cL_digest 64 = .ok (.lload_n 1, 1) := by decide +kernel
theorem dL_digest_65 : decode cL_digest 65 = .ok (.lmul, 1) := by decide +kernel
theorem dL_digest_66 : decode cL_digest 66 = .ok (.aload_n 0, 1) := by decide +kernel
theorem dL_digest_67 : decode cL_digest 67 = .ok (.aload_n 0, 1) := by decide +kernel
theorem dL_digest_68 : decode cL_digest 68 = .ok (.iload_n 3, 1) := by decide +kernel
theorem dL_digest_69 : decode cL_digest 69 = .ok (.bipush 10, 2) := by decide +kernel
theorem dL_digest_71 : decode cL_digest 71 = .ok (.idiv, 1) := by decide +kernel
theorem dL_digest_72 : decode cL_digest 72 = .ok (.invokevirtual 19, 3) := by decide +kernel
theorem dL_digest_75 : decode cL_digest 75 = .ok (.iload_n 3, 1) := by decide +kernel
theorem dL_digest_76 : decode cL_digest 76 = .ok (.bipush 10, 2) := by decide +kernel
theorem dL_digest_78 : decode cL_digest 78 = .ok (.irem, 1) := by decide +kernel
theorem dL_digest_79 : decode cL_digest 79 = .ok (.invokevirtual 22, 3) := by decide +kernel
theorem dL_digest_82 : decode cL_digest 82 = .ok (.i2l, 1) := by decide +kernel
theorem dL_digest_83 : decode cL_digest 83 = .ok (.ladd, 1) := by decide +kernel
theorem dL_digest_84 : decode cL_digest 84 = .ok (.lstore_n 1, 1) := by decide +kernel
theorem dL_digest_85 : decode cL_digest 85 = .ok (.iinc 3 1, 3) := by decide +kernel
theorem dL_digest_88 : decode cL_digest 88 = .ok (.goto (-39), 3) := by decide +kernel
theorem dL_digest_91 : decode cL_digest 91 = .ok (.iconst 0, 1) := by decide +kernel
theorem dL_digest_92 : decode cL_digest 92 = .ok (.istore_n 3, 1) := by decide +kernel
theorem dL_digest_93 : decode cL_digest 93 = .ok (.iload_n 3, 1) := by decide +kernel
theorem dL_digest_94 : decode cL_digest 94 = .ok (.bipush 15, 2) := by decide +kernel
theorem dL_digest_96 : decode cL_digest 96 = .ok (.if_icmp .ge 43, 3) := by decide +kernel
theorem dL_digest_99 : decode cL_digest 99 = .ok (.ldc2_w 11, 3) := by decide +kernel
theorem dL_digest_102 : decode cL_digest 102 = .ok (.ldc2_w 11, 3) := by decide +kernel
theorem dL_digest_105 : decode cL_digest 105 = .ok (.lload_n 1, 1) := by decide +kernel
theorem dL_digest_106 : decode cL_digest 106 = .ok (.lmul, 1) := by decide +kernel
theorem dL_digest_107 : decode cL_digest 107 = .ok (.aload_n 0, 1) := by decide +kernel
theorem dL_digest_108 : decode cL_digest 108 = .ok (.iload_n 3, 1) := by decide +kernel
theorem dL_digest_109 : decode cL_digest 109 = .ok (.iconst 3, 1) := by decide +kernel
theorem dL_digest_110 : decode cL_digest 110 = .ok (.idiv, 1) := by decide +kernel
theorem dL_digest_111 : decode cL_digest 111 = .ok (.iload_n 3, 1) := by decide +kernel
theorem dL_digest_112 : decode cL_digest 112 = .ok (.iconst 3, 1) := by decide +kernel
theorem dL_digest_113 : decode cL_digest 113 = .ok (.irem, 1) := by decide +kernel
theorem dL_digest_114 : decode cL_digest 114 = .ok (.invokevirtual 26, 3) := by decide +kernel
theorem dL_digest_117 : decode cL_digest 117 = .ok (.i2l, 1) := by decide +kernel
theorem dL_digest_118 : decode cL_digest 118 = .ok (.ladd, 1) := by decide +kernel
theorem dL_digest_119 : decode cL_digest 119 = .ok (.lmul, 1) := by decide +kernel
theorem dL_digest_120 : decode cL_digest 120 = .ok (.aload_n 0, 1) := by decide +kernel
theorem dL_digest_121 : decode cL_digest 121 = .ok (.iload_n 3, 1) := by decide +kernel
theorem dL_digest_122 : decode cL_digest 122 = .ok (.iconst 5, 1) := by decide +kernel
theorem dL_digest_123 : decode cL_digest 123 = .ok (.idiv, 1) := by decide +kernel
theorem dL_digest_124 : decode cL_digest 124 = .ok (.iload_n 3, 1) := by decide +kernel
theorem dL_digest_125 : decode cL_digest 125 = .ok (.iconst 5, 1) := by decide +kernel
theorem dL_digest_126 : decode cL_digest 126 = .ok (.irem, 1) := by decide +kernel
theorem dL_digest_127 : decode cL_digest 127 = .ok (.invokevirtual 29, 3) := by decide +kernel
theorem dL_digest_130 : decode cL_digest 130 = .ok (.i2l, 1) := by decide +kernel
theorem dL_digest_131 : decode cL_digest 131 = .ok (.ladd, 1) := by decide +kernel
theorem dL_digest_132 : decode cL_digest 132 = .ok (.lstore_n 1, 1) := by decide +kernel
theorem dL_digest_133 : decode cL_digest 133 = .ok (.iinc 3 1, 3) := by decide +kernel
theorem dL_digest_136 : decode cL_digest 136 = .ok (.goto (-43), 3) := by decide +kernel
theorem dL_digest_139 : decode cL_digest 139 = .ok (.iconst 0, 1) := by decide +kernel
theorem dL_digest_140 : decode cL_digest 140 = .ok (.istore_n 3, 1) := by decide +kernel
theorem dL_digest_141 : decode cL_digest 141 = .ok (.iload_n 3, 1) := by decide +kernel
theorem dL_digest_142 : decode cL_digest 142 = .ok (.bipush 18, 2) := by decide +kernel
theorem dL_digest_144 : decode cL_digest 144 = .ok (.if_icmp .ge 42, 3) := by decide +kernel
theorem dL_digest_147 : decode cL_digest 147 = .ok (.ldc2_w 11, 3) := by decide +kernel
theorem dL_digest_150 : decode cL_digest 150 = .ok (.ldc2_w 11, 3) := by decide +kernel
theorem dL_digest_153 : decode cL_digest 153 = .ok (.lload_n 1, 1) := by decide +kernel
theorem dL_digest_154 : decode cL_digest 154 = .ok (.lmul, 1) := by decide +kernel
theorem dL_digest_155 : decode cL_digest 155 = .ok (.aload_n 0, 1) := by decide +kernel
theorem dL_digest_156 : decode cL_digest 156 = .ok (.iload_n 3, 1) := by decide +kernel
theorem dL_digest_157 : decode cL_digest 157 = .ok (.bipush 6, 2) := by decide +kernel
theorem dL_digest_159 : decode cL_digest 159 = .ok (.idiv, 1) := by decide +kernel
theorem dL_digest_160 : decode cL_digest 160 = .ok (.iload_n 3, 1) := by decide +kernel
theorem dL_digest_161 : decode cL_digest 161 = .ok (.bipush 6, 2) := by decide +kernel
theorem dL_digest_163 : decode cL_digest 163 = .ok (.irem, 1) := by decide +kernel
theorem dL_digest_164 : decode cL_digest 164 = .ok (.invokevirtual 32, 3) := by decide +kernel
theorem dL_digest_167 : decode cL_digest 167 = .ok (.i2l, 1) := by decide +kernel
theorem dL_digest_168 : decode cL_digest 168 = .ok (.ladd, 1) := by decide +kernel
theorem dL_digest_169 : decode cL_digest 169 = .ok (.lmul, 1) := by decide +kernel
theorem dL_digest_170 : decode cL_digest 170 = .ok (.aload_n 0, 1) := by decide +kernel
theorem dL_digest_171 : decode cL_digest 171 = .ok (.iload_n 3, 1) := by decide +kernel
theorem dL_digest_172 : decode cL_digest 172 = .ok (.iconst 3, 1) := by decide +kernel
theorem dL_digest_173 : decode cL_digest 173 = .ok (.irem, 1) := by decide +kernel
theorem dL_digest_174 : decode cL_digest 174 = .ok (.invokevirtual 35, 3) := by decide +kernel
theorem dL_digest_177 : decode cL_digest 177 = .ok (.i2l, 1) := by decide +kernel
theorem dL_digest_178 : decode cL_digest 178 = .ok (.ladd, 1) := by decide +kernel
theorem dL_digest_179 : decode cL_digest 179 = .ok (.lstore_n 1, 1) := by decide +kernel
theorem dL_digest_180 : decode cL_digest 180 = .ok (.iinc 3 1, 3) := by decide +kernel
theorem dL_digest_183 : decode cL_digest 183 = .ok (.goto (-42), 3) := by decide +kernel
theorem dL_digest_186 : decode cL_digest 186 = .ok (.iconst 0, 1) := by decide +kernel
theorem dL_digest_187 : decode cL_digest 187 = .ok (.istore_n 3, 1) := by decide +kernel
theorem dL_digest_188 : decode cL_digest 188 = .ok (.iload_n 3, 1) := by decide +kernel
theorem dL_digest_189 : decode cL_digest 189 = .ok (.bipush 40, 2) := by decide +kernel
theorem dL_digest_191 : decode cL_digest 191 = .ok (.if_icmp .ge 27, 3) := by decide +kernel
theorem dL_digest_194 : decode cL_digest 194 = .ok (.ldc2_w 11, 3) := by decide +kernel
theorem dL_digest_197 : decode cL_digest 197 = .ok (.lload_n 1, 1) := by decide +kernel
theorem dL_digest_198 : decode cL_digest 198 = .ok (.lmul, 1) := by decide +kernel
theorem dL_digest_199 : decode cL_digest 199 = .ok (.aload_n 0, 1) := by decide +kernel
theorem dL_digest_200 : decode cL_digest 200 = .ok (.iload_n 3, 1) := by decide +kernel
theorem dL_digest_201 : decode cL_digest 201 = .ok (.iconst 5, 1) := by decide +kernel
theorem dL_digest_202 : decode cL_digest 202 = .ok (.idiv, 1) := by decide +kernel
theorem dL_digest_203 : decode cL_digest 203 = .ok (.iload_n 3, 1) := by decide +kernel
theorem dL_digest_204 : decode cL_digest 204 = .ok (.iconst 5, 1) := by decide +kernel
theorem dL_digest_205 : decode cL_digest 205 = .ok (.irem, 1) := by decide +kernel
theorem dL_digest_206 : decode cL_digest 206 = .ok (.invokevirtual 38, 3) := by decide +kernel
theorem dL_digest_209 : decode cL_digest 209 = .ok (.i2l, 1) := by decide +kernel
theorem dL_digest_210 : decode cL_digest 210 = .ok (.ladd, 1) := by decide +kernel
theorem dL_digest_211 : decode cL_digest 211 = .ok (.lstore_n 1, 1) := by decide +kernel
theorem dL_digest_212 : decode cL_digest 212 = .ok (.iinc 3 1, 3) := by decide +kernel
theorem dL_digest_215 : decode cL_digest 215 = .ok (.goto (-27), 3) := by decide +kernel
theorem dL_digest_218 : decode cL_digest 218 = .ok (.lload_n 1, 1) := by decide +kernel
theorem dL_digest_219 : decode cL_digest 219 = .ok (.lreturn, 1) := by decide +kernel
theorem dL_holds_0 : decode cL_holds 0 = .ok (.iconst 0, 1) := by decide +kernel
theorem dL_holds_1 : decode cL_holds 1 = .ok (.istore_n 1, 1) := by decide +kernel
theorem dL_holds_2 : decode cL_holds 2 = .ok (.iconst 0, 1) := by decide +kernel
theorem dL_holds_3 : decode cL_holds 3 = .ok (.istore_n 2, 1) := by decide +kernel
theorem dL_holds_4 : decode cL_holds 4 = .ok (.iconst (-1), 1) := by decide +kernel
theorem dL_holds_5 : decode cL_holds 5 = .ok (.istore_n 3, 1) := by decide +kernel
theorem dL_holds_6 : decode cL_holds 6 = .ok (.iconst 0, 1) := by decide +kernel
theorem dL_holds_7 : decode cL_holds 7 = .ok (.istore 4, 2) := by decide +kernel
theorem dL_holds_9 : decode cL_holds 9 = .ok (.iload 4, 2) := by decide +kernel
theorem dL_holds_11 : decode cL_holds 11 = .ok (.aload_n 0, 1) := by decide +kernel
theorem dL_holds_12 : decode cL_holds 12 = .ok (.iconst 0, 1) := by decide +kernel
theorem dL_holds_13 : decode cL_holds 13 = .ok (.invokevirtual 13, 3) := by decide +kernel
theorem dL_holds_16 : decode cL_holds 16 = .ok (.if_icmp .ge 235, 3) := by decide +kernel
theorem dL_holds_19 : decode cL_holds 19 = .ok (.aload_n 0, 1) := by decide +kernel
theorem dL_holds_20 : decode cL_holds 20 = .ok (.iload 4, 2) := by decide +kernel
theorem dL_holds_22 : decode cL_holds 22 = .ok (.invokevirtual 19, 3) := by decide +kernel
theorem dL_holds_25 : decode cL_holds 25 = .ok (.istore 5, 2) := by decide +kernel
theorem dL_holds_27 : decode cL_holds 27 = .ok (.aload_n 0, 1) := by decide +kernel
theorem dL_holds_28 : decode cL_holds 28 = .ok (.iload 5, 2) := by decide +kernel
theorem dL_holds_30 : decode cL_holds 30 = .ok (.iconst 5, 1) := by decide +kernel
theorem dL_holds_31 : decode cL_holds 31 = .ok (.invokevirtual 22, 3) := by decide +kernel
theorem dL_holds_34 : decode cL_holds 34 = .ok (.istore 6, 2) := by decide +kernel
theorem dL_holds_36 : decode cL_holds 36 = .ok (.aload_n 0, 1) := by decide +kernel
theorem dL_holds_37 : decode cL_holds 37 = .ok (.iload 5, 2) := by decide +kernel
theorem dL_holds_39 : decode cL_holds 39 = .ok (.iconst 3, 1) := by decide +kernel
theorem dL_holds_40 : decode cL_holds 40 = .ok (.invokevirtual 22, 3) := by decide +kernel
theorem dL_holds_43 : decode cL_holds 43 = .ok (.aload_n 0, 1) := by decide +kernel
theorem dL_holds_44 : decode cL_holds 44 = .ok (.bipush 21, 2) := by decide +kernel
theorem dL_holds_46 : decode cL_holds 46 = .ok (.invokevirtual 13, 3) := by decide +kernel
theorem dL_holds_49 : decode cL_holds 49 = .ok (.imul, 1) := by decide +kernel
theorem dL_holds_50 : decode cL_holds 50 = .ok (.bipush 100, 2) := by decide +kernel
theorem dL_holds_52 : decode cL_holds 52 = .ok (.idiv, 1) := by decide +kernel
theorem dL_holds_53 : decode cL_holds 53 = .ok (.istore 7, 2) := by decide +kernel
theorem dL_holds_55 : decode cL_holds 55 = .ok (.iload 6, 2) := by decide +kernel
theorem dL_holds_57 : decode cL_holds 57 = .ok (.iload 7, 2) := by decide +kernel
theorem dL_holds_59 : decode cL_holds 59 = .ok (.if_icmp .le 11, 3) := by decide +kernel
theorem dL_holds_62 : decode cL_holds 62 = .ok (.iload 6, 2) := by decide +kernel
theorem dL_holds_64 : decode cL_holds 64 = .ok (.iload 7, 2) := by decide +kernel
theorem dL_holds_66 : decode cL_holds 66 = .ok (.isub, 1) := by decide +kernel
theorem dL_holds_67 : decode cL_holds 67 = .ok (.goto 4, 3) := by decide +kernel
theorem dL_holds_70 : decode cL_holds 70 = .ok (.iconst 0, 1) := by decide +kernel
theorem dL_holds_71 : decode cL_holds 71 = .ok (.istore 8, 2) := by decide +kernel
theorem dL_holds_73 : decode cL_holds 73 = .ok (.iload 6, 2) := by decide +kernel
theorem dL_holds_75 : decode cL_holds 75 = .ok (.ldc 43, 2) := by decide +kernel
theorem dL_holds_77 : decode cL_holds 77 = .ok (.if_icmp .eq 7, 3) := by decide +kernel
theorem dL_holds_80 : decode cL_holds 80 = .ok (.iconst 1, 1) := by decide +kernel
theorem dL_holds_81 : decode cL_holds 81 = .ok (.goto 4, 3) := by decide +kernel
theorem dL_holds_84 : decode cL_holds 84 = .ok (.iconst 0, 1) := by decide +kernel
theorem dL_holds_85 : decode cL_holds 85 = .ok (.istore 9, 2) := by decide +kernel
theorem dL_holds_87 : decode cL_holds 87 = .ok (.iload 5, 2) := by decide +kernel
theorem dL_holds_89 : decode cL_holds 89 = .ok (.iload_n 3, 1) := by decide +kernel
theorem dL_holds_90 : decode cL_holds 90 = .ok (.if_icmp .le 121, 3) := by decide +kernel
theorem dL_holds_93 : decode cL_holds 93 = .ok (.iload 5, 2) := by decide +kernel
theorem dL_holds_95 : decode cL_holds 95 = .ok (.aload_n 0, 1) := by decide +kernel
theorem dL_holds_96 : decode cL_holds 96 = .ok (.iconst 4, 1) := by decide +kernel
theorem dL_holds_97 : decode cL_holds 97 = .ok (.invokevirtual 13, 3) := by decide +kernel
theorem dL_holds_100 : decode cL_holds 100 = .ok (.if_icmp .ge 111, 3) := by decide +kernel
theorem dL_holds_103 : decode cL_holds 103 = .ok (.aload_n 0, 1) := by decide +kernel
theorem dL_holds_104 : decode cL_holds 104 = .ok (.iload 5, 2) := by decide +kernel
theorem dL_holds_106 : decode cL_holds 106 = .ok (.iconst 3, 1) := by decide +kernel
theorem dL_holds_107 : decode cL_holds 107 = .ok (.invokevirtual 22, 3) := by decide +kernel
theorem dL_holds_110 : decode cL_holds 110 = .ok (.aload_n 0, 1) := by decide +kernel
theorem dL_holds_111 : decode cL_holds 111 = .ok (.iload 5, 2) := by decide +kernel
theorem dL_holds_113 : decode cL_holds 113 = .ok (.iconst 2, 1) := by decide +kernel
theorem dL_holds_114 : decode cL_holds 114 = .ok (.invokevirtual 22, 3) := by decide +kernel
theorem dL_holds_117 : decode cL_holds 117 = .ok (.aload_n 0, 1) := by decide +kernel
theorem dL_holds_118 : decode cL_holds 118 = .ok (.iconst 2, 1) := by decide +kernel
theorem dL_holds_119 : decode cL_holds 119 = .ok (.iconst 0, 1) := by decide +kernel
theorem dL_holds_120 : decode cL_holds 120 = .ok (.invokevirtual 29, 3) := by decide +kernel
theorem dL_holds_123 : decode cL_holds 123 = .ok (.imul, 1) := by decide +kernel
theorem dL_holds_124 : decode cL_holds 124 = .ok (.if_icmp .ne 87, 3) := by decide +kernel
theorem dL_holds_127 : decode cL_holds 127 = .ok (.aload_n 0, 1) := by decide +kernel
theorem dL_holds_128 : decode cL_holds 128 = .ok (.iload 5, 2) := by decide +kernel
theorem dL_holds_130 : decode cL_holds 130 = .ok (.bipush 7, 2) := by decide +kernel
theorem dL_holds_132 : decode cL_holds 132 = .ok (.invokevirtual 22, 3) := by decide +kernel
theorem dL_holds_135 : decode cL_holds 135 = .ok (.aload_n 0, 1) := by decide +kernel
theorem dL_holds_136 : decode cL_holds 136 = .ok (.iload 5, 2) := by decide +kernel
theorem dL_holds_138 : decode cL_holds 138 = .ok (.iconst 3, 1) := by decide +kernel
theorem dL_holds_139 : decode cL_holds 139 = .ok (.invokevirtual 22, 3) := by decide +kernel
theorem dL_holds_142 : decode cL_holds 142 = .ok (.aload_n 0, 1) := by decide +kernel
theorem dL_holds_143 : decode cL_holds 143 = .ok (.bipush 20, 2) := by decide +kernel
theorem dL_holds_145 : decode cL_holds 145 = .ok (.invokevirtual 13, 3) := by decide +kernel
theorem dL_holds_148 : decode cL_holds 148 = .ok (.imul, 1) := by decide +kernel
theorem dL_holds_149 : decode cL_holds 149 = .ok (.bipush 100, 2) := by decide +kernel
theorem dL_holds_151 : decode cL_holds 151 = .ok (.idiv, 1) := by decide +kernel
theorem dL_holds_152 : decode cL_holds 152 = .ok (.if_icmp .ne 59, 3) := by decide +kernel
theorem dL_holds_155 : decode cL_holds 155 = .ok (.aload_n 0, 1) := by decide +kernel
theorem dL_holds_156 : decode cL_holds 156 = .ok (.iload 5, 2) := by decide +kernel
theorem dL_holds_158 : decode cL_holds 158 = .ok (.bipush 8, 2) := by decide +kernel
theorem dL_holds_160 : decode cL_holds 160 = .ok (.invokevirtual 22, 3) := by decide +kernel
theorem dL_holds_163 : decode cL_holds 163 = .ok (.iload 8, 2) := by decide +kernel
theorem dL_holds_165 : decode cL_holds 165 = .ok (.if_icmp .ne 46, 3) := by decide +kernel
theorem dL_holds_168 : decode cL_holds 168 = .ok (.iload 9, 2) := by decide +kernel
theorem dL_holds_170 : decode cL_holds 170 = .ok (.aload_n 0, 1) := by decide +kernel
theorem dL_holds_171 : decode cL_holds 171 = .ok (.iload 5, 2) := by decide +kernel
theorem dL_holds_173 : decode cL_holds 173 = .ok (.iconst 4, 1) := by decide +kernel
theorem dL_holds_174 : decode cL_holds 174 = .ok (.invokevirtual 22, 3) := by decide +kernel
theorem dL_holds_177 : decode cL_holds 177 = .ok (.ldc 43, 2) := by decide +kernel
theorem dL_holds_179 : decode cL_holds 179 = .ok (.if_icmp .eq 7, 3) := by decide +kernel
theorem dL_holds_182 : decode cL_holds 182 = .ok (.iconst 1, 1) := by decide +kernel
theorem dL_holds_183 : decode cL_holds 183 = .ok (.goto 4, 3) := by decide +kernel
theorem dL_holds_186 : decode cL_holds 186 = .ok (.iconst 0, 1) := by decide +kernel
theorem dL_holds_187 : decode cL_holds 187 = .ok (.if_icmp .ne 24, 3) := by decide +kernel
theorem dL_holds_190 : decode cL_holds 190 = .ok (.aload_n 0, 1) := by decide +kernel
theorem dL_holds_191 : decode cL_holds 191 = .ok (.iload 5, 2) := by decide +kernel
theorem dL_holds_193 : decode cL_holds 193 = .ok (.bipush 9, 2) := by decide +kernel
theorem dL_holds_195 : decode cL_holds 195 = .ok (.invokevirtual 22, 3) := by decide +kernel
theorem dL_holds_198 : decode cL_holds 198 = .ok (.ifCond .ne 7, 3) := by decide +kernel
theorem dL_holds_201 : decode cL_holds 201 = .ok (.iconst 1, 1) := by decide +kernel
theorem dL_holds_202 : decode cL_holds 202 = .ok (.goto 4, 3) := by decide +kernel
theorem dL_holds_205 : decode cL_holds 205 = .ok (.iconst 0, 1) := by decide +kernel
theorem dL_holds_206 : decode cL_holds 206 = .ok (.iload 9, 2) := by decide +kernel
theorem dL_holds_208 : decode cL_holds 208 = .ok (.if_icmp .ne 5, 3) := by decide +kernel
theorem dL_holds_211 : decode cL_holds 211 = .ok (.iconst 0, 1) := by decide +kernel
theorem dL_holds_212 : decode cL_holds 212 = .ok (.ireturn, 1) := by decide +kernel
theorem dL_holds_213 : decode cL_holds 213 = .ok (.iload 5, 2) := by decide +kernel
theorem dL_holds_215 : decode cL_holds 215 = .ok (.istore_n 3, 1) := by decide +kernel
theorem dL_holds_216 : decode cL_holds 216 = .ok (.iload_n 1, 1) := by decide +kernel
theorem dL_holds_217 : decode cL_holds 217 = .ok (.aload_n 0, 1) := by decide +kernel
theorem dL_holds_218 : decode cL_holds 218 = .ok (.iload 5, 2) := by decide +kernel
theorem dL_holds_220 : decode cL_holds 220 = .ok (.iconst 2, 1) := by decide +kernel
theorem dL_holds_221 : decode cL_holds 221 = .ok (.invokevirtual 22, 3) := by decide +kernel
theorem dL_holds_224 : decode cL_holds 224 = .ok (.iadd, 1) := by decide +kernel
theorem dL_holds_225 : decode cL_holds 225 = .ok (.istore_n 1, 1) := by decide +kernel
theorem dL_holds_226 : decode cL_holds 226 = .ok (.iload_n 2, 1) := by decide +kernel
theorem dL_holds_227 : decode cL_holds 227 = .ok (.iload 9, 2) := by decide +kernel
theorem dL_holds_229 : decode cL_holds 229 = .ok (.ifCond .eq 13, 3) := by decide +kernel
theorem dL_holds_232 : decode cL_holds 232 = .ok (.aload_n 0, 1) := by decide +kernel
theorem dL_holds_233 : decode cL_holds 233 = .ok (.iload 5, 2) := by decide +kernel
theorem dL_holds_235 : decode cL_holds 235 = .ok (.iconst 3, 1) := by decide +kernel
theorem dL_holds_236 : decode cL_holds 236 = .ok (.invokevirtual 22, 3) := by decide +kernel
theorem dL_holds_239 : decode cL_holds 239 = .ok (.goto 4, 3) := by decide +kernel
theorem dL_holds_242 : decode cL_holds 242 = .ok (.iconst 0, 1) := by decide +kernel
theorem dL_holds_243 : decode cL_holds 243 = .ok (.iadd, 1) := by decide +kernel
theorem dL_holds_244 : decode cL_holds 244 = .ok (.istore_n 2, 1) := by decide +kernel
theorem dL_holds_245 : decode cL_holds 245 = .ok (.iinc 4 1, 3) := by decide +kernel
theorem dL_holds_248 : decode cL_holds 248 = .ok (.goto (-239), 3) := by decide +kernel
theorem dL_holds_251 : decode cL_holds 251 = .ok (.aload_n 0, 1) := by decide +kernel
theorem dL_holds_252 : decode cL_holds 252 = .ok (.iconst 0, 1) := by decide +kernel
theorem dL_holds_253 : decode cL_holds 253 = .ok (.iconst 2, 1) := by decide +kernel
theorem dL_holds_254 : decode cL_holds 254 = .ok (.invokevirtual 32, 3) := by decide +kernel
theorem dL_holds_257 : decode cL_holds 257 = .ok (.aload_n 0, 1) := by decide +kernel
theorem dL_holds_258 : decode cL_holds 258 = .ok (.iconst 1, 1) := by decide +kernel
theorem dL_holds_259 : decode cL_holds 259 = .ok (.iconst 2, 1) := by decide +kernel
theorem dL_holds_260 : decode cL_holds 260 = .ok (.invokevirtual 32, 3) := by decide +kernel
theorem dL_holds_263 : decode cL_holds 263 = .ok (.iadd, 1) := by decide +kernel
theorem dL_holds_264 : decode cL_holds 264 = .ok (.aload_n 0, 1) := by decide +kernel
theorem dL_holds_265 : decode cL_holds 265 = .ok (.iconst 2, 1) := by decide +kernel
theorem dL_holds_266 : decode cL_holds 266 = .ok (.iconst 2, 1) := by decide +kernel
theorem dL_holds_267 : decode cL_holds 267 = .ok (.invokevirtual 32, 3) := by decide +kernel
theorem dL_holds_270 : decode cL_holds 270 = .ok (.iadd, 1) := by decide +kernel
theorem dL_holds_271 : decode cL_holds 271 = .ok (.istore 4, 2) := by decide +kernel
theorem dL_holds_273 : decode cL_holds 273 = .ok (.iload_n 1, 1) := by decide +kernel
theorem dL_holds_274 : decode cL_holds 274 = .ok (.aload_n 0, 1) := by decide +kernel
theorem dL_holds_275 : decode cL_holds 275 = .ok (.iconst 1, 1) := by decide +kernel
theorem dL_holds_276 : decode cL_holds 276 = .ok (.invokevirtual 13, 3) := by decide +kernel
theorem dL_holds_279 : decode cL_holds 279 = .ok (.if_icmp .ne 95, 3) := by decide +kernel
theorem dL_holds_282 : decode cL_holds 282 = .ok (.iload_n 2, 1) := by decide +kernel
theorem dL_holds_283 : decode cL_holds 283 = .ok (.iload 4, 2) := by decide +kernel
theorem dL_holds_285 : decode cL_holds 285 = .ok (.if_icmp .ne 89, 3) := by decide +kernel
theorem dL_holds_288 : decode cL_holds 288 = .ok (.aload_n 0, 1) := by decide +kernel
theorem dL_holds_289 : decode cL_holds 289 = .ok (.iconst 2, 1) := by decide +kernel
theorem dL_holds_290 : decode cL_holds 290 = .ok (.invokevirtual 13, 3) := by decide +kernel
theorem dL_holds_293 : decode cL_holds 293 = .ok (.iload_n 1, 1) := by decide +kernel
theorem dL_holds_294 : decode cL_holds 294 = .ok (.if_icmp .lt 80, 3) := by decide +kernel
theorem dL_holds_297 : decode cL_holds 297 = .ok (.aload_n 0, 1) := by decide +kernel
theorem dL_holds_298 : decode cL_holds 298 = .ok (.iconst 0, 1) := by decide +kernel
theorem dL_holds_299 : decode cL_holds 299 = .ok (.iconst 3, 1) := by decide +kernel
theorem dL_holds_300 : decode cL_holds 300 = .ok (.invokevirtual 29, 3) := by decide +kernel
theorem dL_holds_303 : decode cL_holds 303 = .ok (.ifCond .lt 71, 3) := by decide +kernel
theorem dL_holds_306 : decode cL_holds 306 = .ok (.aload_n 0, 1) := by decide +kernel
theorem dL_holds_307 : decode cL_holds 307 = .ok (.iconst 1, 1) := by decide +kernel
theorem dL_holds_308 : decode cL_holds 308 = .ok (.iconst 3, 1) := by decide +kernel
theorem dL_holds_309 : decode cL_holds 309 = .ok (.invokevirtual 29, 3) := by decide +kernel
theorem dL_holds_312 : decode cL_holds 312 = .ok (.ifCond .lt 62, 3) := by decide +kernel
theorem dL_holds_315 : decode cL_holds 315 = .ok (.aload_n 0, 1) := by decide +kernel
theorem dL_holds_316 : decode cL_holds 316 = .ok (.iconst 2, 1) := by decide +kernel
theorem dL_holds_317 : decode cL_holds 317 = .ok (.iconst 3, 1) := by decide +kernel
theorem dL_holds_318 : decode cL_holds 318 = .ok (.invokevirtual 29, 3) := by decide +kernel
theorem dL_holds_321 : decode cL_holds 321 = .ok (.aload_n 0, 1) := by decide +kernel
theorem dL_holds_322 : decode cL_holds 322 = .ok (.iconst 2, 1) := by decide +kernel
theorem dL_holds_323 : decode cL_holds 323 = .ok (.invokevirtual 13, 3) := by decide +kernel
theorem dL_holds_326 : decode cL_holds 326 = .ok (.iload_n 1, 1) := by decide +kernel
theorem dL_holds_327 : decode cL_holds 327 = .ok (.isub, 1) := by decide +kernel
theorem dL_holds_328 : decode cL_holds 328 = .ok (.if_icmp .ne 46, 3) := by decide +kernel
theorem dL_holds_331 : decode cL_holds 331 = .ok (.aload_n 0, 1) := by decide +kernel
theorem dL_holds_332 : decode cL_holds 332 = .ok (.aload_n 0, 1) := by decide +kernel
theorem dL_holds_333 : decode cL_holds 333 = .ok (.iconst 0, 1) := by decide +kernel
theorem dL_holds_334 : decode cL_holds 334 = .ok (.invokevirtual 13, 3) := by decide +kernel
theorem dL_holds_337 : decode cL_holds 337 = .ok (.invokevirtual 19, 3) := by decide +kernel
theorem dL_holds_340 : decode cL_holds 340 = .ok (.ldc 43, 2) := by decide +kernel
theorem dL_holds_342 : decode cL_holds 342 = .ok (.if_icmp .ne 32, 3) := by decide +kernel
theorem dL_holds_345 : decode cL_holds 345 = .ok (.aload_n 0, 1) := by decide +kernel
theorem dL_holds_346 : decode cL_holds 346 = .ok (.aload_n 0, 1) := by decide +kernel
theorem dL_holds_347 : decode cL_holds 347 = .ok (.iconst 4, 1) := by decide +kernel
theorem dL_holds_348 : decode cL_holds 348 = .ok (.invokevirtual 13, 3) := by decide +kernel
theorem dL_holds_351 : decode cL_holds 351 = .ok (.iconst 0, 1) := by decide +kernel
theorem dL_holds_352 : decode cL_holds 352 = .ok (.invokevirtual 22, 3) := by decide +kernel
theorem dL_holds_355 : decode cL_holds 355 = .ok (.ldc 44, 2) := by decide +kernel
theorem dL_holds_357 : decode cL_holds 357 = .ok (.if_icmp .ne 17, 3) := by decide +kernel
theorem dL_holds_360 : decode cL_holds 360 = .ok (.aload_n 0, 1) := by decide +kernel
theorem dL_holds_361 : decode cL_holds 361 = .ok (.iconst 0, 1) := by decide +kernel
theorem dL_holds_362 : decode cL_holds 362 = .ok (.invokevirtual 13, 3) := by decide +kernel
theorem dL_holds_365 : decode cL_holds 365 = .ok (.bipush 16, 2) := by decide +kernel
theorem dL_holds_367 : decode cL_holds 367 = .ok (.if_icmp .gt 7, 3) := by decide +kernel
theorem dL_holds_370 : decode cL_holds 370 = .ok (.iconst 1, 1) := by decide +kernel
theorem dL_holds_371 : decode cL_holds 371 = .ok (.goto 4, 3) := by decide +kernel
theorem dL_holds_374 : decode cL_holds 374 = .ok (.iconst 0, 1) := by decide +kernel
theorem dL_holds_375 : decode cL_holds 375 = .ok (.ireturn, 1) := by decide +kernel
theorem dL_digits_0 : decode cL_digits 0 = .ok (.iload_n 1, 1) := by decide +kernel
theorem dL_digits_1 : decode cL_digits 1 = .ok (.sipush 1000, 3) := by decide +kernel
theorem dL_digits_4 : decode cL_digits 4 = .ok (.if_icmp .lt 18, 3) := by decide +kernel
theorem dL_digits_7 : decode cL_digits 7 = .ok (.aload_n 0, 1) := by decide +kernel
theorem dL_digits_8 : decode cL_digits 8 = .ok (.bipush 48, 2) := by decide +kernel
theorem dL_digits_10 : decode cL_digits 10 = .ok (.iload_n 1, 1) := by decide +kernel
theorem dL_digits_11 : decode cL_digits 11 = .ok (.sipush 1000, 3) := by decide +kernel
theorem dL_digits_14 : decode cL_digits 14 = .ok (.idiv, 1) := by decide +kernel
theorem dL_digits_15 : decode cL_digits 15 = .ok (.iadd, 1) := by decide +kernel
theorem dL_digits_16 : decode cL_digits 16 = .ok (.invokevirtual 45, 3) := by decide +kernel
theorem dL_digits_19 : decode cL_digits 19 = .ok (.ifCond .le 53, 3) := by decide +kernel
theorem dL_digits_22 : decode cL_digits 22 = .ok (.iload_n 1, 1) := by decide +kernel
theorem dL_digits_23 : decode cL_digits 23 = .ok (.bipush 100, 2) := by decide +kernel
theorem dL_digits_25 : decode cL_digits 25 = .ok (.if_icmp .lt 20, 3) := by decide +kernel
theorem dL_digits_28 : decode cL_digits 28 = .ok (.aload_n 0, 1) := by decide +kernel
theorem dL_digits_29 : decode cL_digits 29 = .ok (.bipush 48, 2) := by decide +kernel
theorem dL_digits_31 : decode cL_digits 31 = .ok (.iload_n 1, 1) := by decide +kernel
theorem dL_digits_32 : decode cL_digits 32 = .ok (.bipush 100, 2) := by decide +kernel
theorem dL_digits_34 : decode cL_digits 34 = .ok (.idiv, 1) := by decide +kernel
theorem dL_digits_35 : decode cL_digits 35 = .ok (.bipush 10, 2) := by decide +kernel
theorem dL_digits_37 : decode cL_digits 37 = .ok (.irem, 1) := by decide +kernel
theorem dL_digits_38 : decode cL_digits 38 = .ok (.iadd, 1) := by decide +kernel
theorem dL_digits_39 : decode cL_digits 39 = .ok (.invokevirtual 45, 3) := by decide +kernel
theorem dL_digits_42 : decode cL_digits 42 = .ok (.ifCond .le 30, 3) := by decide +kernel
theorem dL_digits_45 : decode cL_digits 45 = .ok (.iload_n 1, 1) := by decide +kernel
theorem dL_digits_46 : decode cL_digits 46 = .ok (.bipush 10, 2) := by decide +kernel
theorem dL_digits_48 : decode cL_digits 48 = .ok (.if_icmp .lt 20, 3) := by decide +kernel
theorem dL_digits_51 : decode cL_digits 51 = .ok (.aload_n 0, 1) := by decide +kernel
theorem dL_digits_52 : decode cL_digits 52 = .ok (.bipush 48, 2) := by decide +kernel
theorem dL_digits_54 : decode cL_digits 54 = .ok (.iload_n 1, 1) := by decide +kernel
theorem dL_digits_55 : decode cL_digits 55 = .ok (.bipush 10, 2) := by decide +kernel
theorem dL_digits_57 : decode cL_digits 57 = .ok (.idiv, 1) := by decide +kernel
theorem dL_digits_58 : decode cL_digits 58 = .ok (.bipush 10, 2) := by decide +kernel
theorem dL_digits_60 : decode cL_digits 60 = .ok (.irem, 1) := by decide +kernel
theorem dL_digits_61 : decode cL_digits 61 = .ok (.iadd, 1) := by decide +kernel
theorem dL_digits_62 : decode cL_digits 62 = .ok (.invokevirtual 45, 3) := by decide +kernel
theorem dL_digits_65 : decode cL_digits 65 = .ok (.ifCond .le 7, 3) := by decide +kernel
theorem dL_digits_68 : decode cL_digits 68 = .ok (.iconst 1, 1) := by decide +kernel
theorem dL_digits_69 : decode cL_digits 69 = .ok (.goto 4, 3) := by decide +kernel
theorem dL_digits_72 : decode cL_digits 72 = .ok (.iconst 0, 1) := by decide +kernel
theorem dL_digits_73 : decode cL_digits 73 = .ok (.istore_n 2, 1) := by decide +kernel
theorem dL_digits_74 : decode cL_digits 74 = .ok (.iload_n 2, 1) := by decide +kernel
theorem dL_digits_75 : decode cL_digits 75 = .ok (.ifCond .eq 21, 3) := by decide +kernel
theorem dL_digits_78 : decode cL_digits 78 = .ok (.aload_n 0, 1) := by decide +kernel
theorem dL_digits_79 : decode cL_digits 79 = .ok (.bipush 48, 2) := by decide +kernel
theorem dL_digits_81 : decode cL_digits 81 = .ok (.iload_n 1, 1) := by decide +kernel
theorem dL_digits_82 : decode cL_digits 82 = .ok (.bipush 10, 2) := by decide +kernel
theorem dL_digits_84 : decode cL_digits 84 = .ok (.irem, 1) := by decide +kernel
theorem dL_digits_85 : decode cL_digits 85 = .ok (.iadd, 1) := by decide +kernel
theorem dL_digits_86 : decode cL_digits 86 = .ok (.invokevirtual 45, 3) := by decide +kernel
theorem dL_digits_89 : decode cL_digits 89 = .ok (.ifCond .le 7, 3) := by decide +kernel
theorem dL_digits_92 : decode cL_digits 92 = .ok (.iconst 1, 1) := by decide +kernel
theorem dL_digits_93 : decode cL_digits 93 = .ok (.goto 4, 3) := by decide +kernel
theorem dL_digits_96 : decode cL_digits 96 = .ok (.iconst 0, 1) := by decide +kernel
theorem dL_digits_97 : decode cL_digits 97 = .ok (.ireturn, 1) := by decide +kernel
theorem dL_types_0 : decode cL_types 0 = .ok (.iload_n 1, 1) := by decide +kernel
theorem dL_types_1 : decode cL_types 1 = .ok (.iconst 5, 1) := by decide +kernel
theorem dL_types_2 : decode cL_types 2 = .ok (.invokestatic 48, 3) := by decide +kernel
theorem dL_types_5 : decode cL_types 5 = .ok (.istore_n 2, 1) := by decide +kernel
theorem dL_types_6 : decode cL_types 6 = .ok (.aload_n 0, 1) := by decide +kernel
theorem dL_types_7 : decode cL_types 7 = .ok (.invokevirtual 51, 3) := by decide +kernel
theorem dL_types_10 : decode cL_types 10 = .ok (.ifCond .lt 7, 3) := by decide +kernel
theorem dL_types_13 : decode cL_types 13 = .ok (.iconst 1, 1) := by decide +kernel
theorem dL_types_14 : decode cL_types 14 = .ok (.goto 4, 3) := by decide +kernel
theorem dL_types_17 : decode cL_types 17 = .ok (.iconst 0, 1) := by decide +kernel
theorem dL_types_18 : decode cL_types 18 = .ok (.istore_n 3, 1) := by decide +kernel
theorem dL_types_19 : decode cL_types 19 = .ok (.iconst 0, 1) := by decide +kernel
theorem dL_types_20 : decode cL_types 20 = .ok (.istore 4, 2) := by decide +kernel
theorem dL_types_22 : decode cL_types 22 = .ok (.iload 4, 2) := by decide +kernel
theorem dL_types_24 : decode cL_types 24 = .ok (.iload_n 2, 1) := by decide +kernel
theorem dL_types_25 : decode cL_types 25 = .ok (.if_icmp .ge 314, 3) := by decide +kernel
theorem dL_types_28 : decode cL_types 28 = .ok (.iload_n 1, 1) := by decide +kernel
theorem dL_types_29 : decode cL_types 29 = .ok (.iconst 3, 1) := by decide +kernel
theorem dL_types_30 : decode cL_types 30 = .ok (.iconst 5, 1) := by decide +kernel
theorem dL_types_31 : decode cL_types 31 = .ok (.iload 4, 2) := by decide +kernel
theorem dL_types_33 : decode cL_types 33 = .ok (.imul, 1) := by decide +kernel
theorem dL_types_34 : decode cL_types 34 = .ok (.iadd, 1) := by decide +kernel
theorem dL_types_35 : decode cL_types 35 = .ok (.ishr, 1) := by decide +kernel
theorem dL_types_36 : decode cL_types 36 = .ok (.istore 5, 2) := by decide +kernel
theorem dL_types_38 : decode cL_types 38 = .ok (.iload 5, 2) := by decide +kernel
theorem dL_types_40 : decode cL_types 40 = .ok (.bipush 9, 2) := by decide +kernel
theorem dL_types_42 : decode cL_types 42 = .ok (.invokestatic 48, 3) := by decide +kernel
theorem dL_types_45 : decode cL_types 45 = .ok (.istore 6, 2) := by decide +kernel
theorem dL_types_47 : decode cL_types 47 = .ok (.iload 6, 2) := by decide +kernel
theorem dL_types_49 : decode cL_types 49 = .ok (.iconst 4, 1) := by decide +kernel
theorem dL_types_50 : decode cL_types 50 = .ok (.if_icmp .ge 7, 3) := by decide +kernel
theorem dL_types_53 : decode cL_types 53 = .ok (.iconst 3, 1) := by decide +kernel
theorem dL_types_54 : decode cL_types 54 = .ok (.goto 15, 3) := by decide +kernel
theorem dL_types_57 : decode cL_types 57 = .ok (.iload 6, 2) := by decide +kernel
theorem dL_types_59 : decode cL_types 59 = .ok (.bipush 6, 2) := by decide +kernel
theorem dL_types_61 : decode cL_types 61 = .ok (.if_icmp .ge 7, 3) := by decide +kernel
theorem dL_types_64 : decode cL_types 64 = .ok (.iconst 2, 1) := by decide +kernel
theorem dL_types_65 : decode cL_types 65 = .ok (.goto 4, 3) := by decide +kernel
theorem dL_types_68 : decode cL_types 68 = .ok (.iconst 1, 1) := by decide +kernel
theorem dL_types_69 : decode cL_types 69 = .ok (.istore 7, 2) := by decide +kernel
theorem dL_types_71 : decode cL_types 71 = .ok (.iload_n 3, 1) := by decide +kernel
theorem dL_types_72 : decode cL_types 72 = .ok (.ifCond .eq 74, 3) := by decide +kernel
theorem dL_types_75 : decode cL_types 75 = .ok (.aload_n 0, 1) := by decide +kernel
theorem dL_types_76 : decode cL_types 76 = .ok (.iload 6, 2) := by decide +kernel
theorem dL_types_78 : decode cL_types 78 = .ok (.iconst 2, 1) := by decide +kernel
theorem dL_types_79 : decode cL_types 79 = .ok (.if_icmp .ge 8, 3) := by decide +kernel
theorem dL_types_82 : decode cL_types 82 = .ok (.bipush 115, 2) := by decide +kernel
theorem dL_types_84 : decode cL_types 84 = .ok (.goto 52, 3) := by decide +kernel
theorem dL_types_87 : decode cL_types 87 = .ok (.iload 6, 2) := by decide +kernel
theorem dL_types_89 : decode cL_types 89 = .ok (.iconst 4, 1) := by decide +kernel
theorem dL_types_90 : decode cL_types 90 = .ok (.if_icmp .ge 8, 3) := by decide +kernel
theorem dL_types_93 : decode cL_types 93 = .ok (.bipush 108, 2) := by decide +kernel
theorem dL_types_95 : decode cL_types 95 = .ok (.goto 41, 3) := by decide +kernel
theorem dL_types_98 : decode cL_types 98 = .ok (.iload 6, 2) := by decide +kernel
theorem dL_types_100 : decode cL_types 100 = .ok (.bipush 6, 2) := by decide +kernel
theorem dL_types_102 : decode cL_types 102 = .ok (.if_icmp .ge 8, 3) := by decide +kernel
theorem dL_types_105 : decode cL_types 105 = .ok (.bipush 112, 2) := by decide +kernel
theorem dL_types_107 : decode cL_types 107 = .ok (.goto 29, 3) := by decide +kernel
theorem dL_types_110 : decode cL_types 110 = .ok (.iload 6, 2) := by decide +kernel
theorem dL_types_112 : decode cL_types 112 = .ok (.bipush 6, 2) := by decide +kernel
theorem dL_types_114 : decode cL_types 114 = .ok (.if_icmp .ne 8, 3) := by decide +kernel
theorem dL_types_117 : decode cL_types 117 = .ok (.bipush 99, 2) := by decide +kernel
theorem dL_types_119 : decode cL_types 119 = .ok (.goto 17, 3) := by decide +kernel
theorem dL_types_122 : decode cL_types 122 = .ok (.iload 6, 2) := by decide +kernel
theorem dL_types_124 : decode cL_types 124 = .ok (.bipush 7, 2) := by decide +kernel
theorem dL_types_126 : decode cL_types 126 = .ok (.if_icmp .ne 8, 3) := by decide +kernel
theorem dL_types_129 : decode cL_types 129 = .ok (.bipush 100, 2) := by decide +kernel
theorem dL_types_131 : decode cL_types 131 = .ok (.goto 5, 3) := by decide +kernel
theorem dL_types_134 : decode cL_types 134 = .ok (.bipush 116, 2) := by decide +kernel
theorem dL_types_136 : decode cL_types 136 = .ok (.invokevirtual 45, 3) := by decide +kernel
theorem dL_types_139 : decode cL_types 139 = .ok (.ifCond .le 7, 3) := by decide +kernel
theorem dL_types_142 : decode cL_types 142 = .ok (.iconst 1, 1) := by decide +kernel
theorem dL_types_143 : decode cL_types 143 = .ok (.goto 4, 3) := by decide +kernel
theorem dL_types_146 : decode cL_types 146 = .ok (.iconst 0, 1) := by decide +kernel
theorem dL_types_147 : decode cL_types 147 = .ok (.istore_n 3, 1) := by decide +kernel
theorem dL_types_148 : decode cL_types 148 = .ok (.iconst 0, 1) := by decide +kernel
theorem dL_types_149 : decode cL_types 149 = .ok (.istore 8, 2) := by decide +kernel
theorem dL_types_151 : decode cL_types 151 = .ok (.iload 8, 2) := by decide +kernel
theorem dL_types_153 : decode cL_types 153 = .ok (.iload 7, 2) := by decide +kernel
theorem dL_types_155 : decode cL_types 155 = .ok (.if_icmp .ge 122, 3) := by decide +kernel
theorem dL_types_158 : decode cL_types 158 = .ok (.iload 6, 2) := by decide +kernel
theorem dL_types_160 : decode cL_types 160 = .ok (.iconst 4, 1) := by decide +kernel
theorem dL_types_161 : decode cL_types 161 = .ok (.if_icmp .ge 15, 3) := by decide +kernel
theorem dL_types_164 : decode cL_types 164 = .ok (.iload 8, 2) := by decide +kernel
theorem dL_types_166 : decode cL_types 166 = .ok (.iconst 2, 1) := by decide +kernel
theorem dL_types_167 : decode cL_types 167 = .ok (.if_icmp .ne 9, 3) := by decide +kernel
theorem dL_types_170 : decode cL_types 170 = .ok (.sipush 1500, 3) := by decide +kernel
theorem dL_types_173 : decode cL_types 173 = .ok (.goto 51, 3) := by decide +kernel
theorem dL_types_176 : decode cL_types 176 = .ok (.iload 6, 2) := by decide +kernel
theorem dL_types_178 : decode cL_types 178 = .ok (.bipush 6, 2) := by decide +kernel
theorem dL_types_180 : decode cL_types 180 = .ok (.if_icmp .ge 20, 3) := by decide +kernel
theorem dL_types_183 : decode cL_types 183 = .ok (.iload 8, 2) := by decide +kernel
theorem dL_types_185 : decode cL_types 185 = .ok (.iconst 1, 1) := by decide +kernel
theorem dL_types_186 : decode cL_types 186 = .ok (.if_icmp .ne 14, 3) := by decide +kernel
theorem dL_types_189 : decode cL_types 189 = .ok (.iload 6, 2) := by decide +kernel
theorem dL_types_191 : decode cL_types 191 = .ok (.iconst 3, 1) := by decide +kernel
theorem dL_types_192 : decode cL_types 192 = .ok (.if_icmp .le 8, 3) := by decide +kernel
theorem dL_types_195 : decode cL_types 195 = .ok (.bipush 40, 2) := by decide +kernel
theorem dL_types_197 : decode cL_types 197 = .ok (.goto 27, 3) := by decide +kernel
theorem dL_types_200 : decode cL_types 200 = .ok (.iload 6, 2) := by decide +kernel
theorem dL_types_202 : decode cL_types 202 = .ok (.bipush 7, 2) := by decide +kernel
theorem dL_types_204 : decode cL_types 204 = .ok (.if_icmp .eq 15, 3) := by decide +kernel
theorem dL_types_207 : decode cL_types 207 = .ok (.iload 6, 2) := by decide +kernel
theorem dL_types_209 : decode cL_types 209 = .ok (.iconst 2, 1) := by decide +kernel
theorem dL_types_210 : decode cL_types 210 = .ok (.if_icmp .eq 9, 3) := by decide +kernel
theorem dL_types_213 : decode cL_types 213 = .ok (.iload 6, 2) := by decide +kernel
theorem dL_types_215 : decode cL_types 215 = .ok (.iconst 3, 1) := by decide +kernel
theorem dL_types_216 : decode cL_types 216 = .ok (.if_icmp .ne 7, 3) := by decide +kernel
theorem dL_types_219 : decode cL_types 219 = .ok (.iconst 5, 1) := by decide +kernel
theorem dL_types_220 : decode cL_types 220 = .ok (.goto 4, 3) := by decide +kernel
theorem dL_types_223 : decode cL_types 223 = .ok (.iconst 4, 1) := by decide +kernel
theorem dL_types_224 : decode cL_types 224 = .ok (.istore 9, 2) := by decide +kernel
theorem dL_types_226 : decode cL_types 226 = .ok (.iload_n 3, 1) := by decide +kernel
theorem dL_types_227 : decode cL_types 227 = .ok (.ifCond .eq 42, 3) := by decide +kernel
theorem dL_types_230 : decode cL_types 230 = .ok (.iload 8, 2) := by decide +kernel
theorem dL_types_232 : decode cL_types 232 = .ok (.ifCond .eq 12, 3) := by decide +kernel
theorem dL_types_235 : decode cL_types 235 = .ok (.aload_n 0, 1) := by decide +kernel
theorem dL_types_236 : decode cL_types 236 = .ok (.bipush 44, 2) := by decide +kernel
theorem dL_types_238 : decode cL_types 238 = .ok (.invokevirtual 45, 3) := by decide +kernel
theorem dL_types_241 : decode cL_types 241 = .ok (.ifCond .le 28, 3) := by decide +kernel
theorem dL_types_244 : decode cL_types 244 = .ok (.aload_n 0, 1) := by decide +kernel
theorem dL_types_245 : decode cL_types 245 = .ok (.iload 5, 2) := by decide +kernel
theorem dL_types_247 : decode cL_types 247 = .ok (.iconst 2, 1) := by decide +kernel
theorem dL_types_248 : decode cL_types 248 = .ok (.iconst 2, 1) := by decide +kernel
theorem dL_types_249 : decode cL_types 249 = .ok (.iload 8, 2) := by decide +kernel
theorem dL_types_251 : decode cL_types 251 = .ok (.imul, 1) := by decide +kernel
theorem dL_types_252 : decode cL_types 252 = .ok (.iadd, 1) := by decide +kernel
theorem dL_types_253 : decode cL_types 253 = .ok (.ishr, 1) := by decide +kernel
theorem dL_types_254 : decode cL_types 254 = .ok (.iload 9, 2) := by decide +kernel
theorem dL_types_256 : decode cL_types 256 = .ok (.invokestatic 48, 3) := by decide +kernel
theorem dL_types_259 : decode cL_types 259 = .ok (.invokestatic 55, 3) := by decide +kernel
theorem dL_types_262 : decode cL_types 262 = .ok (.ifCond .eq 7, 3) := by decide +kernel
theorem dL_types_265 : decode cL_types 265 = .ok (.iconst 1, 1) := by decide +kernel
theorem dL_types_266 : decode cL_types 266 = .ok (.goto 4, 3) := by decide +kernel
theorem dL_types_269 : decode cL_types 269 = .ok (.iconst 0, 1) := by decide +kernel
theorem dL_types_270 : decode cL_types 270 = .ok (.istore_n 3, 1) := by decide +kernel
theorem dL_types_271 : decode cL_types 271 = .ok (.iinc 8 1, 3) := by decide +kernel
theorem dL_types_274 : decode cL_types 274 = .ok (.goto (-123), 3) := by decide +kernel
theorem dL_types_277 : decode cL_types 277 = .ok (.iload_n 3, 1) := by decide +kernel
theorem dL_types_278 : decode cL_types 278 = .ok (.ifCond .eq 53, 3) := by decide +kernel
theorem dL_types_281 : decode cL_types 281 = .ok (.iload_n 1, 1) := by decide +kernel
theorem dL_types_282 : decode cL_types 282 = .ok (.bipush 24, 2) := by decide +kernel
theorem dL_types_284 : decode cL_types 284 = .ok (.ishr, 1) := by decide +kernel
theorem dL_types_285 : decode cL_types 285 = .ok (.bipush 6, 2) := by decide +kernel
theorem dL_types_287 : decode cL_types 287 = .ok (.invokestatic 48, 3) := by decide +kernel
theorem dL_types_290 : decode cL_types 290 = .ok (.ifCond .ne 11, 3) := by decide +kernel
theorem dL_types_293 : decode cL_types 293 = .ok (.iload 4, 2) := by decide +kernel
theorem dL_types_295 : decode cL_types 295 = .ok (.iload_n 2, 1) := by decide +kernel
theorem dL_types_296 : decode cL_types 296 = .ok (.iconst 1, 1) := by decide +kernel
theorem dL_types_297 : decode cL_types 297 = .ok (.isub, 1) := by decide +kernel
theorem dL_types_298 : decode cL_types 298 = .ok (.if_icmp .eq 29, 3) := by decide +kernel
theorem dL_types_301 : decode cL_types 301 = .ok (.aload_n 0, 1) := by decide +kernel
theorem dL_types_302 : decode cL_types 302 = .ok (.iload_n 1, 1) := by decide +kernel
theorem dL_types_303 : decode cL_types 303 = .ok (.bipush 20, 2) := by decide +kernel
theorem dL_types_305 : decode cL_types 305 = .ok (.ishr, 1) := by decide +kernel
theorem dL_types_306 : decode cL_types 306 = .ok (.bipush 11, 2) := by decide +kernel
theorem dL_types_308 : decode cL_types 308 = .ok (.invokestatic 48, 3) := by decide +kernel
theorem dL_types_311 : decode cL_types 311 = .ok (.ifCond .ne 8, 3) := by decide +kernel
theorem dL_types_314 : decode cL_types 314 = .ok (.bipush 46, 2) := by decide +kernel
theorem dL_types_316 : decode cL_types 316 = .ok (.goto 5, 3) := by decide +kernel
theorem dL_types_319 : decode cL_types 319 = .ok (.bipush 59, 2) := by decide +kernel
theorem dL_types_321 : decode cL_types 321 = .ok (.invokevirtual 45, 3) := by decide +kernel
theorem dL_types_324 : decode cL_types 324 = .ok (.ifCond .le 7, 3) := by decide +kernel
theorem dL_types_327 : decode cL_types 327 = .ok (.iconst 1, 1) := by decide +kernel
theorem dL_types_328 : decode cL_types 328 = .ok (.goto 4, 3) := by decide +kernel
theorem dL_types_331 : decode cL_types 331 = .ok (.iconst 0, 1) := by decide +kernel
theorem dL_types_332 : decode cL_types 332 = .ok (.istore_n 3, 1) := by decide +kernel
theorem dL_types_333 : decode cL_types 333 = .ok (.iinc 4 1, 3) := by decide +kernel
theorem dL_types_336 : decode cL_types 336 = .ok (.goto (-314), 3) := by decide +kernel
theorem dL_types_339 : decode cL_types 339 = .ok (.iload_n 3, 1) := by decide +kernel
theorem dL_types_340 : decode cL_types 340 = .ok (.ireturn, 1) := by decide +kernel
theorem dL_reads_0 : decode cL_reads 0 = .ok (.aload_n 0, 1) := by decide +kernel
theorem dL_reads_1 : decode cL_reads 1 = .ok (.iconst 0, 1) := by decide +kernel
theorem dL_reads_2 : decode cL_reads 2 = .ok (.invokevirtual 59, 3) := by decide +kernel
theorem dL_reads_5 : decode cL_reads 5 = .ok (.istore_n 1, 1) := by decide +kernel
theorem dL_reads_6 : decode cL_reads 6 = .ok (.aload_n 0, 1) := by decide +kernel
theorem dL_reads_7 : decode cL_reads 7 = .ok (.iconst 1, 1) := by decide +kernel
theorem dL_reads_8 : decode cL_reads 8 = .ok (.invokevirtual 59, 3) := by decide +kernel
theorem dL_reads_11 : decode cL_reads 11 = .ok (.istore_n 2, 1) := by decide +kernel
theorem dL_reads_12 : decode cL_reads 12 = .ok (.aload_n 0, 1) := by decide +kernel
theorem dL_reads_13 : decode cL_reads 13 = .ok (.iconst 2, 1) := by decide +kernel
theorem dL_reads_14 : decode cL_reads 14 = .ok (.invokevirtual 59, 3) := by decide +kernel
theorem dL_reads_17 : decode cL_reads 17 = .ok (.istore_n 3, 1) := by decide +kernel
theorem dL_reads_18 : decode cL_reads 18 = .ok (.aload_n 0, 1) := by decide +kernel
theorem dL_reads_19 : decode cL_reads 19 = .ok (.bipush 9, 2) := by decide +kernel
theorem dL_reads_21 : decode cL_reads 21 = .ok (.invokevirtual 13, 3) := by decide +kernel
theorem dL_reads_24 : decode cL_reads 24 = .ok (.istore 4, 2) := by decide +kernel
theorem dL_reads_26 : decode cL_reads 26 = .ok (.aload_n 0, 1) := by decide +kernel
theorem dL_reads_27 : decode cL_reads 27 = .ok (.invokevirtual 62, 3) := by decide +kernel
theorem dL_reads_30 : decode cL_reads 30 = .ok (.istore 5, 2) := by decide +kernel
theorem dL_reads_32 : decode cL_reads 32 = .ok (.iload_n 1, 1) := by decide +kernel
theorem dL_reads_33 : decode cL_reads 33 = .ok (.ldc 43, 2) := by decide +kernel
theorem dL_reads_35 : decode cL_reads 35 = .ok (.if_icmp .ne 33, 3) := by decide +kernel
theorem dL_reads_38 : decode cL_reads 38 = .ok (.iload_n 2, 1) := by decide +kernel
theorem dL_reads_39 : decode cL_reads 39 = .ok (.ldc 43, 2) := by decide +kernel
theorem dL_reads_41 : decode cL_reads 41 = .ok (.if_icmp .ne 27, 3) := by decide +kernel
theorem dL_reads_44 : decode cL_reads 44 = .ok (.iload_n 3, 1) := by decide +kernel
theorem dL_reads_45 : decode cL_reads 45 = .ok (.ldc 43, 2) := by decide +kernel
theorem dL_reads_47 : decode cL_reads 47 = .ok (.if_icmp .ne 21, 3) := by decide +kernel
theorem dL_reads_50 : decode cL_reads 50 = .ok (.iload 5, 2) := by decide +kernel
theorem dL_reads_52 : decode cL_reads 52 = .ok (.ifCond .lt 16, 3) := by decide +kernel
theorem dL_reads_55 : decode cL_reads 55 = .ok (.iconst 3, 1) := by decide +kernel
theorem dL_reads_56 : decode cL_reads 56 = .ok (.iload 5, 2) := by decide +kernel
theorem dL_reads_58 : decode cL_reads 58 = .ok (.imul, 1) := by decide +kernel
theorem dL_reads_59 : decode cL_reads 59 = .ok (.iload 4, 2) := by decide +kernel
theorem dL_reads_61 : decode cL_reads 61 = .ok (.if_icmp .gt 7, 3) := by decide +kernel
theorem dL_reads_64 : decode cL_reads 64 = .ok (.iconst 1, 1) := by decide +kernel
theorem dL_reads_65 : decode cL_reads 65 = .ok (.goto 4, 3) := by decide +kernel
theorem dL_reads_68 : decode cL_reads 68 = .ok (.iconst 0, 1) := by decide +kernel
theorem dL_reads_69 : decode cL_reads 69 = .ok (.istore 6, 2) := by decide +kernel
theorem dL_reads_71 : decode cL_reads 71 = .ok (.iload_n 1, 1) := by decide +kernel
theorem dL_reads_72 : decode cL_reads 72 = .ok (.ifCond .lt 54, 3) := by decide +kernel
theorem dL_reads_75 : decode cL_reads 75 = .ok (.iload_n 1, 1) := by decide +kernel
theorem dL_reads_76 : decode cL_reads 76 = .ok (.iload 4, 2) := by decide +kernel
theorem dL_reads_78 : decode cL_reads 78 = .ok (.if_icmp .ge 48, 3) := by decide +kernel
theorem dL_reads_81 : decode cL_reads 81 = .ok (.iload 5, 2) := by decide +kernel
theorem dL_reads_83 : decode cL_reads 83 = .ok (.ldc 65, 2) := by decide +kernel
theorem dL_reads_85 : decode cL_reads 85 = .ok (.if_icmp .ne 41, 3) := by decide +kernel
theorem dL_reads_88 : decode cL_reads 88 = .ok (.iload_n 2, 1) := by decide +kernel
theorem dL_reads_89 : decode cL_reads 89 = .ok (.iconst 1, 1) := by decide +kernel
theorem dL_reads_90 : decode cL_reads 90 = .ok (.if_icmp .ne 15, 3) := by decide +kernel
theorem dL_reads_93 : decode cL_reads 93 = .ok (.iload_n 3, 1) := by decide +kernel
theorem dL_reads_94 : decode cL_reads 94 = .ok (.ifCond .lt 11, 3) := by decide +kernel
theorem dL_reads_97 : decode cL_reads 97 = .ok (.iload_n 1, 1) := by decide +kernel
theorem dL_reads_98 : decode cL_reads 98 = .ok (.iload_n 3, 1) := by decide +kernel
theorem dL_reads_99 : decode cL_reads 99 = .ok (.iadd, 1) := by decide +kernel
theorem dL_reads_100 : decode cL_reads 100 = .ok (.iload 4, 2) := by decide +kernel
theorem dL_reads_102 : decode cL_reads 102 = .ok (.if_icmp .le 20, 3) := by decide +kernel
theorem dL_reads_105 : decode cL_reads 105 = .ok (.iload_n 2, 1) := by decide +kernel
theorem dL_reads_106 : decode cL_reads 106 = .ok (.iconst 2, 1) := by decide +kernel
theorem dL_reads_107 : decode cL_reads 107 = .ok (.if_icmp .ne 19, 3) := by decide +kernel
theorem dL_reads_110 : decode cL_reads 110 = .ok (.iload_n 3, 1) := by decide +kernel
theorem dL_reads_111 : decode cL_reads 111 = .ok (.ldc 44, 2) := by decide +kernel
theorem dL_reads_113 : decode cL_reads 113 = .ok (.if_icmp .gt 13, 3) := by decide +kernel
theorem dL_reads_116 : decode cL_reads 116 = .ok (.iload_n 3, 1) := by decide +kernel
theorem dL_reads_117 : decode cL_reads 117 = .ok (.ldc 43, 2) := by decide +kernel
theorem dL_reads_119 : decode cL_reads 119 = .ok (.if_icmp .le 7, 3) := by decide +kernel
theorem dL_reads_122 : decode cL_reads 122 = .ok (.iconst 1, 1) := by decide +kernel
theorem dL_reads_123 : decode cL_reads 123 = .ok (.goto 4, 3) := by decide +kernel
theorem dL_reads_126 : decode cL_reads 126 = .ok (.iconst 0, 1) := by decide +kernel
theorem dL_reads_127 : decode cL_reads 127 = .ok (.istore 7, 2) := by decide +kernel
theorem dL_reads_129 : decode cL_reads 129 = .ok (.iload 6, 2) := by decide +kernel
theorem dL_reads_131 : decode cL_reads 131 = .ok (.ifCond .ne 8, 3) := by decide +kernel
theorem dL_reads_134 : decode cL_reads 134 = .ok (.iload 7, 2) := by decide +kernel
theorem dL_reads_136 : decode cL_reads 136 = .ok (.ifCond .eq 18, 3) := by decide +kernel
theorem dL_reads_139 : decode cL_reads 139 = .ok (.aload_n 0, 1) := by decide +kernel
theorem dL_reads_140 : decode cL_reads 140 = .ok (.bipush 9, 2) := by decide +kernel
theorem dL_reads_142 : decode cL_reads 142 = .ok (.invokevirtual 13, 3) := by decide +kernel
theorem dL_reads_145 : decode cL_reads 145 = .ok (.iload 4, 2) := by decide +kernel
theorem dL_reads_147 : decode cL_reads 147 = .ok (.if_icmp .ne 7, 3) := by decide +kernel
theorem dL_reads_150 : decode cL_reads 150 = .ok (.iconst 1, 1) := by decide +kernel
theorem dL_reads_151 : decode cL_reads 151 = .ok (.goto 4, 3) := by decide +kernel
theorem dL_reads_154 : decode cL_reads 154 = .ok (.iconst 0, 1) := by decide +kernel
theorem dL_reads_155 : decode cL_reads 155 = .ok (.ireturn, 1) := by decide +kernel
theorem dL_acts_0 : decode cL_acts 0 = .ok (.iload_n 1, 1) := by decide +kernel
theorem dL_acts_1 : decode cL_acts 1 = .ok (.bipush 22, 2) := by decide +kernel
theorem dL_acts_3 : decode cL_acts 3 = .ok (.invokestatic 48, 3) := by decide +kernel
theorem dL_acts_6 : decode cL_acts 6 = .ok (.istore_n 3, 1) := by decide +kernel
theorem dL_acts_7 : decode cL_acts 7 = .ok (.aload_n 0, 1) := by decide +kernel
theorem dL_acts_8 : decode cL_acts 8 = .ok (.iconst 0, 1) := by decide +kernel
theorem dL_acts_9 : decode cL_acts 9 = .ok (.invokevirtual 13, 3) := by decide +kernel
theorem dL_acts_12 : decode cL_acts 12 = .ok (.istore 4, 2) := by decide +kernel
theorem dL_acts_14 : decode cL_acts 14 = .ok (.iload_n 1, 1) := by decide +kernel
theorem dL_acts_15 : decode cL_acts 15 = .ok (.iconst 5, 1) := by decide +kernel
theorem dL_acts_16 : decode cL_acts 16 = .ok (.ishr, 1) := by decide +kernel
theorem dL_acts_17 : decode cL_acts 17 = .ok (.iload 4, 2) := by decide +kernel
theorem dL_acts_19 : decode cL_acts 19 = .ok (.iconst 1, 1) := by decide +kernel
theorem dL_acts_20 : decode cL_acts 20 = .ok (.iadd, 1) := by decide +kernel
theorem dL_acts_21 : decode cL_acts 21 = .ok (.invokestatic 48, 3) := by decide +kernel
theorem dL_acts_24 : decode cL_acts 24 = .ok (.istore 5, 2) := by decide +kernel
theorem dL_acts_26 : decode cL_acts 26 = .ok (.iload 5, 2) := by decide +kernel
theorem dL_acts_28 : decode cL_acts 28 = .ok (.iload 4, 2) := by decide +kernel
theorem dL_acts_30 : decode cL_acts 30 = .ok (.if_icmp .ge 7, 3) := by decide +kernel
theorem dL_acts_33 : decode cL_acts 33 = .ok (.iconst 1, 1) := by decide +kernel
theorem dL_acts_34 : decode cL_acts 34 = .ok (.goto 4, 3) := by decide +kernel
theorem dL_acts_37 : decode cL_acts 37 = .ok (.iconst 0, 1) := by decide +kernel
theorem dL_acts_38 : decode cL_acts 38 = .ok (.istore 6, 2) := by decide +kernel
theorem dL_acts_40 : decode cL_acts 40 = .ok (.iload 6, 2) := by decide +kernel
theorem dL_acts_42 : decode cL_acts 42 = .ok (.ifCond .eq 12, 3) := by decide +kernel
theorem dL_acts_45 : decode cL_acts 45 = .ok (.aload_n 0, 1) := by decide +kernel
theorem dL_acts_46 : decode cL_acts 46 = .ok (.iload 5, 2) := by decide +kernel
theorem dL_acts_48 : decode cL_acts 48 = .ok (.invokevirtual 19, 3) := by decide +kernel
theorem dL_acts_51 : decode cL_acts 51 = .ok (.goto 8, 3) := by decide +kernel
theorem dL_acts_54 : decode cL_acts 54 = .ok (.aload_n 0, 1) := by decide +kernel
theorem dL_acts_55 : decode cL_acts 55 = .ok (.iconst 4, 1) := by decide +kernel
theorem dL_acts_56 : decode cL_acts 56 = .ok (.invokevirtual 13, 3) := by decide +kernel
theorem dL_acts_59 : decode cL_acts 59 = .ok (.istore 7, 2) := by decide +kernel
theorem dL_acts_61 : decode cL_acts 61 = .ok (.iload 6, 2) := by decide +kernel
theorem dL_acts_63 : decode cL_acts 63 = .ok (.ifCond .eq 13, 3) := by decide +kernel
theorem dL_acts_66 : decode cL_acts 66 = .ok (.aload_n 0, 1) := by decide +kernel
theorem dL_acts_67 : decode cL_acts 67 = .ok (.iload 7, 2) := by decide +kernel
theorem dL_acts_69 : decode cL_acts 69 = .ok (.iconst 2, 1) := by decide +kernel
theorem dL_acts_70 : decode cL_acts 70 = .ok (.invokevirtual 22, 3) := by decide +kernel
theorem dL_acts_73 : decode cL_acts 73 = .ok (.goto 4, 3) := by decide +kernel
theorem dL_acts_76 : decode cL_acts 76 = .ok (.iconst 0, 1) := by decide +kernel
theorem dL_acts_77 : decode cL_acts 77 = .ok (.istore 8, 2) := by decide +kernel
theorem dL_acts_79 : decode cL_acts 79 = .ok (.iload 6, 2) := by decide +kernel
theorem dL_acts_81 : decode cL_acts 81 = .ok (.ifCond .eq 13, 3) := by decide +kernel
theorem dL_acts_84 : decode cL_acts 84 = .ok (.aload_n 0, 1) := by decide +kernel
theorem dL_acts_85 : decode cL_acts 85 = .ok (.iload 7, 2) := by decide +kernel
theorem dL_acts_87 : decode cL_acts 87 = .ok (.iconst 5, 1) := by decide +kernel
theorem dL_acts_88 : decode cL_acts 88 = .ok (.invokevirtual 22, 3) := by decide +kernel
theorem dL_acts_91 : decode cL_acts 91 = .ok (.goto 5, 3) := by decide +kernel
theorem dL_acts_94 : decode cL_acts 94 = .ok (.ldc 43, 2) := by decide +kernel
theorem dL_acts_96 : decode cL_acts 96 = .ok (.istore 9, 2) := by decide +kernel
theorem dL_acts_98 : decode cL_acts 98 = .ok (.iload 6, 2) := by decide +kernel
theorem dL_acts_100 : decode cL_acts 100 = .ok (.ifCond .eq 13, 3) := by decide +kernel
theorem dL_acts_103 : decode cL_acts 103 = .ok (.aload_n 0, 1) := by decide +kernel
theorem dL_acts_104 : decode cL_acts 104 = .ok (.iload 7, 2) := by decide +kernel
theorem dL_acts_106 : decode cL_acts 106 = .ok (.iconst 0, 1) := by decide +kernel
theorem dL_acts_107 : decode cL_acts 107 = .ok (.invokevirtual 22, 3) := by decide +kernel
theorem dL_acts_110 : decode cL_acts 110 = .ok (.goto 4, 3) := by decide +kernel
theorem dL_acts_113 : decode cL_acts 113 = .ok (.iconst 0, 1) := by decide +kernel
theorem dL_acts_114 : decode cL_acts 114 = .ok (.istore 10, 2) := by decide +kernel
theorem dL_acts_116 : decode cL_acts 116 = .ok (.iload_n 3, 1) := by decide +kernel
theorem dL_acts_117 : decode cL_acts 117 = .ok (.iconst 4, 1) := by decide +kernel
theorem dL_acts_118 : decode cL_acts 118 = .ok (.if_icmp .ge 134, 3) := by decide +kernel
theorem dL_acts_121 : decode cL_acts 121 = .ok (.iload_n 2, 1) := by decide +kernel
theorem dL_acts_122 : decode cL_acts 122 = .ok (.bipush 6, 2) := by decide +kernel
theorem dL_acts_124 : decode cL_acts 124 = .ok (.invokestatic 48, 3) := by decide +kernel
theorem dL_acts_127 : decode cL_acts 127 = .ok (.istore 11, 2) := by decide +kernel
theorem dL_acts_129 : decode cL_acts 129 = .ok (.iload_n 2, 1) := by decide +kernel
theorem dL_acts_130 : decode cL_acts 130 = .ok (.iconst 3, 1) := by decide +kernel
theorem dL_acts_131 : decode cL_acts 131 = .ok (.ishr, 1) := by decide +kernel
theorem dL_acts_132 : decode cL_acts 132 = .ok (.iconst 4, 1) := by decide +kernel
theorem dL_acts_133 : decode cL_acts 133 = .ok (.invokestatic 48, 3) := by decide +kernel
theorem dL_acts_136 : decode cL_acts 136 = .ok (.istore 12, 2) := by decide +kernel
theorem dL_acts_138 : decode cL_acts 138 = .ok (.iload_n 2, 1) := by decide +kernel
theorem dL_acts_139 : decode cL_acts 139 = .ok (.iconst 5, 1) := by decide +kernel
theorem dL_acts_140 : decode cL_acts 140 = .ok (.ishr, 1) := by decide +kernel
theorem dL_acts_141 : decode cL_acts 141 = .ok (.sipush 700, 3) := by decide +kernel
theorem dL_acts_144 : decode cL_acts 144 = .ok (.invokestatic 48, 3) := by decide +kernel
theorem dL_acts_147 : decode cL_acts 147 = .ok (.istore 13, 2) := by decide +kernel
theorem dL_acts_149 : decode cL_acts 149 = .ok (.iload 11, 2) := by decide +kernel
theorem dL_acts_151 : decode cL_acts 151 = .ok (.iconst 5, 1) := by decide +kernel
theorem dL_acts_152 : decode cL_acts 152 = .ok (.if_icmp .eq 14, 3) := by decide +kernel
theorem dL_acts_155 : decode cL_acts 155 = .ok (.iload 12, 2) := by decide +kernel
theorem dL_acts_157 : decode cL_acts 157 = .ok (.iconst 3, 1) := by decide +kernel
theorem dL_acts_158 : decode cL_acts 158 = .ok (.if_icmp .eq 8, 3) := by decide +kernel
theorem dL_acts_161 : decode cL_acts 161 = .ok (.iload 13, 2) := by decide +kernel
theorem dL_acts_163 : decode cL_acts 163 = .ok (.ifCond .ne 7, 3) := by decide +kernel
theorem dL_acts_166 : decode cL_acts 166 = .ok (.iconst 1, 1) := by decide +kernel
theorem dL_acts_167 : decode cL_acts 167 = .ok (.goto 4, 3) := by decide +kernel
theorem dL_acts_170 : decode cL_acts 170 = .ok (.iconst 0, 1) := by decide +kernel
theorem dL_acts_171 : decode cL_acts 171 = .ok (.istore 14, 2) := by decide +kernel
theorem dL_acts_173 : decode cL_acts 173 = .ok (.iload 14, 2) := by decide +kernel
theorem dL_acts_175 : decode cL_acts 175 = .ok (.ifCond .ne 26, 3) := by decide +kernel
theorem dL_acts_178 : decode cL_acts 178 = .ok (.aload_n 0, 1) := by decide +kernel
theorem dL_acts_179 : decode cL_acts 179 = .ok (.iload 12, 2) := by decide +kernel
theorem dL_acts_181 : decode cL_acts 181 = .ok (.iconst 4, 1) := by decide +kernel
theorem dL_acts_182 : decode cL_acts 182 = .ok (.invokevirtual 29, 3) := by decide +kernel
theorem dL_acts_185 : decode cL_acts 185 = .ok (.iload 13, 2) := by decide +kernel
theorem dL_acts_187 : decode cL_acts 187 = .ok (.if_icmp .lt 10, 3) := by decide +kernel
theorem dL_acts_190 : decode cL_acts 190 = .ok (.iload 4, 2) := by decide +kernel
theorem dL_acts_192 : decode cL_acts 192 = .ok (.bipush 16, 2) := by decide +kernel
theorem dL_acts_194 : decode cL_acts 194 = .ok (.if_icmp .ne 7, 3) := by decide +kernel
theorem dL_acts_197 : decode cL_acts 197 = .ok (.iconst 1, 1) := by decide +kernel
theorem dL_acts_198 : decode cL_acts 198 = .ok (.goto 4, 3) := by decide +kernel
theorem dL_acts_201 : decode cL_acts 201 = .ok (.iconst 0, 1) := by decide +kernel
theorem dL_acts_202 : decode cL_acts 202 = .ok (.istore 15, 2) := by decide +kernel
theorem dL_acts_204 : decode cL_acts 204 = .ok (.aload_n 0, 1) := by decide +kernel
theorem dL_acts_205 : decode cL_acts 205 = .ok (.iconst 4, 1) := by decide +kernel
theorem dL_acts_206 : decode cL_acts 206 = .ok (.invokevirtual 13, 3) := by decide +kernel
theorem dL_acts_209 : decode cL_acts 209 = .ok (.istore 16, 2) := by decide +kernel
theorem dL_acts_211 : decode cL_acts 211 = .ok (.aload_n 0, 1) := by decide +kernel
theorem dL_acts_212 : decode cL_acts 212 = .ok (.iload 11, 2) := by decide +kernel
theorem dL_acts_214 : decode cL_acts 214 = .ok (.iload 12, 2) := by decide +kernel
theorem dL_acts_216 : decode cL_acts 216 = .ok (.iload 13, 2) := by decide +kernel
theorem dL_acts_218 : decode cL_acts 218 = .ok (.invokevirtual 66, 3) := by decide +kernel
theorem dL_acts_221 : decode cL_acts 221 = .ok (.iload 14, 2) := by decide +kernel
theorem dL_acts_223 : decode cL_acts 223 = .ok (.ifCond .eq 8, 3) := by decide +kernel
theorem dL_acts_226 : decode cL_acts 226 = .ok (.ldc 44, 2) := by decide +kernel
theorem dL_acts_228 : decode cL_acts 228 = .ok (.goto 15, 3) := by decide +kernel
theorem dL_acts_231 : decode cL_acts 231 = .ok (.iload 15, 2) := by decide +kernel
theorem dL_acts_233 : decode cL_acts 233 = .ok (.ifCond .eq 8, 3) := by decide +kernel
theorem dL_acts_236 : decode cL_acts 236 = .ok (.ldc 70, 2) := by decide +kernel
theorem dL_acts_238 : decode cL_acts 238 = .ok (.goto 5, 3) := by decide +kernel
theorem dL_acts_241 : decode cL_acts 241 = .ok (.iload 16, 2) := by decide +kernel
theorem dL_acts_243 : decode cL_acts 243 = .ok (.if_icmp .ne 7, 3) := by decide +kernel
theorem dL_acts_246 : decode cL_acts 246 = .ok (.iconst 1, 1) := by decide +kernel
theorem dL_acts_247 : decode cL_acts 247 = .ok (.goto 4, 3) := by decide +kernel
theorem dL_acts_250 : decode cL_acts 250 = .ok (.iconst 0, 1) := by decide +kernel
theorem dL_acts_251 : decode cL_acts 251 = .ok (.ireturn, 1) := by decide +kernel
theorem dL_acts_252 : decode cL_acts 252 = .ok (.iload_n 3, 1) := by decide +kernel
theorem dL_acts_253 : decode cL_acts 253 = .ok (.bipush 6, 2) := by decide +kernel
theorem dL_acts_255 : decode cL_acts 255 = .ok (.if_icmp .ge 78, 3) := by decide +kernel
theorem dL_acts_258 : decode cL_acts 258 = .ok (.iload_n 2, 1) := by decide +kernel
theorem dL_acts_259 : decode cL_acts 259 = .ok (.iload 8, 2) := by decide +kernel
theorem dL_acts_261 : decode cL_acts 261 = .ok (.iconst 2, 1) := by decide +kernel
theorem dL_acts_262 : decode cL_acts 262 = .ok (.iadd, 1) := by decide +kernel
theorem dL_acts_263 : decode cL_acts 263 = .ok (.invokestatic 48, 3) := by decide +kernel
theorem dL_acts_266 : decode cL_acts 266 = .ok (.istore 11, 2) := by decide +kernel
theorem dL_acts_268 : decode cL_acts 268 = .ok (.aload_n 0, 1) := by decide +kernel
theorem dL_acts_269 : decode cL_acts 269 = .ok (.iconst 4, 1) := by decide +kernel
theorem dL_acts_270 : decode cL_acts 270 = .ok (.invokevirtual 13, 3) := by decide +kernel
theorem dL_acts_273 : decode cL_acts 273 = .ok (.istore 12, 2) := by decide +kernel
theorem dL_acts_275 : decode cL_acts 275 = .ok (.aload_n 0, 1) := by decide +kernel
theorem dL_acts_276 : decode cL_acts 276 = .ok (.iload 7, 2) := by decide +kernel
theorem dL_acts_278 : decode cL_acts 278 = .ok (.iload 11, 2) := by decide +kernel
theorem dL_acts_280 : decode cL_acts 280 = .ok (.invokevirtual 71, 3) := by decide +kernel
theorem dL_acts_283 : decode cL_acts 283 = .ok (.iload 6, 2) := by decide +kernel
theorem dL_acts_285 : decode cL_acts 285 = .ok (.ifCond .eq 8, 3) := by decide +kernel
theorem dL_acts_288 : decode cL_acts 288 = .ok (.iload 11, 2) := by decide +kernel
theorem dL_acts_290 : decode cL_acts 290 = .ok (.ifCond .ne 8, 3) := by decide +kernel
theorem dL_acts_293 : decode cL_acts 293 = .ok (.ldc 44, 2) := by decide +kernel
theorem dL_acts_295 : decode cL_acts 295 = .ok (.goto 29, 3) := by decide +kernel
theorem dL_acts_298 : decode cL_acts 298 = .ok (.iload 11, 2) := by decide +kernel
theorem dL_acts_300 : decode cL_acts 300 = .ok (.iload 8, 2) := by decide +kernel
theorem dL_acts_302 : decode cL_acts 302 = .ok (.if_icmp .lt 8, 3) := by decide +kernel
theorem dL_acts_305 : decode cL_acts 305 = .ok (.ldc 65, 2) := by decide +kernel
theorem dL_acts_307 : decode cL_acts 307 = .ok (.goto 17, 3) := by decide +kernel
theorem dL_acts_310 : decode cL_acts 310 = .ok (.iload 4, 2) := by decide +kernel
theorem dL_acts_312 : decode cL_acts 312 = .ok (.bipush 16, 2) := by decide +kernel
theorem dL_acts_314 : decode cL_acts 314 = .ok (.if_icmp .ne 8, 3) := by decide +kernel
theorem dL_acts_317 : decode cL_acts 317 = .ok (.ldc 70, 2) := by decide +kernel
theorem dL_acts_319 : decode cL_acts 319 = .ok (.goto 5, 3) := by decide +kernel
theorem dL_acts_322 : decode cL_acts 322 = .ok (.iload 12, 2) := by decide +kernel
theorem dL_acts_324 : decode cL_acts 324 = .ok (.if_icmp .ne 7, 3) := by decide +kernel
theorem dL_acts_327 : decode cL_acts 327 = .ok (.iconst 1, 1) := by decide +kernel
theorem dL_acts_328 : decode cL_acts 328 = .ok (.goto 4, 3) := by decide +kernel
theorem dL_acts_331 : decode cL_acts 331 = .ok (.iconst 0, 1) := by decide +kernel
theorem dL_acts_332 : decode cL_acts 332 = .ok (.ireturn, 1) := by decide +kernel
theorem dL_acts_333 : decode cL_acts 333 = .ok (.iload_n 3, 1) := by decide +kernel
theorem dL_acts_334 : decode cL_acts 334 = .ok (.bipush 6, 2) := by decide +kernel
theorem dL_acts_336 : decode cL_acts 336 = .ok (.if_icmp .ne 184, 3) := by decide +kernel
theorem dL_acts_339 : decode cL_acts 339 = .ok (.iload_n 2, 1) := by decide +kernel
theorem dL_acts_340 : decode cL_acts 340 = .ok (.iload 4, 2) := by decide +kernel
theorem dL_acts_342 : decode cL_acts 342 = .ok (.iconst 1, 1) := by decide +kernel
theorem dL_acts_343 : decode cL_acts 343 = .ok (.iadd, 1) := by decide +kernel
theorem dL_acts_344 : decode cL_acts 344 = .ok (.invokestatic 48, 3) := by decide +kernel
theorem dL_acts_347 : decode cL_acts 347 = .ok (.istore 11, 2) := by decide +kernel
theorem dL_acts_349 : decode cL_acts 349 = .ok (.iload 11, 2) := by decide +kernel
theorem dL_acts_351 : decode cL_acts 351 = .ok (.iload 4, 2) := by decide +kernel
theorem dL_acts_353 : decode cL_acts 353 = .ok (.if_icmp .ge 12, 3) := by decide +kernel
theorem dL_acts_356 : decode cL_acts 356 = .ok (.aload_n 0, 1) := by decide +kernel
theorem dL_acts_357 : decode cL_acts 357 = .ok (.iload 11, 2) := by decide +kernel
theorem dL_acts_359 : decode cL_acts 359 = .ok (.invokevirtual 19, 3) := by decide +kernel
theorem dL_acts_362 : decode cL_acts 362 = .ok (.goto 10, 3) := by decide +kernel
theorem dL_acts_365 : decode cL_acts 365 = .ok (.aload_n 0, 1) := by decide +kernel
theorem dL_acts_366 : decode cL_acts 366 = .ok (.iconst 4, 1) := by decide +kernel
theorem dL_acts_367 : decode cL_acts 367 = .ok (.invokevirtual 13, 3) := by decide +kernel
theorem dL_acts_370 : decode cL_acts 370 = .ok (.iconst 1, 1) := by decide +kernel
theorem dL_acts_371 : decode cL_acts 371 = .ok (.iadd, 1) := by decide +kernel
theorem dL_acts_372 : decode cL_acts 372 = .ok (.istore 12, 2) := by decide +kernel
theorem dL_acts_374 : decode cL_acts 374 = .ok (.iload 6, 2) := by decide +kernel
theorem dL_acts_376 : decode cL_acts 376 = .ok (.ifCond .eq 17, 3) := by decide +kernel
theorem dL_acts_379 : decode cL_acts 379 = .ok (.iload 11, 2) := by decide +kernel
theorem dL_acts_381 : decode cL_acts 381 = .ok (.iload 4, 2) := by decide +kernel
theorem dL_acts_383 : decode cL_acts 383 = .ok (.if_icmp .eq 10, 3) := by decide +kernel
theorem dL_acts_386 : decode cL_acts 386 = .ok (.iload 7, 2) := by decide +kernel
theorem dL_acts_388 : decode cL_acts 388 = .ok (.iload 12, 2) := by decide +kernel
theorem dL_acts_390 : decode cL_acts 390 = .ok (.if_icmp .ne 7, 3) := by decide +kernel
theorem dL_acts_393 : decode cL_acts 393 = .ok (.iconst 1, 1) := by decide +kernel
theorem dL_acts_394 : decode cL_acts 394 = .ok (.goto 4, 3) := by decide +kernel
theorem dL_acts_397 : decode cL_acts 397 = .ok (.iconst 0, 1) := by decide +kernel
theorem dL_acts_398 : decode cL_acts 398 = .ok (.istore 13, 2) := by decide +kernel
theorem dL_acts_400 : decode cL_acts 400 = .ok (.iload 13, 2) := by decide +kernel
theorem dL_acts_402 : decode cL_acts 402 = .ok (.ifCond .ne 55, 3) := by decide +kernel
theorem dL_acts_405 : decode cL_acts 405 = .ok (.iload 10, 2) := by decide +kernel
theorem dL_acts_407 : decode cL_acts 407 = .ok (.aload_n 0, 1) := by decide +kernel
theorem dL_acts_408 : decode cL_acts 408 = .ok (.iload 12, 2) := by decide +kernel
theorem dL_acts_410 : decode cL_acts 410 = .ok (.iconst 0, 1) := by decide +kernel
theorem dL_acts_411 : decode cL_acts 411 = .ok (.invokevirtual 22, 3) := by decide +kernel
theorem dL_acts_414 : decode cL_acts 414 = .ok (.if_icmp .ne 43, 3) := by decide +kernel
theorem dL_acts_417 : decode cL_acts 417 = .ok (.aload_n 0, 1) := by decide +kernel
theorem dL_acts_418 : decode cL_acts 418 = .ok (.iload 7, 2) := by decide +kernel
theorem dL_acts_420 : decode cL_acts 420 = .ok (.iconst 1, 1) := by decide +kernel
theorem dL_acts_421 : decode cL_acts 421 = .ok (.invokevirtual 22, 3) := by decide +kernel
theorem dL_acts_424 : decode cL_acts 424 = .ok (.aload_n 0, 1) := by decide +kernel
theorem dL_acts_425 : decode cL_acts 425 = .ok (.iload 12, 2) := by decide +kernel
theorem dL_acts_427 : decode cL_acts 427 = .ok (.iconst 1, 1) := by decide +kernel
theorem dL_acts_428 : decode cL_acts 428 = .ok (.invokevirtual 22, 3) := by decide +kernel
theorem dL_acts_431 : decode cL_acts 431 = .ok (.if_icmp .ne 26, 3) := by decide +kernel
theorem dL_acts_434 : decode cL_acts 434 = .ok (.iload 9, 2) := by decide +kernel
theorem dL_acts_436 : decode cL_acts 436 = .ok (.ldc 43, 2) := by decide +kernel
theorem dL_acts_438 : decode cL_acts 438 = .ok (.if_icmp .ne 19, 3) := by decide +kernel
theorem dL_acts_441 : decode cL_acts 441 = .ok (.aload_n 0, 1) := by decide +kernel
theorem dL_acts_442 : decode cL_acts 442 = .ok (.iload 12, 2) := by decide +kernel
theorem dL_acts_444 : decode cL_acts 444 = .ok (.iconst 5, 1) := by decide +kernel
theorem dL_acts_445 : decode cL_acts 445 = .ok (.invokevirtual 22, 3) := by decide +kernel
theorem dL_acts_448 : decode cL_acts 448 = .ok (.ldc 43, 2) := by decide +kernel
theorem dL_acts_450 : decode cL_acts 450 = .ok (.if_icmp .ne 7, 3) := by decide +kernel
theorem dL_acts_453 : decode cL_acts 453 = .ok (.iconst 1, 1) := by decide +kernel
theorem dL_acts_454 : decode cL_acts 454 = .ok (.goto 4, 3) := by decide +kernel
theorem dL_acts_457 : decode cL_acts 457 = .ok (.iconst 0, 1) := by decide +kernel
theorem dL_acts_458 : decode cL_acts 458 = .ok (.istore 14, 2) := by decide +kernel
theorem dL_acts_460 : decode cL_acts 460 = .ok (.iload 13, 2) := by decide +kernel
theorem dL_acts_462 : decode cL_acts 462 = .ok (.ifCond .eq 7, 3) := by decide +kernel
theorem dL_acts_465 : decode cL_acts 465 = .ok (.iconst 0, 1) := by decide +kernel
theorem dL_acts_466 : decode cL_acts 466 = .ok (.goto 13, 3) := by decide +kernel
theorem dL_acts_469 : decode cL_acts 469 = .ok (.iload 8, 2) := by decide +kernel
theorem dL_acts_471 : decode cL_acts 471 = .ok (.aload_n 0, 1) := by decide +kernel
theorem dL_acts_472 : decode cL_acts 472 = .ok (.iload 12, 2) := by decide +kernel
theorem dL_acts_474 : decode cL_acts 474 = .ok (.iconst 2, 1) := by decide +kernel
theorem dL_acts_475 : decode cL_acts 475 = .ok (.invokevirtual 22, 3) := by decide +kernel
theorem dL_acts_478 : decode cL_acts 478 = .ok (.iadd, 1) := by decide +kernel
theorem dL_acts_479 : decode cL_acts 479 = .ok (.istore 15, 2) := by decide +kernel
theorem dL_acts_481 : decode cL_acts 481 = .ok (.aload_n 0, 1) := by decide +kernel
theorem dL_acts_482 : decode cL_acts 482 = .ok (.iload 7, 2) := by decide +kernel
theorem dL_acts_484 : decode cL_acts 484 = .ok (.iload 12, 2) := by decide +kernel
theorem dL_acts_486 : decode cL_acts 486 = .ok (.invokevirtual 74, 3) := by decide +kernel
theorem dL_acts_489 : decode cL_acts 489 = .ok (.iload 13, 2) := by decide +kernel
theorem dL_acts_491 : decode cL_acts 491 = .ok (.ifCond .eq 8, 3) := by decide +kernel
theorem dL_acts_494 : decode cL_acts 494 = .ok (.ldc 44, 2) := by decide +kernel
theorem dL_acts_496 : decode cL_acts 496 = .ok (.goto 15, 3) := by decide +kernel
theorem dL_acts_499 : decode cL_acts 499 = .ok (.iload 14, 2) := by decide +kernel
theorem dL_acts_501 : decode cL_acts 501 = .ok (.ifCond .eq 8, 3) := by decide +kernel
theorem dL_acts_504 : decode cL_acts 504 = .ok (.iload 15, 2) := by decide +kernel
theorem dL_acts_506 : decode cL_acts 506 = .ok (.goto 5, 3) := by decide +kernel
theorem dL_acts_509 : decode cL_acts 509 = .ok (.ldc 65, 2) := by decide +kernel
theorem dL_acts_511 : decode cL_acts 511 = .ok (.if_icmp .ne 7, 3) := by decide +kernel
theorem dL_acts_514 : decode cL_acts 514 = .ok (.iconst 1, 1) := by decide +kernel
theorem dL_acts_515 : decode cL_acts 515 = .ok (.goto 4, 3) := by decide +kernel
theorem dL_acts_518 : decode cL_acts 518 = .ok (.iconst 0, 1) := by decide +kernel
theorem dL_acts_519 : decode cL_acts 519 = .ok (.ireturn, 1) := by decide +kernel
theorem dL_acts_520 : decode cL_acts 520 = .ok (.iload_n 3, 1) := by decide +kernel
theorem dL_acts_521 : decode cL_acts 521 = .ok (.bipush 7, 2) := by decide +kernel
theorem dL_acts_523 : decode cL_acts 523 = .ok (.if_icmp .ne 66, 3) := by decide +kernel
theorem dL_acts_526 : decode cL_acts 526 = .ok (.iload_n 2, 1) := by decide +kernel
theorem dL_acts_527 : decode cL_acts 527 = .ok (.bipush 9, 2) := by decide +kernel
theorem dL_acts_529 : decode cL_acts 529 = .ok (.invokestatic 48, 3) := by decide +kernel
theorem dL_acts_532 : decode cL_acts 532 = .ok (.istore 11, 2) := by decide +kernel
theorem dL_acts_534 : decode cL_acts 534 = .ok (.aload_n 0, 1) := by decide +kernel
theorem dL_acts_535 : decode cL_acts 535 = .ok (.iload 7, 2) := by decide +kernel
theorem dL_acts_537 : decode cL_acts 537 = .ok (.iload 11, 2) := by decide +kernel
theorem dL_acts_539 : decode cL_acts 539 = .ok (.invokevirtual 77, 3) := by decide +kernel
theorem dL_acts_542 : decode cL_acts 542 = .ok (.iload 6, 2) := by decide +kernel
theorem dL_acts_544 : decode cL_acts 544 = .ok (.ifCond .eq 10, 3) := by decide +kernel
theorem dL_acts_547 : decode cL_acts 547 = .ok (.iload 11, 2) := by decide +kernel
theorem dL_acts_549 : decode cL_acts 549 = .ok (.bipush 8, 2) := by decide +kernel
theorem dL_acts_551 : decode cL_acts 551 = .ok (.if_icmp .ne 8, 3) := by decide +kernel
theorem dL_acts_554 : decode cL_acts 554 = .ok (.ldc 44, 2) := by decide +kernel
theorem dL_acts_556 : decode cL_acts 556 = .ok (.goto 24, 3) := by decide +kernel
theorem dL_acts_559 : decode cL_acts 559 = .ok (.iload 11, 2) := by decide +kernel
theorem dL_acts_561 : decode cL_acts 561 = .ok (.iload 10, 2) := by decide +kernel
theorem dL_acts_563 : decode cL_acts 563 = .ok (.if_icmp .eq 10, 3) := by decide +kernel
theorem dL_acts_566 : decode cL_acts 566 = .ok (.iload 9, 2) := by decide +kernel
theorem dL_acts_568 : decode cL_acts 568 = .ok (.ldc 43, 2) := by decide +kernel
theorem dL_acts_570 : decode cL_acts 570 = .ok (.if_icmp .eq 8, 3) := by decide +kernel
theorem dL_acts_573 : decode cL_acts 573 = .ok (.ldc 65, 2) := by decide +kernel
theorem dL_acts_575 : decode cL_acts 575 = .ok (.goto 5, 3) := by decide +kernel
theorem dL_acts_578 : decode cL_acts 578 = .ok (.iload 10, 2) := by decide +kernel
theorem dL_acts_580 : decode cL_acts 580 = .ok (.if_icmp .ne 7, 3) := by decide +kernel
theorem dL_acts_583 : decode cL_acts 583 = .ok (.iconst 1, 1) := by decide +kernel
theorem dL_acts_584 : decode cL_acts 584 = .ok (.goto 4, 3) := by decide +kernel
theorem dL_acts_587 : decode cL_acts 587 = .ok (.iconst 0, 1) := by decide +kernel
theorem dL_acts_588 : decode cL_acts 588 = .ok (.ireturn, 1) := by decide +kernel
theorem dL_acts_589 : decode cL_acts 589 = .ok (.iload_n 3, 1) := by decide +kernel
theorem dL_acts_590 : decode cL_acts 590 = .ok (.bipush 8, 2) := by decide +kernel
theorem dL_acts_592 : decode cL_acts 592 = .ok (.if_icmp .ne 83, 3) := by decide +kernel
theorem dL_acts_595 : decode cL_acts 595 = .ok (.aload_n 0, 1) := by decide +kernel
theorem dL_acts_596 : decode cL_acts 596 = .ok (.iload 7, 2) := by decide +kernel
theorem dL_acts_598 : decode cL_acts 598 = .ok (.invokevirtual 80, 3) := by decide +kernel
theorem dL_acts_601 : decode cL_acts 601 = .ok (.istore 11, 2) := by decide +kernel
theorem dL_acts_603 : decode cL_acts 603 = .ok (.iload 6, 2) := by decide +kernel
theorem dL_acts_605 : decode cL_acts 605 = .ok (.ifCond .ne 18, 3) := by decide +kernel
theorem dL_acts_608 : decode cL_acts 608 = .ok (.iload 11, 2) := by decide +kernel
theorem dL_acts_610 : decode cL_acts 610 = .ok (.ldc 44, 2) := by decide +kernel
theorem dL_acts_612 : decode cL_acts 612 = .ok (.if_icmp .ne 7, 3) := by decide +kernel
theorem dL_acts_615 : decode cL_acts 615 = .ok (.iconst 1, 1) := by decide +kernel
theorem dL_acts_616 : decode cL_acts 616 = .ok (.goto 58, 3) := by decide +kernel
theorem dL_acts_619 : decode cL_acts 619 = .ok (.iconst 0, 1) := by decide +kernel
theorem dL_acts_620 : decode cL_acts 620 = .ok (.goto 54, 3) := by decide +kernel
theorem dL_acts_623 : decode cL_acts 623 = .ok (.iload 9, 2) := by decide +kernel
theorem dL_acts_625 : decode cL_acts 625 = .ok (.ldc 43, 2) := by decide +kernel
theorem dL_acts_627 : decode cL_acts 627 = .ok (.if_icmp .eq 18, 3) := by decide +kernel
theorem dL_acts_630 : decode cL_acts 630 = .ok (.iload 11, 2) := by decide +kernel
theorem dL_acts_632 : decode cL_acts 632 = .ok (.ldc 65, 2) := by decide +kernel
theorem dL_acts_634 : decode cL_acts 634 = .ok (.if_icmp .ne 7, 3) := by decide +kernel
theorem dL_acts_637 : decode cL_acts 637 = .ok (.iconst 1, 1) := by decide +kernel
theorem dL_acts_638 : decode cL_acts 638 = .ok (.goto 36, 3) := by decide +kernel
theorem dL_acts_641 : decode cL_acts 641 = .ok (.iconst 0, 1) := by decide +kernel
theorem dL_acts_642 : decode cL_acts 642 = .ok (.goto 32, 3) := by decide +kernel
theorem dL_acts_645 : decode cL_acts 645 = .ok (.iload 11, 2) := by decide +kernel
theorem dL_acts_647 : decode cL_acts 647 = .ok (.ifCond .lt 26, 3) := by decide +kernel
theorem dL_acts_650 : decode cL_acts 650 = .ok (.iload 11, 2) := by decide +kernel
theorem dL_acts_652 : decode cL_acts 652 = .ok (.iload 8, 2) := by decide +kernel
theorem dL_acts_654 : decode cL_acts 654 = .ok (.if_icmp .gt 19, 3) := by decide +kernel
theorem dL_acts_657 : decode cL_acts 657 = .ok (.aload_n 0, 1) := by decide +kernel
theorem dL_acts_658 : decode cL_acts 658 = .ok (.iload 7, 2) := by decide +kernel
theorem dL_acts_660 : decode cL_acts 660 = .ok (.iconst 0, 1) := by decide +kernel
theorem dL_acts_661 : decode cL_acts 661 = .ok (.invokevirtual 22, 3) := by decide +kernel
theorem dL_acts_664 : decode cL_acts 664 = .ok (.ldc 44, 2) := by decide +kernel
theorem dL_acts_666 : decode cL_acts 666 = .ok (.if_icmp .ne 7, 3) := by decide +kernel
theorem dL_acts_669 : decode cL_acts 669 = .ok (.iconst 1, 1) := by decide +kernel
theorem dL_acts_670 : decode cL_acts 670 = .ok (.goto 4, 3) := by decide +kernel
theorem dL_acts_673 : decode cL_acts 673 = .ok (.iconst 0, 1) := by decide +kernel
theorem dL_acts_674 : decode cL_acts 674 = .ok (.ireturn, 1) := by decide +kernel
theorem dL_acts_675 : decode cL_acts 675 = .ok (.iload_n 3, 1) := by decide +kernel
theorem dL_acts_676 : decode cL_acts 676 = .ok (.bipush 12, 2) := by decide +kernel
theorem dL_acts_678 : decode cL_acts 678 = .ok (.if_icmp .ge 144, 3) := by decide +kernel
theorem dL_acts_681 : decode cL_acts 681 = .ok (.iload_n 2, 1) := by decide +kernel
theorem dL_acts_682 : decode cL_acts 682 = .ok (.iconst 4, 1) := by decide +kernel
theorem dL_acts_683 : decode cL_acts 683 = .ok (.invokestatic 48, 3) := by decide +kernel
theorem dL_acts_686 : decode cL_acts 686 = .ok (.istore 11, 2) := by decide +kernel
theorem dL_acts_688 : decode cL_acts 688 = .ok (.iload 6, 2) := by decide +kernel
theorem dL_acts_690 : decode cL_acts 690 = .ok (.ifCond .eq 14, 3) := by decide +kernel
theorem dL_acts_693 : decode cL_acts 693 = .ok (.aload_n 0, 1) := by decide +kernel
theorem dL_acts_694 : decode cL_acts 694 = .ok (.iload 7, 2) := by decide +kernel
theorem dL_acts_696 : decode cL_acts 696 = .ok (.bipush 7, 2) := by decide +kernel
theorem dL_acts_698 : decode cL_acts 698 = .ok (.invokevirtual 22, 3) := by decide +kernel
theorem dL_acts_701 : decode cL_acts 701 = .ok (.goto 4, 3) := by decide +kernel
theorem dL_acts_704 : decode cL_acts 704 = .ok (.iconst 0, 1) := by decide +kernel
theorem dL_acts_705 : decode cL_acts 705 = .ok (.istore 12, 2) := by decide +kernel
theorem dL_acts_707 : decode cL_acts 707 = .ok (.iload_n 2, 1) := by decide +kernel
theorem dL_acts_708 : decode cL_acts 708 = .ok (.iconst 2, 1) := by decide +kernel
theorem dL_acts_709 : decode cL_acts 709 = .ok (.ishr, 1) := by decide +kernel
theorem dL_acts_710 : decode cL_acts 710 = .ok (.iload 12, 2) := by decide +kernel
theorem dL_acts_712 : decode cL_acts 712 = .ok (.iconst 2, 1) := by decide +kernel
theorem dL_acts_713 : decode cL_acts 713 = .ok (.iadd, 1) := by decide +kernel
theorem dL_acts_714 : decode cL_acts 714 = .ok (.invokestatic 48, 3) := by decide +kernel
theorem dL_acts_717 : decode cL_acts 717 = .ok (.istore 13, 2) := by decide +kernel
theorem dL_acts_719 : decode cL_acts 719 = .ok (.iload 6, 2) := by decide +kernel
theorem dL_acts_721 : decode cL_acts 721 = .ok (.ifCond .eq 13, 3) := by decide +kernel
theorem dL_acts_724 : decode cL_acts 724 = .ok (.aload_n 0, 1) := by decide +kernel
theorem dL_acts_725 : decode cL_acts 725 = .ok (.iload 10, 2) := by decide +kernel
theorem dL_acts_727 : decode cL_acts 727 = .ok (.iconst 0, 1) := by decide +kernel
theorem dL_acts_728 : decode cL_acts 728 = .ok (.invokevirtual 38, 3) := by decide +kernel
theorem dL_acts_731 : decode cL_acts 731 = .ok (.goto 4, 3) := by decide +kernel
theorem dL_acts_734 : decode cL_acts 734 = .ok (.iconst 0, 1) := by decide +kernel
theorem dL_acts_735 : decode cL_acts 735 = .ok (.istore 14, 2) := by decide +kernel
theorem dL_acts_737 : decode cL_acts 737 = .ok (.iload 6, 2) := by decide +kernel
theorem dL_acts_739 : decode cL_acts 739 = .ok (.ifCond .eq 14, 3) := by decide +kernel
theorem dL_acts_742 : decode cL_acts 742 = .ok (.iload 11, 2) := by decide +kernel
theorem dL_acts_744 : decode cL_acts 744 = .ok (.iconst 3, 1) := by decide +kernel
theorem dL_acts_745 : decode cL_acts 745 = .ok (.if_icmp .eq 8, 3) := by decide +kernel
theorem dL_acts_748 : decode cL_acts 748 = .ok (.iload 13, 2) := by decide +kernel
theorem dL_acts_750 : decode cL_acts 750 = .ok (.ifCond .ne 7, 3) := by decide +kernel
theorem dL_acts_753 : decode cL_acts 753 = .ok (.iconst 1, 1) := by decide +kernel
theorem dL_acts_754 : decode cL_acts 754 = .ok (.goto 4, 3) := by decide +kernel
theorem dL_acts_757 : decode cL_acts 757 = .ok (.iconst 0, 1) := by decide +kernel
theorem dL_acts_758 : decode cL_acts 758 = .ok (.istore 15, 2) := by decide +kernel
theorem dL_acts_760 : decode cL_acts 760 = .ok (.aload_n 0, 1) := by decide +kernel
theorem dL_acts_761 : decode cL_acts 761 = .ok (.iload 7, 2) := by decide +kernel
theorem dL_acts_763 : decode cL_acts 763 = .ok (.iload 11, 2) := by decide +kernel
theorem dL_acts_765 : decode cL_acts 765 = .ok (.iload 13, 2) := by decide +kernel
theorem dL_acts_767 : decode cL_acts 767 = .ok (.invokevirtual 83, 3) := by decide +kernel
theorem dL_acts_770 : decode cL_acts 770 = .ok (.iload 15, 2) := by decide +kernel
theorem dL_acts_772 : decode cL_acts 772 = .ok (.ifCond .eq 8, 3) := by decide +kernel
theorem dL_acts_775 : decode cL_acts 775 = .ok (.ldc 44, 2) := by decide +kernel
theorem dL_acts_777 : decode cL_acts 777 = .ok (.goto 36, 3) := by decide +kernel
theorem dL_acts_780 : decode cL_acts 780 = .ok (.iload 9, 2) := by decide +kernel
theorem dL_acts_782 : decode cL_acts 782 = .ok (.ldc 43, 2) := by decide +kernel
theorem dL_acts_784 : decode cL_acts 784 = .ok (.if_icmp .ne 19, 3) := by decide +kernel
theorem dL_acts_787 : decode cL_acts 787 = .ok (.iload 10, 2) := by decide +kernel
theorem dL_acts_789 : decode cL_acts 789 = .ok (.iconst 5, 1) := by decide +kernel
theorem dL_acts_790 : decode cL_acts 790 = .ok (.iload 11, 2) := by decide +kernel
theorem dL_acts_792 : decode cL_acts 792 = .ok (.iadd, 1) := by decide +kernel
theorem dL_acts_793 : decode cL_acts 793 = .ok (.if_icmp .eq 10, 3) := by decide +kernel
theorem dL_acts_796 : decode cL_acts 796 = .ok (.iload 13, 2) := by decide +kernel
theorem dL_acts_798 : decode cL_acts 798 = .ok (.iload 12, 2) := by decide +kernel
theorem dL_acts_800 : decode cL_acts 800 = .ok (.if_icmp .le 8, 3) := by decide +kernel
theorem dL_acts_803 : decode cL_acts 803 = .ok (.ldc 65, 2) := by decide +kernel
theorem dL_acts_805 : decode cL_acts 805 = .ok (.goto 8, 3) := by decide +kernel
theorem dL_acts_808 : decode cL_acts 808 = .ok (.iload 14, 2) := by decide +kernel
theorem dL_acts_810 : decode cL_acts 810 = .ok (.iload 13, 2) := by decide +kernel
theorem dL_acts_812 : decode cL_acts 812 = .ok (.iadd, 1) := by decide +kernel
theorem dL_acts_813 : decode cL_acts 813 = .ok (.if_icmp .ne 7, 3) := by decide +kernel
theorem dL_acts_816 : decode cL_acts 816 = .ok (.iconst 1, 1) := by decide +kernel
theorem dL_acts_817 : decode cL_acts 817 = .ok (.goto 4, 3) := by decide +kernel
theorem dL_acts_820 : decode cL_acts 820 = .ok (.iconst 0, 1) := by decide +kernel
theorem dL_acts_821 : decode cL_acts 821 = .ok (.ireturn, 1) := by decide +kernel
theorem dL_acts_822 : decode cL_acts 822 = .ok (.iload_n 3, 1) := by decide +kernel
theorem dL_acts_823 : decode cL_acts 823 = .ok (.bipush 14, 2) := by decide +kernel
theorem dL_acts_825 : decode cL_acts 825 = .ok (.if_icmp .ge 84, 3) := by decide +kernel
theorem dL_acts_828 : decode cL_acts 828 = .ok (.iload 9, 2) := by decide +kernel
theorem dL_acts_830 : decode cL_acts 830 = .ok (.ldc 43, 2) := by decide +kernel
theorem dL_acts_832 : decode cL_acts 832 = .ok (.if_icmp .ne 11, 3) := by decide +kernel
theorem dL_acts_835 : decode cL_acts 835 = .ok (.iload_n 2, 1) := by decide +kernel
theorem dL_acts_836 : decode cL_acts 836 = .ok (.iconst 2, 1) := by decide +kernel
theorem dL_acts_837 : decode cL_acts 837 = .ok (.invokestatic 48, 3) := by decide +kernel
theorem dL_acts_840 : decode cL_acts 840 = .ok (.goto 11, 3) := by decide +kernel
theorem dL_acts_843 : decode cL_acts 843 = .ok (.iload_n 2, 1) := by decide +kernel
theorem dL_acts_844 : decode cL_acts 844 = .ok (.iload 9, 2) := by decide +kernel
theorem dL_acts_846 : decode cL_acts 846 = .ok (.iconst 2, 1) := by decide +kernel
theorem dL_acts_847 : decode cL_acts 847 = .ok (.iadd, 1) := by decide +kernel
theorem dL_acts_848 : decode cL_acts 848 = .ok (.invokestatic 48, 3) := by decide +kernel
theorem dL_acts_851 : decode cL_acts 851 = .ok (.istore 11, 2) := by decide +kernel
theorem dL_acts_853 : decode cL_acts 853 = .ok (.aload_n 0, 1) := by decide +kernel
theorem dL_acts_854 : decode cL_acts 854 = .ok (.iload 7, 2) := by decide +kernel
theorem dL_acts_856 : decode cL_acts 856 = .ok (.iload 11, 2) := by decide +kernel
theorem dL_acts_858 : decode cL_acts 858 = .ok (.invokevirtual 86, 3) := by decide +kernel
theorem dL_acts_861 : decode cL_acts 861 = .ok (.iload 6, 2) := by decide +kernel
theorem dL_acts_863 : decode cL_acts 863 = .ok (.ifCond .eq 8, 3) := by decide +kernel
theorem dL_acts_866 : decode cL_acts 866 = .ok (.iload 11, 2) := by decide +kernel
theorem dL_acts_868 : decode cL_acts 868 = .ok (.ifCond .ne 8, 3) := by decide +kernel
theorem dL_acts_871 : decode cL_acts 871 = .ok (.ldc 44, 2) := by decide +kernel
theorem dL_acts_873 : decode cL_acts 873 = .ok (.goto 27, 3) := by decide +kernel
theorem dL_acts_876 : decode cL_acts 876 = .ok (.iload 9, 2) := by decide +kernel
theorem dL_acts_878 : decode cL_acts 878 = .ok (.ldc 43, 2) := by decide +kernel
theorem dL_acts_880 : decode cL_acts 880 = .ok (.if_icmp .eq 10, 3) := by decide +kernel
theorem dL_acts_883 : decode cL_acts 883 = .ok (.iload 11, 2) := by decide +kernel
theorem dL_acts_885 : decode cL_acts 885 = .ok (.iload 9, 2) := by decide +kernel
theorem dL_acts_887 : decode cL_acts 887 = .ok (.if_icmp .le 8, 3) := by decide +kernel
theorem dL_acts_890 : decode cL_acts 890 = .ok (.ldc 65, 2) := by decide +kernel
theorem dL_acts_892 : decode cL_acts 892 = .ok (.goto 8, 3) := by decide +kernel
theorem dL_acts_895 : decode cL_acts 895 = .ok (.iload 9, 2) := by decide +kernel
theorem dL_acts_897 : decode cL_acts 897 = .ok (.iload 11, 2) := by decide +kernel
theorem dL_acts_899 : decode cL_acts 899 = .ok (.isub, 1) := by decide +kernel
theorem dL_acts_900 : decode cL_acts 900 = .ok (.if_icmp .ne 7, 3) := by decide +kernel
theorem dL_acts_903 : decode cL_acts 903 = .ok (.iconst 1, 1) := by decide +kernel
theorem dL_acts_904 : decode cL_acts 904 = .ok (.goto 4, 3) := by decide +kernel
theorem dL_acts_907 : decode cL_acts 907 = .ok (.iconst 0, 1) := by decide +kernel
theorem dL_acts_908 : decode cL_acts 908 = .ok (.ireturn, 1) := by decide +kernel
theorem dL_acts_909 : decode cL_acts 909 = .ok (.iload_n 3, 1) := by decide +kernel
theorem dL_acts_910 : decode cL_acts 910 = .ok (.bipush 14, 2) := by decide +kernel
theorem dL_acts_912 : decode cL_acts 912 = .ok (.if_icmp .ne 74, 3) := by decide +kernel
theorem dL_acts_915 : decode cL_acts 915 = .ok (.iload_n 2, 1) := by decide +kernel
theorem dL_acts_916 : decode cL_acts 916 = .ok (.iconst 4, 1) := by decide +kernel
theorem dL_acts_917 : decode cL_acts 917 = .ok (.invokestatic 48, 3) := by decide +kernel
theorem dL_acts_920 : decode cL_acts 920 = .ok (.istore 11, 2) := by decide +kernel
theorem dL_acts_922 : decode cL_acts 922 = .ok (.iload_n 2, 1) := by decide +kernel
theorem dL_acts_923 : decode cL_acts 923 = .ok (.iconst 2, 1) := by decide +kernel
theorem dL_acts_924 : decode cL_acts 924 = .ok (.ishr, 1) := by decide +kernel
theorem dL_acts_925 : decode cL_acts 925 = .ok (.bipush 40, 2) := by decide +kernel
theorem dL_acts_927 : decode cL_acts 927 = .ok (.invokestatic 48, 3) := by decide +kernel
theorem dL_acts_930 : decode cL_acts 930 = .ok (.istore 12, 2) := by decide +kernel
theorem dL_acts_932 : decode cL_acts 932 = .ok (.iload 11, 2) := by decide +kernel
theorem dL_acts_934 : decode cL_acts 934 = .ok (.iconst 3, 1) := by decide +kernel
theorem dL_acts_935 : decode cL_acts 935 = .ok (.if_icmp .ne 7, 3) := by decide +kernel
theorem dL_acts_938 : decode cL_acts 938 = .ok (.iconst 0, 1) := by decide +kernel
theorem dL_acts_939 : decode cL_acts 939 = .ok (.goto 10, 3) := by decide +kernel
theorem dL_acts_942 : decode cL_acts 942 = .ok (.aload_n 0, 1) := by decide +kernel
theorem dL_acts_943 : decode cL_acts 943 = .ok (.iload 11, 2) := by decide +kernel
theorem dL_acts_945 : decode cL_acts 945 = .ok (.iconst 0, 1) := by decide +kernel
theorem dL_acts_946 : decode cL_acts 946 = .ok (.invokevirtual 29, 3) := by decide +kernel
theorem dL_acts_949 : decode cL_acts 949 = .ok (.istore 13, 2) := by decide +kernel
theorem dL_acts_951 : decode cL_acts 951 = .ok (.aload_n 0, 1) := by decide +kernel
theorem dL_acts_952 : decode cL_acts 952 = .ok (.iload 11, 2) := by decide +kernel
theorem dL_acts_954 : decode cL_acts 954 = .ok (.iload 12, 2) := by decide +kernel
theorem dL_acts_956 : decode cL_acts 956 = .ok (.invokevirtual 89, 3) := by decide +kernel
theorem dL_acts_959 : decode cL_acts 959 = .ok (.iload 11, 2) := by decide +kernel
theorem dL_acts_961 : decode cL_acts 961 = .ok (.iconst 3, 1) := by decide +kernel
theorem dL_acts_962 : decode cL_acts 962 = .ok (.if_icmp .eq 8, 3) := by decide +kernel
theorem dL_acts_965 : decode cL_acts 965 = .ok (.iload 12, 2) := by decide +kernel
theorem dL_acts_967 : decode cL_acts 967 = .ok (.ifCond .ne 8, 3) := by decide +kernel
theorem dL_acts_970 : decode cL_acts 970 = .ok (.ldc 44, 2) := by decide +kernel
theorem dL_acts_972 : decode cL_acts 972 = .ok (.goto 5, 3) := by decide +kernel
theorem dL_acts_975 : decode cL_acts 975 = .ok (.iload 13, 2) := by decide +kernel
theorem dL_acts_977 : decode cL_acts 977 = .ok (.if_icmp .ne 7, 3) := by decide +kernel
theorem dL_acts_980 : decode cL_acts 980 = .ok (.iconst 1, 1) := by decide +kernel
theorem dL_acts_981 : decode cL_acts 981 = .ok (.goto 4, 3) := by decide +kernel
theorem dL_acts_984 : decode cL_acts 984 = .ok (.iconst 0, 1) := by decide +kernel
theorem dL_acts_985 : decode cL_acts 985 = .ok (.ireturn, 1) := by decide +kernel
theorem dL_acts_986 : decode cL_acts 986 = .ok (.iload_n 3, 1) := by decide +kernel
theorem dL_acts_987 : decode cL_acts 987 = .ok (.bipush 15, 2) := by decide +kernel
theorem dL_acts_989 : decode cL_acts 989 = .ok (.if_icmp .ne 63, 3) := by decide +kernel
theorem dL_acts_992 : decode cL_acts 992 = .ok (.iload_n 2, 1) := by decide +kernel
theorem dL_acts_993 : decode cL_acts 993 = .ok (.iconst 4, 1) := by decide +kernel
theorem dL_acts_994 : decode cL_acts 994 = .ok (.invokestatic 48, 3) := by decide +kernel
theorem dL_acts_997 : decode cL_acts 997 = .ok (.istore 11, 2) := by decide +kernel
theorem dL_acts_999 : decode cL_acts 999 = .ok (.iload 11, 2) := by decide +kernel
theorem dL_acts_1001 : decode cL_acts 1001 = .ok (.iconst 3, 1) := by decide +kernel
theorem dL_acts_1002 : decode cL_acts 1002 = .ok (.if_icmp .ne 8, 3) := by decide +kernel
theorem dL_acts_1005 : decode cL_acts 1005 = .ok (.ldc 44, 2) := by decide +kernel
theorem dL_acts_1007 : decode cL_acts 1007 = .ok (.goto 10, 3) := by decide +kernel
theorem dL_acts_1010 : decode cL_acts 1010 = .ok (.aload_n 0, 1) := by decide +kernel
theorem dL_acts_1011 : decode cL_acts 1011 = .ok (.iload 11, 2) := by decide +kernel
theorem dL_acts_1013 : decode cL_acts 1013 = .ok (.iconst 5, 1) := by decide +kernel
theorem dL_acts_1014 : decode cL_acts 1014 = .ok (.invokevirtual 32, 3) := by decide +kernel
theorem dL_acts_1017 : decode cL_acts 1017 = .ok (.istore 12, 2) := by decide +kernel
theorem dL_acts_1019 : decode cL_acts 1019 = .ok (.aload_n 0, 1) := by decide +kernel
theorem dL_acts_1020 : decode cL_acts 1020 = .ok (.iload 11, 2) := by decide +kernel
theorem dL_acts_1022 : decode cL_acts 1022 = .ok (.invokevirtual 92, 3) := by decide +kernel
theorem dL_acts_1025 : decode cL_acts 1025 = .ok (.iload 12, 2) := by decide +kernel
theorem dL_acts_1027 : decode cL_acts 1027 = .ok (.if_icmp .ne 23, 3) := by decide +kernel
theorem dL_acts_1030 : decode cL_acts 1030 = .ok (.iload 11, 2) := by decide +kernel
theorem dL_acts_1032 : decode cL_acts 1032 = .ok (.iconst 3, 1) := by decide +kernel
theorem dL_acts_1033 : decode cL_acts 1033 = .ok (.if_icmp .eq 13, 3) := by decide +kernel
theorem dL_acts_1036 : decode cL_acts 1036 = .ok (.aload_n 0, 1) := by decide +kernel
theorem dL_acts_1037 : decode cL_acts 1037 = .ok (.iload 11, 2) := by decide +kernel
theorem dL_acts_1039 : decode cL_acts 1039 = .ok (.iconst 5, 1) := by decide +kernel
theorem dL_acts_1040 : decode cL_acts 1040 = .ok (.invokevirtual 32, 3) := by decide +kernel
theorem dL_acts_1043 : decode cL_acts 1043 = .ok (.ifCond .ne 7, 3) := by decide +kernel
theorem dL_acts_1046 : decode cL_acts 1046 = .ok (.iconst 1, 1) := by decide +kernel
theorem dL_acts_1047 : decode cL_acts 1047 = .ok (.goto 4, 3) := by decide +kernel
theorem dL_acts_1050 : decode cL_acts 1050 = .ok (.iconst 0, 1) := by decide +kernel
theorem dL_acts_1051 : decode cL_acts 1051 = .ok (.ireturn, 1) := by decide +kernel
theorem dL_acts_1052 : decode cL_acts 1052 = .ok (.iload_n 3, 1) := by decide +kernel
theorem dL_acts_1053 : decode cL_acts 1053 = .ok (.bipush 16, 2) := by decide +kernel
theorem dL_acts_1055 : decode cL_acts 1055 = .ok (.if_icmp .ne 115, 3) := by decide +kernel
theorem dL_acts_1058 : decode cL_acts 1058 = .ok (.iload_n 2, 1) := by decide +kernel
theorem dL_acts_1059 : decode cL_acts 1059 = .ok (.bipush 6, 2) := by decide +kernel
theorem dL_acts_1061 : decode cL_acts 1061 = .ok (.invokestatic 48, 3) := by decide +kernel
theorem dL_acts_1064 : decode cL_acts 1064 = .ok (.ifCond .ne 14, 3) := by decide +kernel
theorem dL_acts_1067 : decode cL_acts 1067 = .ok (.iload_n 2, 1) := by decide +kernel
theorem dL_acts_1068 : decode cL_acts 1068 = .ok (.iconst 3, 1) := by decide +kernel
theorem dL_acts_1069 : decode cL_acts 1069 = .ok (.ishr, 1) := by decide +kernel
theorem dL_acts_1070 : decode cL_acts 1070 = .ok (.bipush 101, 2) := by decide +kernel
theorem dL_acts_1072 : decode cL_acts 1072 = .ok (.invokestatic 48, 3) := by decide +kernel
theorem dL_acts_1075 : decode cL_acts 1075 = .ok (.goto 12, 3) := by decide +kernel
theorem dL_acts_1078 : decode cL_acts 1078 = .ok (.iconst 1, 1) := by decide +kernel
theorem dL_acts_1079 : decode cL_acts 1079 = .ok (.iload_n 2, 1) := by decide +kernel
theorem dL_acts_1080 : decode cL_acts 1080 = .ok (.iconst 3, 1) := by decide +kernel
theorem dL_acts_1081 : decode cL_acts 1081 = .ok (.ishr, 1) := by decide +kernel
theorem dL_acts_1082 : decode cL_acts 1082 = .ok (.iconst 3, 1) := by decide +kernel
theorem dL_acts_1083 : decode cL_acts 1083 = .ok (.invokestatic 48, 3) := by decide +kernel
theorem dL_acts_1086 : decode cL_acts 1086 = .ok (.iadd, 1) := by decide +kernel
theorem dL_acts_1087 : decode cL_acts 1087 = .ok (.istore 11, 2) := by decide +kernel
theorem dL_acts_1089 : decode cL_acts 1089 = .ok (.aload_n 0, 1) := by decide +kernel
theorem dL_acts_1090 : decode cL_acts 1090 = .ok (.iconst 3, 1) := by decide +kernel
theorem dL_acts_1091 : decode cL_acts 1091 = .ok (.invokevirtual 13, 3) := by decide +kernel
theorem dL_acts_1094 : decode cL_acts 1094 = .ok (.istore 12, 2) := by decide +kernel
theorem dL_acts_1096 : decode cL_acts 1096 = .ok (.aload_n 0, 1) := by decide +kernel
theorem dL_acts_1097 : decode cL_acts 1097 = .ok (.iconst 5, 1) := by decide +kernel
theorem dL_acts_1098 : decode cL_acts 1098 = .ok (.invokevirtual 13, 3) := by decide +kernel
theorem dL_acts_1101 : decode cL_acts 1101 = .ok (.istore 13, 2) := by decide +kernel
theorem dL_acts_1103 : decode cL_acts 1103 = .ok (.aload_n 0, 1) := by decide +kernel
theorem dL_acts_1104 : decode cL_acts 1104 = .ok (.iload 11, 2) := by decide +kernel
theorem dL_acts_1106 : decode cL_acts 1106 = .ok (.invokevirtual 95, 3) := by decide +kernel
theorem dL_acts_1109 : decode cL_acts 1109 = .ok (.istore 14, 2) := by decide +kernel
theorem dL_acts_1111 : decode cL_acts 1111 = .ok (.iload 11, 2) := by decide +kernel
theorem dL_acts_1113 : decode cL_acts 1113 = .ok (.ifCond .eq 10, 3) := by decide +kernel
theorem dL_acts_1116 : decode cL_acts 1116 = .ok (.iload 11, 2) := by decide +kernel
theorem dL_acts_1118 : decode cL_acts 1118 = .ok (.bipush 100, 2) := by decide +kernel
theorem dL_acts_1120 : decode cL_acts 1120 = .ok (.if_icmp .ne 18, 3) := by decide +kernel
theorem dL_acts_1123 : decode cL_acts 1123 = .ok (.iload 14, 2) := by decide +kernel
theorem dL_acts_1125 : decode cL_acts 1125 = .ok (.ldc 44, 2) := by decide +kernel
theorem dL_acts_1127 : decode cL_acts 1127 = .ok (.if_icmp .ne 7, 3) := by decide +kernel
theorem dL_acts_1130 : decode cL_acts 1130 = .ok (.iconst 1, 1) := by decide +kernel
theorem dL_acts_1131 : decode cL_acts 1131 = .ok (.goto 38, 3) := by decide +kernel
theorem dL_acts_1134 : decode cL_acts 1134 = .ok (.iconst 0, 1) := by decide +kernel
theorem dL_acts_1135 : decode cL_acts 1135 = .ok (.goto 34, 3) := by decide +kernel
theorem dL_acts_1138 : decode cL_acts 1138 = .ok (.aload_n 0, 1) := by decide +kernel
theorem dL_acts_1139 : decode cL_acts 1139 = .ok (.iconst 5, 1) := by decide +kernel
theorem dL_acts_1140 : decode cL_acts 1140 = .ok (.invokevirtual 13, 3) := by decide +kernel
theorem dL_acts_1143 : decode cL_acts 1143 = .ok (.iload 13, 2) := by decide +kernel
theorem dL_acts_1145 : decode cL_acts 1145 = .ok (.iload 14, 2) := by decide +kernel
theorem dL_acts_1147 : decode cL_acts 1147 = .ok (.iadd, 1) := by decide +kernel
theorem dL_acts_1148 : decode cL_acts 1148 = .ok (.if_icmp .ne 20, 3) := by decide +kernel
theorem dL_acts_1151 : decode cL_acts 1151 = .ok (.aload_n 0, 1) := by decide +kernel
theorem dL_acts_1152 : decode cL_acts 1152 = .ok (.iconst 3, 1) := by decide +kernel
theorem dL_acts_1153 : decode cL_acts 1153 = .ok (.invokevirtual 13, 3) := by decide +kernel
theorem dL_acts_1156 : decode cL_acts 1156 = .ok (.iload 12, 2) := by decide +kernel
theorem dL_acts_1158 : decode cL_acts 1158 = .ok (.iload 11, 2) := by decide +kernel
theorem dL_acts_1160 : decode cL_acts 1160 = .ok (.iadd, 1) := by decide +kernel
theorem dL_acts_1161 : decode cL_acts 1161 = .ok (.if_icmp .ne 7, 3) := by decide +kernel
theorem dL_acts_1164 : decode cL_acts 1164 = .ok (.iconst 1, 1) := by decide +kernel
theorem dL_acts_1165 : decode cL_acts 1165 = .ok (.goto 4, 3) := by decide +kernel
theorem dL_acts_1168 : decode cL_acts 1168 = .ok (.iconst 0, 1) := by decide +kernel
theorem dL_acts_1169 : decode cL_acts 1169 = .ok (.ireturn, 1) := by decide +kernel
theorem dL_acts_1170 : decode cL_acts 1170 = .ok (.iload_n 3, 1) := by decide +kernel
theorem dL_acts_1171 : decode cL_acts 1171 = .ok (.bipush 17, 2) := by decide +kernel
theorem dL_acts_1173 : decode cL_acts 1173 = .ok (.if_icmp .ne 109, 3) := by decide +kernel
theorem dL_acts_1176 : decode cL_acts 1176 = .ok (.iload_n 2, 1) := by decide +kernel
theorem dL_acts_1177 : decode cL_acts 1177 = .ok (.bipush 6, 2) := by decide +kernel
theorem dL_acts_1179 : decode cL_acts 1179 = .ok (.invokestatic 48, 3) := by decide +kernel
theorem dL_acts_1182 : decode cL_acts 1182 = .ok (.istore 11, 2) := by decide +kernel
theorem dL_acts_1184 : decode cL_acts 1184 = .ok (.iload_n 2, 1) := by decide +kernel
theorem dL_acts_1185 : decode cL_acts 1185 = .ok (.iconst 3, 1) := by decide +kernel
theorem dL_acts_1186 : decode cL_acts 1186 = .ok (.ishr, 1) := by decide +kernel
theorem dL_acts_1187 : decode cL_acts 1187 = .ok (.bipush 30, 2) := by decide +kernel
theorem dL_acts_1189 : decode cL_acts 1189 = .ok (.invokestatic 48, 3) := by decide +kernel
theorem dL_acts_1192 : decode cL_acts 1192 = .ok (.istore 12, 2) := by decide +kernel
theorem dL_acts_1194 : decode cL_acts 1194 = .ok (.iload 11, 2) := by decide +kernel
theorem dL_acts_1196 : decode cL_acts 1196 = .ok (.iconst 5, 1) := by decide +kernel
theorem dL_acts_1197 : decode cL_acts 1197 = .ok (.if_icmp .ne 7, 3) := by decide +kernel
theorem dL_acts_1200 : decode cL_acts 1200 = .ok (.iconst 0, 1) := by decide +kernel
theorem dL_acts_1201 : decode cL_acts 1201 = .ok (.goto 10, 3) := by decide +kernel
theorem dL_acts_1204 : decode cL_acts 1204 = .ok (.aload_n 0, 1) := by decide +kernel
theorem dL_acts_1205 : decode cL_acts 1205 = .ok (.iload 11, 2) := by decide +kernel
theorem dL_acts_1207 : decode cL_acts 1207 = .ok (.iconst 1, 1) := by decide +kernel
theorem dL_acts_1208 : decode cL_acts 1208 = .ok (.invokevirtual 26, 3) := by decide +kernel
theorem dL_acts_1211 : decode cL_acts 1211 = .ok (.istore 13, 2) := by decide +kernel
theorem dL_acts_1213 : decode cL_acts 1213 = .ok (.iload 11, 2) := by decide +kernel
theorem dL_acts_1215 : decode cL_acts 1215 = .ok (.iconst 5, 1) := by decide +kernel
theorem dL_acts_1216 : decode cL_acts 1216 = .ok (.if_icmp .ne 7, 3) := by decide +kernel
theorem dL_acts_1219 : decode cL_acts 1219 = .ok (.iconst 0, 1) := by decide +kernel
theorem dL_acts_1220 : decode cL_acts 1220 = .ok (.goto 10, 3) := by decide +kernel
theorem dL_acts_1223 : decode cL_acts 1223 = .ok (.aload_n 0, 1) := by decide +kernel
theorem dL_acts_1224 : decode cL_acts 1224 = .ok (.iload 11, 2) := by decide +kernel
theorem dL_acts_1226 : decode cL_acts 1226 = .ok (.iconst 2, 1) := by decide +kernel
theorem dL_acts_1227 : decode cL_acts 1227 = .ok (.invokevirtual 26, 3) := by decide +kernel
theorem dL_acts_1230 : decode cL_acts 1230 = .ok (.istore 14, 2) := by decide +kernel
theorem dL_acts_1232 : decode cL_acts 1232 = .ok (.aload_n 0, 1) := by decide +kernel
theorem dL_acts_1233 : decode cL_acts 1233 = .ok (.iload 11, 2) := by decide +kernel
theorem dL_acts_1235 : decode cL_acts 1235 = .ok (.iload 12, 2) := by decide +kernel
theorem dL_acts_1237 : decode cL_acts 1237 = .ok (.invokevirtual 98, 3) := by decide +kernel
theorem dL_acts_1240 : decode cL_acts 1240 = .ok (.iload 11, 2) := by decide +kernel
theorem dL_acts_1242 : decode cL_acts 1242 = .ok (.iconst 5, 1) := by decide +kernel
theorem dL_acts_1243 : decode cL_acts 1243 = .ok (.if_icmp .eq 8, 3) := by decide +kernel
theorem dL_acts_1246 : decode cL_acts 1246 = .ok (.iload 12, 2) := by decide +kernel
theorem dL_acts_1248 : decode cL_acts 1248 = .ok (.ifCond .ne 8, 3) := by decide +kernel
theorem dL_acts_1251 : decode cL_acts 1251 = .ok (.ldc 44, 2) := by decide +kernel
theorem dL_acts_1253 : decode cL_acts 1253 = .ok (.goto 20, 3) := by decide +kernel
theorem dL_acts_1256 : decode cL_acts 1256 = .ok (.iload 12, 2) := by decide +kernel
theorem dL_acts_1258 : decode cL_acts 1258 = .ok (.iload 14, 2) := by decide +kernel
theorem dL_acts_1260 : decode cL_acts 1260 = .ok (.if_icmp .le 8, 3) := by decide +kernel
theorem dL_acts_1263 : decode cL_acts 1263 = .ok (.ldc 65, 2) := by decide +kernel
theorem dL_acts_1265 : decode cL_acts 1265 = .ok (.goto 8, 3) := by decide +kernel
theorem dL_acts_1268 : decode cL_acts 1268 = .ok (.iload 13, 2) := by decide +kernel
theorem dL_acts_1270 : decode cL_acts 1270 = .ok (.iload 12, 2) := by decide +kernel
theorem dL_acts_1272 : decode cL_acts 1272 = .ok (.isub, 1) := by decide +kernel
theorem dL_acts_1273 : decode cL_acts 1273 = .ok (.if_icmp .ne 7, 3) := by decide +kernel
theorem dL_acts_1276 : decode cL_acts 1276 = .ok (.iconst 1, 1) := by decide +kernel
theorem dL_acts_1277 : decode cL_acts 1277 = .ok (.goto 4, 3) := by decide +kernel
theorem dL_acts_1280 : decode cL_acts 1280 = .ok (.iconst 0, 1) := by decide +kernel
theorem dL_acts_1281 : decode cL_acts 1281 = .ok (.ireturn, 1) := by decide +kernel
theorem dL_acts_1282 : decode cL_acts 1282 = .ok (.iload_n 3, 1) := by decide +kernel
theorem dL_acts_1283 : decode cL_acts 1283 = .ok (.bipush 18, 2) := by decide +kernel
theorem dL_acts_1285 : decode cL_acts 1285 = .ok (.if_icmp .ne 123, 3) := by decide +kernel
theorem dL_acts_1288 : decode cL_acts 1288 = .ok (.iload_n 2, 1) := by decide +kernel
theorem dL_acts_1289 : decode cL_acts 1289 = .ok (.bipush 6, 2) := by decide +kernel
theorem dL_acts_1291 : decode cL_acts 1291 = .ok (.invokestatic 48, 3) := by decide +kernel
theorem dL_acts_1294 : decode cL_acts 1294 = .ok (.istore 11, 2) := by decide +kernel
theorem dL_acts_1296 : decode cL_acts 1296 = .ok (.iload_n 2, 1) := by decide +kernel
theorem dL_acts_1297 : decode cL_acts 1297 = .ok (.iconst 3, 1) := by decide +kernel
theorem dL_acts_1298 : decode cL_acts 1298 = .ok (.ishr, 1) := by decide +kernel
theorem dL_acts_1299 : decode cL_acts 1299 = .ok (.iconst 4, 1) := by decide +kernel
theorem dL_acts_1300 : decode cL_acts 1300 = .ok (.invokestatic 48, 3) := by decide +kernel
theorem dL_acts_1303 : decode cL_acts 1303 = .ok (.istore 12, 2) := by decide +kernel
theorem dL_acts_1305 : decode cL_acts 1305 = .ok (.iload 11, 2) := by decide +kernel
theorem dL_acts_1307 : decode cL_acts 1307 = .ok (.iconst 5, 1) := by decide +kernel
theorem dL_acts_1308 : decode cL_acts 1308 = .ok (.if_icmp .ne 7, 3) := by decide +kernel
theorem dL_acts_1311 : decode cL_acts 1311 = .ok (.iconst 0, 1) := by decide +kernel
theorem dL_acts_1312 : decode cL_acts 1312 = .ok (.goto 10, 3) := by decide +kernel
theorem dL_acts_1315 : decode cL_acts 1315 = .ok (.aload_n 0, 1) := by decide +kernel
theorem dL_acts_1316 : decode cL_acts 1316 = .ok (.iload 11, 2) := by decide +kernel
theorem dL_acts_1318 : decode cL_acts 1318 = .ok (.iconst 0, 1) := by decide +kernel
theorem dL_acts_1319 : decode cL_acts 1319 = .ok (.invokevirtual 26, 3) := by decide +kernel
theorem dL_acts_1322 : decode cL_acts 1322 = .ok (.istore 13, 2) := by decide +kernel
theorem dL_acts_1324 : decode cL_acts 1324 = .ok (.aload_n 0, 1) := by decide +kernel
theorem dL_acts_1325 : decode cL_acts 1325 = .ok (.iload 11, 2) := by decide +kernel
theorem dL_acts_1327 : decode cL_acts 1327 = .ok (.iload 12, 2) := by decide +kernel
theorem dL_acts_1329 : decode cL_acts 1329 = .ok (.invokevirtual 101, 3) := by decide +kernel
theorem dL_acts_1332 : decode cL_acts 1332 = .ok (.istore 14, 2) := by decide +kernel
theorem dL_acts_1334 : decode cL_acts 1334 = .ok (.iload 11, 2) := by decide +kernel
theorem dL_acts_1336 : decode cL_acts 1336 = .ok (.iconst 5, 1) := by decide +kernel
theorem dL_acts_1337 : decode cL_acts 1337 = .ok (.if_icmp .eq 9, 3) := by decide +kernel
theorem dL_acts_1340 : decode cL_acts 1340 = .ok (.iload 12, 2) := by decide +kernel
theorem dL_acts_1342 : decode cL_acts 1342 = .ok (.iconst 3, 1) := by decide +kernel
theorem dL_acts_1343 : decode cL_acts 1343 = .ok (.if_icmp .ne 18, 3) := by decide +kernel
theorem dL_acts_1346 : decode cL_acts 1346 = .ok (.iload 14, 2) := by decide +kernel
theorem dL_acts_1348 : decode cL_acts 1348 = .ok (.ldc 44, 2) := by decide +kernel
theorem dL_acts_1350 : decode cL_acts 1350 = .ok (.if_icmp .ne 7, 3) := by decide +kernel
theorem dL_acts_1353 : decode cL_acts 1353 = .ok (.iconst 1, 1) := by decide +kernel
theorem dL_acts_1354 : decode cL_acts 1354 = .ok (.goto 53, 3) := by decide +kernel
theorem dL_acts_1357 : decode cL_acts 1357 = .ok (.iconst 0, 1) := by decide +kernel
theorem dL_acts_1358 : decode cL_acts 1358 = .ok (.goto 49, 3) := by decide +kernel
theorem dL_acts_1361 : decode cL_acts 1361 = .ok (.iload 14, 2) := by decide +kernel
theorem dL_acts_1363 : decode cL_acts 1363 = .ok (.ldc 65, 2) := by decide +kernel
theorem dL_acts_1365 : decode cL_acts 1365 = .ok (.if_icmp .ne 18, 3) := by decide +kernel
theorem dL_acts_1368 : decode cL_acts 1368 = .ok (.iload 12, 2) := by decide +kernel
theorem dL_acts_1370 : decode cL_acts 1370 = .ok (.iload 13, 2) := by decide +kernel
theorem dL_acts_1372 : decode cL_acts 1372 = .ok (.if_icmp .eq 7, 3) := by decide +kernel
theorem dL_acts_1375 : decode cL_acts 1375 = .ok (.iconst 1, 1) := by decide +kernel
theorem dL_acts_1376 : decode cL_acts 1376 = .ok (.goto 31, 3) := by decide +kernel
theorem dL_acts_1379 : decode cL_acts 1379 = .ok (.iconst 0, 1) := by decide +kernel
theorem dL_acts_1380 : decode cL_acts 1380 = .ok (.goto 27, 3) := by decide +kernel
theorem dL_acts_1383 : decode cL_acts 1383 = .ok (.iload 14, 2) := by decide +kernel
theorem dL_acts_1385 : decode cL_acts 1385 = .ok (.iload 13, 2) := by decide +kernel
theorem dL_acts_1387 : decode cL_acts 1387 = .ok (.if_icmp .ne 19, 3) := by decide +kernel
theorem dL_acts_1390 : decode cL_acts 1390 = .ok (.aload_n 0, 1) := by decide +kernel
theorem dL_acts_1391 : decode cL_acts 1391 = .ok (.iload 11, 2) := by decide +kernel
theorem dL_acts_1393 : decode cL_acts 1393 = .ok (.iconst 0, 1) := by decide +kernel
theorem dL_acts_1394 : decode cL_acts 1394 = .ok (.invokevirtual 26, 3) := by decide +kernel
theorem dL_acts_1397 : decode cL_acts 1397 = .ok (.iload 12, 2) := by decide +kernel
theorem dL_acts_1399 : decode cL_acts 1399 = .ok (.if_icmp .ne 7, 3) := by decide +kernel
theorem dL_acts_1402 : decode cL_acts 1402 = .ok (.iconst 1, 1) := by decide +kernel
theorem dL_acts_1403 : decode cL_acts 1403 = .ok (.goto 4, 3) := by decide +kernel
theorem dL_acts_1406 : decode cL_acts 1406 = .ok (.iconst 0, 1) := by decide +kernel
theorem dL_acts_1407 : decode cL_acts 1407 = .ok (.ireturn, 1) := by decide +kernel
theorem dL_acts_1408 : decode cL_acts 1408 = .ok (.iload_n 3, 1) := by decide +kernel
theorem dL_acts_1409 : decode cL_acts 1409 = .ok (.bipush 19, 2) := by decide +kernel
theorem dL_acts_1411 : decode cL_acts 1411 = .ok (.if_icmp .ne 120, 3) := by decide +kernel
theorem dL_acts_1414 : decode cL_acts 1414 = .ok (.iload_n 2, 1) := by decide +kernel
theorem dL_acts_1415 : decode cL_acts 1415 = .ok (.iconst 5, 1) := by decide +kernel
theorem dL_acts_1416 : decode cL_acts 1416 = .ok (.invokestatic 48, 3) := by decide +kernel
theorem dL_acts_1419 : decode cL_acts 1419 = .ok (.istore 11, 2) := by decide +kernel
theorem dL_acts_1421 : decode cL_acts 1421 = .ok (.iload_n 2, 1) := by decide +kernel
theorem dL_acts_1422 : decode cL_acts 1422 = .ok (.iconst 3, 1) := by decide +kernel
theorem dL_acts_1423 : decode cL_acts 1423 = .ok (.ishr, 1) := by decide +kernel
theorem dL_acts_1424 : decode cL_acts 1424 = .ok (.bipush 30, 2) := by decide +kernel
theorem dL_acts_1426 : decode cL_acts 1426 = .ok (.invokestatic 48, 3) := by decide +kernel
theorem dL_acts_1429 : decode cL_acts 1429 = .ok (.istore 12, 2) := by decide +kernel
theorem dL_acts_1431 : decode cL_acts 1431 = .ok (.iload 11, 2) := by decide +kernel
theorem dL_acts_1433 : decode cL_acts 1433 = .ok (.iconst 4, 1) := by decide +kernel
theorem dL_acts_1434 : decode cL_acts 1434 = .ok (.if_icmp .ne 7, 3) := by decide +kernel
theorem dL_acts_1437 : decode cL_acts 1437 = .ok (.iconst 0, 1) := by decide +kernel
theorem dL_acts_1438 : decode cL_acts 1438 = .ok (.goto 12, 3) := by decide +kernel
theorem dL_acts_1441 : decode cL_acts 1441 = .ok (.aload_n 0, 1) := by decide +kernel
theorem dL_acts_1442 : decode cL_acts 1442 = .ok (.bipush 20, 2) := by decide +kernel
theorem dL_acts_1444 : decode cL_acts 1444 = .ok (.iload 11, 2) := by decide +kernel
theorem dL_acts_1446 : decode cL_acts 1446 = .ok (.iadd, 1) := by decide +kernel
theorem dL_acts_1447 : decode cL_acts 1447 = .ok (.invokevirtual 13, 3) := by decide +kernel
theorem dL_acts_1450 : decode cL_acts 1450 = .ok (.istore 13, 2) := by decide +kernel
theorem dL_acts_1452 : decode cL_acts 1452 = .ok (.iload 11, 2) := by decide +kernel
theorem dL_acts_1454 : decode cL_acts 1454 = .ok (.iconst 4, 1) := by decide +kernel
theorem dL_acts_1455 : decode cL_acts 1455 = .ok (.if_icmp .eq 40, 3) := by decide +kernel
theorem dL_acts_1458 : decode cL_acts 1458 = .ok (.iload 11, 2) := by decide +kernel
theorem dL_acts_1460 : decode cL_acts 1460 = .ok (.iconst 2, 1) := by decide +kernel
theorem dL_acts_1461 : decode cL_acts 1461 = .ok (.if_icmp .ge 10, 3) := by decide +kernel
theorem dL_acts_1464 : decode cL_acts 1464 = .ok (.iload 12, 2) := by decide +kernel
theorem dL_acts_1466 : decode cL_acts 1466 = .ok (.bipush 10, 2) := by decide +kernel
theorem dL_acts_1468 : decode cL_acts 1468 = .ok (.if_icmp .lt 27, 3) := by decide +kernel
theorem dL_acts_1471 : decode cL_acts 1471 = .ok (.iload 11, 2) := by decide +kernel
theorem dL_acts_1473 : decode cL_acts 1473 = .ok (.iconst 2, 1) := by decide +kernel
theorem dL_acts_1474 : decode cL_acts 1474 = .ok (.if_icmp .ne 8, 3) := by decide +kernel
theorem dL_acts_1477 : decode cL_acts 1477 = .ok (.iload 12, 2) := by decide +kernel
theorem dL_acts_1479 : decode cL_acts 1479 = .ok (.ifCond .eq 16, 3) := by decide +kernel
theorem dL_acts_1482 : decode cL_acts 1482 = .ok (.iload 11, 2) := by decide +kernel
theorem dL_acts_1484 : decode cL_acts 1484 = .ok (.iconst 3, 1) := by decide +kernel
theorem dL_acts_1485 : decode cL_acts 1485 = .ok (.if_icmp .ne 14, 3) := by decide +kernel
theorem dL_acts_1488 : decode cL_acts 1488 = .ok (.iload 12, 2) := by decide +kernel
theorem dL_acts_1490 : decode cL_acts 1490 = .ok (.bipush 20, 2) := by decide +kernel
theorem dL_acts_1492 : decode cL_acts 1492 = .ok (.if_icmp .le 7, 3) := by decide +kernel
theorem dL_acts_1495 : decode cL_acts 1495 = .ok (.iconst 1, 1) := by decide +kernel
theorem dL_acts_1496 : decode cL_acts 1496 = .ok (.goto 4, 3) := by decide +kernel
theorem dL_acts_1499 : decode cL_acts 1499 = .ok (.iconst 0, 1) := by decide +kernel
theorem dL_acts_1500 : decode cL_acts 1500 = .ok (.istore 14, 2) := by decide +kernel
theorem dL_acts_1502 : decode cL_acts 1502 = .ok (.aload_n 0, 1) := by decide +kernel
theorem dL_acts_1503 : decode cL_acts 1503 = .ok (.iload 11, 2) := by decide +kernel
theorem dL_acts_1505 : decode cL_acts 1505 = .ok (.iload 12, 2) := by decide +kernel
theorem dL_acts_1507 : decode cL_acts 1507 = .ok (.invokevirtual 104, 3) := by decide +kernel
theorem dL_acts_1510 : decode cL_acts 1510 = .ok (.iload 14, 2) := by decide +kernel
theorem dL_acts_1512 : decode cL_acts 1512 = .ok (.ifCond .eq 8, 3) := by decide +kernel
theorem dL_acts_1515 : decode cL_acts 1515 = .ok (.ldc 44, 2) := by decide +kernel
theorem dL_acts_1517 : decode cL_acts 1517 = .ok (.goto 5, 3) := by decide +kernel
theorem dL_acts_1520 : decode cL_acts 1520 = .ok (.iload 13, 2) := by decide +kernel
theorem dL_acts_1522 : decode cL_acts 1522 = .ok (.if_icmp .ne 7, 3) := by decide +kernel
theorem dL_acts_1525 : decode cL_acts 1525 = .ok (.iconst 1, 1) := by decide +kernel
theorem dL_acts_1526 : decode cL_acts 1526 = .ok (.goto 4, 3) := by decide +kernel
theorem dL_acts_1529 : decode cL_acts 1529 = .ok (.iconst 0, 1) := by decide +kernel
theorem dL_acts_1530 : decode cL_acts 1530 = .ok (.ireturn, 1) := by decide +kernel
theorem dL_acts_1531 : decode cL_acts 1531 = .ok (.aload_n 0, 1) := by decide +kernel
theorem dL_acts_1532 : decode cL_acts 1532 = .ok (.iload_n 2, 1) := by decide +kernel
theorem dL_acts_1533 : decode cL_acts 1533 = .ok (.invokestatic 107, 3) := by decide +kernel
theorem dL_acts_1536 : decode cL_acts 1536 = .ok (.ifCond .eq 14, 3) := by decide +kernel
theorem dL_acts_1539 : decode cL_acts 1539 = .ok (.aload_n 0, 1) := by decide +kernel
theorem dL_acts_1540 : decode cL_acts 1540 = .ok (.invokestatic 110, 3) := by decide +kernel
theorem dL_acts_1543 : decode cL_acts 1543 = .ok (.ifCond .eq 7, 3) := by decide +kernel
theorem dL_acts_1546 : decode cL_acts 1546 = .ok (.iconst 1, 1) := by decide +kernel
theorem dL_acts_1547 : decode cL_acts 1547 = .ok (.goto 4, 3) := by decide +kernel
theorem dL_acts_1550 : decode cL_acts 1550 = .ok (.iconst 0, 1) := by decide +kernel
theorem dL_acts_1551 : decode cL_acts 1551 = .ok (.ireturn, 1) := by decide +kernel
theorem dL_law_0 : decode cL_law 0 = .ok (.new 14, 3) := by decide +kernel
theorem dL_law_3 : decode cL_law 3 = .ok (.dup, 1) := by decide +kernel
theorem dL_law_4 : decode cL_law 4 = .ok (.invokespecial 114, 3) := by decide +kernel
theorem dL_law_7 : decode cL_law 7 = .ok (.astore_n 1, 1) := by decide +kernel
theorem dL_law_8 : decode cL_law 8 = .ok (.aload_n 1, 1) := by decide +kernel
theorem dL_law_9 : decode cL_law 9 = .ok (.invokestatic 115, 3) := by decide +kernel
theorem dL_law_12 : decode cL_law 12 = .ok (.ifCond .eq 16, 3) := by decide +kernel
theorem dL_law_15 : decode cL_law 15 = .ok (.aload_n 1, 1) := by decide +kernel
theorem dL_law_16 : decode cL_law 16 = .ok (.invokevirtual 118, 3) := by decide +kernel
theorem dL_law_19 : decode cL_law 19 = .ok (.ldc 65, 2) := by decide +kernel
theorem dL_law_21 : decode cL_law 21 = .ok (.if_icmp .ne 7, 3) := by decide +kernel
theorem dL_law_24 : decode cL_law 24 = .ok (.iconst 1, 1) := by decide +kernel
theorem dL_law_25 : decode cL_law 25 = .ok (.goto 4, 3) := by decide +kernel
theorem dL_law_28 : decode cL_law 28 = .ok (.iconst 0, 1) := by decide +kernel
theorem dL_law_29 : decode cL_law 29 = .ok (.istore_n 2, 1) := by decide +kernel
theorem dL_law_30 : decode cL_law 30 = .ok (.iconst 0, 1) := by decide +kernel
theorem dL_law_31 : decode cL_law 31 = .ok (.istore_n 3, 1) := by decide +kernel
theorem dL_law_32 : decode cL_law 32 = .ok (.iload_n 3, 1) := by decide +kernel
theorem dL_law_33 : decode cL_law 33 = .ok (.bipush 36, 2) := by decide +kernel
theorem dL_law_35 : decode cL_law 35 = .ok (.if_icmp .ge 227, 3) := by decide +kernel
theorem dL_law_38 : decode cL_law 38 = .ok (.iload_n 2, 1) := by decide +kernel
theorem dL_law_39 : decode cL_law 39 = .ok (.ifCond .eq 223, 3) := by decide +kernel
theorem dL_law_42 : decode cL_law 42 = .ok (.aload_n 0, 1) := by decide +kernel
theorem dL_law_43 : decode cL_law 43 = .ok (.iconst 2, 1) := by decide +kernel
theorem dL_law_44 : decode cL_law 44 = .ok (.iload_n 3, 1) := by decide +kernel
theorem dL_law_45 : decode cL_law 45 = .ok (.imul, 1) := by decide +kernel
theorem dL_law_46 : decode cL_law 46 = .ok (.invokestatic 121, 3) := by decide +kernel
theorem dL_law_49 : decode cL_law 49 = .ok (.istore 4, 2) := by decide +kernel
theorem dL_law_51 : decode cL_law 51 = .ok (.aload_n 0, 1) := by decide +kernel
theorem dL_law_52 : decode cL_law 52 = .ok (.iconst 2, 1) := by decide +kernel
theorem dL_law_53 : decode cL_law 53 = .ok (.iload_n 3, 1) := by decide +kernel
theorem dL_law_54 : decode cL_law 54 = .ok (.imul, 1) := by decide +kernel
theorem dL_law_55 : decode cL_law 55 = .ok (.iconst 1, 1) := by decide +kernel
theorem dL_law_56 : decode cL_law 56 = .ok (.iadd, 1) := by decide +kernel
theorem dL_law_57 : decode cL_law 57 = .ok (.invokestatic 121, 3) := by decide +kernel
theorem dL_law_60 : decode cL_law 60 = .ok (.istore 5, 2) := by decide +kernel
theorem dL_law_62 : decode cL_law 62 = .ok (.aload_n 1, 1) := by decide +kernel
theorem dL_law_63 : decode cL_law 63 = .ok (.invokestatic 125, 3) := by decide +kernel
theorem dL_law_66 : decode cL_law 66 = .ok (.lstore 6, 2) := by decide +kernel
theorem dL_law_68 : decode cL_law 68 = .ok (.aload_n 1, 1) := by decide +kernel
theorem dL_law_69 : decode cL_law 69 = .ok (.bipush 8, 2) := by decide +kernel
theorem dL_law_71 : decode cL_law 71 = .ok (.invokevirtual 13, 3) := by decide +kernel
theorem dL_law_74 : decode cL_law 74 = .ok (.istore 8, 2) := by decide +kernel
theorem dL_law_76 : decode cL_law 76 = .ok (.aload_n 1, 1) := by decide +kernel
theorem dL_law_77 : decode cL_law 77 = .ok (.iload_n 3, 1) := by decide +kernel
theorem dL_law_78 : decode cL_law 78 = .ok (.iconst 4, 1) := by decide +kernel
theorem dL_law_79 : decode cL_law 79 = .ok (.if_icmp .ge 7, 3) := by decide +kernel
theorem dL_law_82 : decode cL_law 82 = .ok (.iconst 0, 1) := by decide +kernel
theorem dL_law_83 : decode cL_law 83 = .ok (.goto 5, 3) := by decide +kernel
theorem dL_law_86 : decode cL_law 86 = .ok (.iload 4, 2) := by decide +kernel
theorem dL_law_88 : decode cL_law 88 = .ok (.iload 5, 2) := by decide +kernel
theorem dL_law_90 : decode cL_law 90 = .ok (.invokestatic 129, 3) := by decide +kernel
theorem dL_law_93 : decode cL_law 93 = .ok (.ifCond .eq 14, 3) := by decide +kernel
theorem dL_law_96 : decode cL_law 96 = .ok (.aload_n 1, 1) := by decide +kernel
theorem dL_law_97 : decode cL_law 97 = .ok (.invokestatic 115, 3) := by decide +kernel
theorem dL_law_100 : decode cL_law 100 = .ok (.ifCond .eq 7, 3) := by decide +kernel
theorem dL_law_103 : decode cL_law 103 = .ok (.iconst 1, 1) := by decide +kernel
theorem dL_law_104 : decode cL_law 104 = .ok (.goto 4, 3) := by decide +kernel
theorem dL_law_107 : decode cL_law 107 = .ok (.iconst 0, 1) := by decide +kernel
theorem dL_law_108 : decode cL_law 108 = .ok (.istore_n 2, 1) := by decide +kernel
theorem dL_law_109 : decode cL_law 109 = .ok (.aload_n 1, 1) := by decide +kernel
theorem dL_law_110 : decode cL_law 110 = .ok (.bipush 8, 2) := by decide +kernel
theorem dL_law_112 : decode cL_law 112 = .ok (.invokevirtual 13, 3) := by decide +kernel
theorem dL_law_115 : decode cL_law 115 = .ok (.istore 9, 2) := by decide +kernel
theorem dL_law_117 : decode cL_law 117 = .ok (.iload_n 2, 1) := by decide +kernel
theorem dL_law_118 : decode cL_law 118 = .ok (.ifCond .eq 39, 3) := by decide +kernel
theorem dL_law_121 : decode cL_law 121 = .ok (.iload 9, 2) := by decide +kernel
theorem dL_law_123 : decode cL_law 123 = .ok (.iload 8, 2) := by decide +kernel
theorem dL_law_125 : decode cL_law 125 = .ok (.if_icmp .ne 19, 3) := by decide +kernel
theorem dL_law_128 : decode cL_law 128 = .ok (.iload 8, 2) := by decide +kernel
theorem dL_law_130 : decode cL_law 130 = .ok (.iconst 4, 1) := by decide +kernel
theorem dL_law_131 : decode cL_law 131 = .ok (.if_icmp .eq 22, 3) := by decide +kernel
theorem dL_law_134 : decode cL_law 134 = .ok (.aload_n 1, 1) := by decide +kernel
theorem dL_law_135 : decode cL_law 135 = .ok (.invokestatic 125, 3) := by decide +kernel
theorem dL_law_138 : decode cL_law 138 = .ok (.lload 6, 2) := by decide +kernel
theorem dL_law_140 : decode cL_law 140 = .ok (.lcmp, 1) := by decide +kernel
theorem dL_law_141 : decode cL_law 141 = .ok (.ifCond .eq 12, 3) := by decide +kernel
theorem dL_law_144 : decode cL_law 144 = .ok (.iload 9, 2) := by decide +kernel
theorem dL_law_146 : decode cL_law 146 = .ok (.iload 8, 2) := by decide +kernel
theorem dL_law_148 : decode cL_law 148 = .ok (.iconst 1, 1) := by decide +kernel
theorem dL_law_149 : decode cL_law 149 = .ok (.iadd, 1) := by decide +kernel
theorem dL_law_150 : decode cL_law 150 = .ok (.if_icmp .ne 7, 3) := by decide +kernel
theorem dL_law_153 : decode cL_law 153 = .ok (.iconst 1, 1) := by decide +kernel
theorem dL_law_154 : decode cL_law 154 = .ok (.goto 4, 3) := by decide +kernel
theorem dL_law_157 : decode cL_law 157 = .ok (.iconst 0, 1) := by decide +kernel
theorem dL_law_158 : decode cL_law 158 = .ok (.istore_n 2, 1) := by decide +kernel
theorem dL_law_159 : decode cL_law 159 = .ok (.iload_n 2, 1) := by decide +kernel
theorem dL_law_160 : decode cL_law 160 = .ok (.ifCond .eq 49, 3) := by decide +kernel
theorem dL_law_163 : decode cL_law 163 = .ok (.iload 9, 2) := by decide +kernel
theorem dL_law_165 : decode cL_law 165 = .ok (.iload 8, 2) := by decide +kernel
theorem dL_law_167 : decode cL_law 167 = .ok (.iconst 1, 1) := by decide +kernel
theorem dL_law_168 : decode cL_law 168 = .ok (.iadd, 1) := by decide +kernel
theorem dL_law_169 : decode cL_law 169 = .ok (.if_icmp .ne 40, 3) := by decide +kernel
theorem dL_law_172 : decode cL_law 172 = .ok (.iload 5, 2) := by decide +kernel
theorem dL_law_174 : decode cL_law 174 = .ok (.bipush 8, 2) := by decide +kernel
theorem dL_law_176 : decode cL_law 176 = .ok (.ishr, 1) := by decide +kernel
theorem dL_law_177 : decode cL_law 177 = .ok (.iconst 3, 1) := by decide +kernel
theorem dL_law_178 : decode cL_law 178 = .ok (.invokestatic 48, 3) := by decide +kernel
theorem dL_law_181 : decode cL_law 181 = .ok (.ifCond .ne 28, 3) := by decide +kernel
theorem dL_law_184 : decode cL_law 184 = .ok (.aload_n 1, 1) := by decide +kernel
theorem dL_law_185 : decode cL_law 185 = .ok (.invokevirtual 118, 3) := by decide +kernel
theorem dL_law_188 : decode cL_law 188 = .ok (.iload 8, 2) := by decide +kernel
theorem dL_law_190 : decode cL_law 190 = .ok (.if_icmp .ne 17, 3) := by decide +kernel
theorem dL_law_193 : decode cL_law 193 = .ok (.aload_n 1, 1) := by decide +kernel
theorem dL_law_194 : decode cL_law 194 = .ok (.invokestatic 125, 3) := by decide +kernel
theorem dL_law_197 : decode cL_law 197 = .ok (.lload 6, 2) := by decide +kernel
theorem dL_law_199 : decode cL_law 199 = .ok (.lcmp, 1) := by decide +kernel
theorem dL_law_200 : decode cL_law 200 = .ok (.ifCond .ne 7, 3) := by decide +kernel
theorem dL_law_203 : decode cL_law 203 = .ok (.iconst 1, 1) := by decide +kernel
theorem dL_law_204 : decode cL_law 204 = .ok (.goto 4, 3) := by decide +kernel
theorem dL_law_207 : decode cL_law 207 = .ok (.iconst 0, 1) := by decide +kernel
theorem dL_law_208 : decode cL_law 208 = .ok (.istore_n 2, 1) := by decide +kernel
theorem dL_law_209 : decode cL_law 209 = .ok (.iload_n 2, 1) := by decide +kernel
theorem dL_law_210 : decode cL_law 210 = .ok (.ifCond .eq 46, 3) := by decide +kernel
theorem dL_law_213 : decode cL_law 213 = .ok (.iload_n 3, 1) := by decide +kernel
theorem dL_law_214 : decode cL_law 214 = .ok (.bipush 6, 2) := by decide +kernel
theorem dL_law_216 : decode cL_law 216 = .ok (.irem, 1) := by decide +kernel
theorem dL_law_217 : decode cL_law 217 = .ok (.iconst 5, 1) := by decide +kernel
theorem dL_law_218 : decode cL_law 218 = .ok (.if_icmp .ne 38, 3) := by decide +kernel
theorem dL_law_221 : decode cL_law 221 = .ok (.aload_n 1, 1) := by decide +kernel
theorem dL_law_222 : decode cL_law 222 = .ok (.bipush 8, 2) := by decide +kernel
theorem dL_law_224 : decode cL_law 224 = .ok (.invokevirtual 13, 3) := by decide +kernel
theorem dL_law_227 : decode cL_law 227 = .ok (.istore 10, 2) := by decide +kernel
theorem dL_law_229 : decode cL_law 229 = .ok (.aload_n 1, 1) := by decide +kernel
theorem dL_law_230 : decode cL_law 230 = .ok (.invokevirtual 118, 3) := by decide +kernel
theorem dL_law_233 : decode cL_law 233 = .ok (.iload 10, 2) := by decide +kernel
theorem dL_law_235 : decode cL_law 235 = .ok (.ifCond .ne 8, 3) := by decide +kernel
theorem dL_law_238 : decode cL_law 238 = .ok (.ldc 65, 2) := by decide +kernel
theorem dL_law_240 : decode cL_law 240 = .ok (.goto 7, 3) := by decide +kernel
theorem dL_law_243 : decode cL_law 243 = .ok (.iload 10, 2) := by decide +kernel
theorem dL_law_245 : decode cL_law 245 = .ok (.iconst 1, 1) := by decide +kernel
theorem dL_law_246 : decode cL_law 246 = .ok (.isub, 1) := by decide +kernel
theorem dL_law_247 : decode cL_law 247 = .ok (.if_icmp .ne 7, 3) := by decide +kernel
theorem dL_law_250 : decode cL_law 250 = .ok (.iconst 1, 1) := by decide +kernel
theorem dL_law_251 : decode cL_law 251 = .ok (.goto 4, 3) := by decide +kernel
theorem dL_law_254 : decode cL_law 254 = .ok (.iconst 0, 1) := by decide +kernel
theorem dL_law_255 : decode cL_law 255 = .ok (.istore_n 2, 1) := by decide +kernel
theorem dL_law_256 : decode cL_law 256 = .ok (.iinc 3 1, 3) := by decide +kernel
theorem dL_law_259 : decode cL_law 259 = .ok (.goto (-227), 3) := by decide +kernel
theorem dL_law_262 : decode cL_law 262 = .ok (.iload_n 2, 1) := by decide +kernel
theorem dL_law_263 : decode cL_law 263 = .ok (.ireturn, 1) := by decide +kernel
