/-! decode rows -/
theorem d_V_nextKept_0 : decode c_V_nextKept 0 = .ok (.iload_n 2, 1) := by decide +kernel
theorem d_V_nextKept_1 : decode c_V_nextKept 1 = .ok (.istore_n 3, 1) := by decide +kernel
theorem d_V_nextKept_2 : decode c_V_nextKept 2 = .ok (.iload_n 3, 1) := by decide +kernel
theorem d_V_nextKept_3 : decode c_V_nextKept 3 = .ok (.aload_n 0, 1) := by decide +kernel
theorem d_V_nextKept_4 : decode c_V_nextKept 4 = .ok (.getfield 18, 3) := by decide +kernel
theorem d_V_nextKept_7 : decode c_V_nextKept 7 = .ok (.getfield 142, 3) := by decide +kernel
theorem d_V_nextKept_10 : decode c_V_nextKept 10 = .ok (.if_icmp .ge (22), 3) := by decide +kernel
theorem d_V_nextKept_13 : decode c_V_nextKept 13 = .ok (.aload_n 0, 1) := by decide +kernel
theorem d_V_nextKept_14 : decode c_V_nextKept 14 = .ok (.getfield 32, 3) := by decide +kernel
theorem d_V_nextKept_17 : decode c_V_nextKept 17 = .ok (.iload_n 1, 1) := by decide +kernel
theorem d_V_nextKept_18 : decode c_V_nextKept 18 = .ok (.iload_n 3, 1) := by decide +kernel
theorem d_V_nextKept_19 : decode c_V_nextKept 19 = .ok (.invokevirtual 145, 3) := by decide +kernel
theorem d_V_nextKept_22 : decode c_V_nextKept 22 = .ok (.iconst (-1), 1) := by decide +kernel
theorem d_V_nextKept_23 : decode c_V_nextKept 23 = .ok (.if_icmp .ne (9), 3) := by decide +kernel
theorem d_V_nextKept_26 : decode c_V_nextKept 26 = .ok (.iinc 3 (1), 3) := by decide +kernel
theorem d_V_nextKept_29 : decode c_V_nextKept 29 = .ok (.goto (-27), 3) := by decide +kernel
theorem d_V_nextKept_32 : decode c_V_nextKept 32 = .ok (.iload_n 3, 1) := by decide +kernel
theorem d_V_nextKept_33 : decode c_V_nextKept 33 = .ok (.ireturn, 1) := by decide +kernel
theorem d_V_giveEquation_0 : decode c_V_giveEquation 0 = .ok (.iload_n 3, 1) := by decide +kernel
theorem d_V_giveEquation_1 : decode c_V_giveEquation 1 = .ok (.aload_n 0, 1) := by decide +kernel
theorem d_V_giveEquation_2 : decode c_V_giveEquation 2 = .ok (.getfield 18, 3) := by decide +kernel
theorem d_V_giveEquation_5 : decode c_V_giveEquation 5 = .ok (.getfield 142, 3) := by decide +kernel
theorem d_V_giveEquation_8 : decode c_V_giveEquation 8 = .ok (.if_icmp .ge (15), 3) := by decide +kernel
theorem d_V_giveEquation_11 : decode c_V_giveEquation 11 = .ok (.aload_n 0, 1) := by decide +kernel
theorem d_V_giveEquation_12 : decode c_V_giveEquation 12 = .ok (.getfield 32, 3) := by decide +kernel
theorem d_V_giveEquation_15 : decode c_V_giveEquation 15 = .ok (.iload_n 1, 1) := by decide +kernel
theorem d_V_giveEquation_16 : decode c_V_giveEquation 16 = .ok (.iload_n 3, 1) := by decide +kernel
theorem d_V_giveEquation_17 : decode c_V_giveEquation 17 = .ok (.invokevirtual 145, 3) := by decide +kernel
theorem d_V_giveEquation_20 : decode c_V_giveEquation 20 = .ok (.goto (4), 3) := by decide +kernel
theorem d_V_giveEquation_23 : decode c_V_giveEquation 23 = .ok (.iconst (-1), 1) := by decide +kernel
theorem d_V_giveEquation_24 : decode c_V_giveEquation 24 = .ok (.istore 4, 2) := by decide +kernel
theorem d_V_giveEquation_26 : decode c_V_giveEquation 26 = .ok (.iload 4, 2) := by decide +kernel
theorem d_V_giveEquation_28 : decode c_V_giveEquation 28 = .ok (.iconst (-1), 1) := by decide +kernel
theorem d_V_giveEquation_29 : decode c_V_giveEquation 29 = .ok (.if_icmp .ne (4), 3) := by decide +kernel
theorem d_V_giveEquation_32 : decode c_V_giveEquation 32 = .ok (.return_, 1) := by decide +kernel
theorem d_V_giveEquation_33 : decode c_V_giveEquation 33 = .ok (.aload_n 0, 1) := by decide +kernel
theorem d_V_giveEquation_34 : decode c_V_giveEquation 34 = .ok (.getfield 18, 3) := by decide +kernel
theorem d_V_giveEquation_37 : decode c_V_giveEquation 37 = .ok (.iload_n 2, 1) := by decide +kernel
theorem d_V_giveEquation_38 : decode c_V_giveEquation 38 = .ok (.iload_n 3, 1) := by decide +kernel
theorem d_V_giveEquation_39 : decode c_V_giveEquation 39 = .ok (.invokevirtual 226, 3) := by decide +kernel
theorem d_V_giveEquation_42 : decode c_V_giveEquation 42 = .ok (.iconst (0), 1) := by decide +kernel
theorem d_V_giveEquation_43 : decode c_V_giveEquation 43 = .ok (.istore 5, 2) := by decide +kernel
theorem d_V_giveEquation_45 : decode c_V_giveEquation 45 = .ok (.iload 5, 2) := by decide +kernel
theorem d_V_giveEquation_47 : decode c_V_giveEquation 47 = .ok (.iconst (4), 1) := by decide +kernel
theorem d_V_giveEquation_48 : decode c_V_giveEquation 48 = .ok (.if_icmp .ge (34), 3) := by decide +kernel
theorem d_V_giveEquation_51 : decode c_V_giveEquation 51 = .ok (.aload_n 0, 1) := by decide +kernel
theorem d_V_giveEquation_52 : decode c_V_giveEquation 52 = .ok (.getfield 18, 3) := by decide +kernel
theorem d_V_giveEquation_55 : decode c_V_giveEquation 55 = .ok (.getfield 187, 3) := by decide +kernel
theorem d_V_giveEquation_58 : decode c_V_giveEquation 58 = .ok (.iload_n 2, 1) := by decide +kernel
theorem d_V_giveEquation_59 : decode c_V_giveEquation 59 = .ok (.iconst (4), 1) := by decide +kernel
theorem d_V_giveEquation_60 : decode c_V_giveEquation 60 = .ok (.imul, 1) := by decide +kernel
theorem d_V_giveEquation_61 : decode c_V_giveEquation 61 = .ok (.iload 5, 2) := by decide +kernel
theorem d_V_giveEquation_63 : decode c_V_giveEquation 63 = .ok (.iadd, 1) := by decide +kernel
theorem d_V_giveEquation_64 : decode c_V_giveEquation 64 = .ok (.aload_n 0, 1) := by decide +kernel
theorem d_V_giveEquation_65 : decode c_V_giveEquation 65 = .ok (.getfield 25, 3) := by decide +kernel
theorem d_V_giveEquation_68 : decode c_V_giveEquation 68 = .ok (.iload 4, 2) := by decide +kernel
theorem d_V_giveEquation_70 : decode c_V_giveEquation 70 = .ok (.iload 5, 2) := by decide +kernel
theorem d_V_giveEquation_72 : decode c_V_giveEquation 72 = .ok (.invokevirtual 136, 3) := by decide +kernel
theorem d_V_giveEquation_75 : decode c_V_giveEquation 75 = .ok (.iastore, 1) := by decide +kernel
theorem d_V_giveEquation_76 : decode c_V_giveEquation 76 = .ok (.iinc 5 (1), 3) := by decide +kernel
theorem d_V_giveEquation_79 : decode c_V_giveEquation 79 = .ok (.goto (-34), 3) := by decide +kernel
theorem d_V_giveEquation_82 : decode c_V_giveEquation 82 = .ok (.return_, 1) := by decide +kernel
theorem d_V_repairStripe_0 : decode c_V_repairStripe 0 = .ok (.aload_n 0, 1) := by decide +kernel
theorem d_V_repairStripe_1 : decode c_V_repairStripe 1 = .ok (.iload_n 1, 1) := by decide +kernel
theorem d_V_repairStripe_2 : decode c_V_repairStripe 2 = .ok (.invokevirtual 123, 3) := by decide +kernel
theorem d_V_repairStripe_5 : decode c_V_repairStripe 5 = .ok (.ifCond .ne (14), 3) := by decide +kernel
theorem d_V_repairStripe_8 : decode c_V_repairStripe 8 = .ok (.aload_n 0, 1) := by decide +kernel
theorem d_V_repairStripe_9 : decode c_V_repairStripe 9 = .ok (.getfield 32, 3) := by decide +kernel
theorem d_V_repairStripe_12 : decode c_V_repairStripe 12 = .ok (.iload_n 1, 1) := by decide +kernel
theorem d_V_repairStripe_13 : decode c_V_repairStripe 13 = .ok (.invokevirtual 211, 3) := by decide +kernel
theorem d_V_repairStripe_16 : decode c_V_repairStripe 16 = .ok (.ifCond .ne (5), 3) := by decide +kernel
theorem d_V_repairStripe_19 : decode c_V_repairStripe 19 = .ok (.iconst (0), 1) := by decide +kernel
theorem d_V_repairStripe_20 : decode c_V_repairStripe 20 = .ok (.ireturn, 1) := by decide +kernel
theorem d_V_repairStripe_21 : decode c_V_repairStripe 21 = .ok (.aload_n 0, 1) := by decide +kernel
theorem d_V_repairStripe_22 : decode c_V_repairStripe 22 = .ok (.iload_n 1, 1) := by decide +kernel
theorem d_V_repairStripe_23 : decode c_V_repairStripe 23 = .ok (.invokevirtual 86, 3) := by decide +kernel
theorem d_V_repairStripe_26 : decode c_V_repairStripe 26 = .ok (.iconst (0), 1) := by decide +kernel
theorem d_V_repairStripe_27 : decode c_V_repairStripe 27 = .ok (.istore_n 2, 1) := by decide +kernel
theorem d_V_repairStripe_28 : decode c_V_repairStripe 28 = .ok (.iconst (0), 1) := by decide +kernel
theorem d_V_repairStripe_29 : decode c_V_repairStripe 29 = .ok (.istore_n 3, 1) := by decide +kernel
theorem d_V_repairStripe_30 : decode c_V_repairStripe 30 = .ok (.iload_n 3, 1) := by decide +kernel
theorem d_V_repairStripe_31 : decode c_V_repairStripe 31 = .ok (.aload_n 0, 1) := by decide +kernel
theorem d_V_repairStripe_32 : decode c_V_repairStripe 32 = .ok (.getfield 18, 3) := by decide +kernel
theorem d_V_repairStripe_35 : decode c_V_repairStripe 35 = .ok (.getfield 142, 3) := by decide +kernel
theorem d_V_repairStripe_38 : decode c_V_repairStripe 38 = .ok (.if_icmp .ge (34), 3) := by decide +kernel
theorem d_V_repairStripe_41 : decode c_V_repairStripe 41 = .ok (.aload_n 0, 1) := by decide +kernel
theorem d_V_repairStripe_42 : decode c_V_repairStripe 42 = .ok (.getfield 32, 3) := by decide +kernel
theorem d_V_repairStripe_45 : decode c_V_repairStripe 45 = .ok (.iload_n 1, 1) := by decide +kernel
theorem d_V_repairStripe_46 : decode c_V_repairStripe 46 = .ok (.iload_n 3, 1) := by decide +kernel
theorem d_V_repairStripe_47 : decode c_V_repairStripe 47 = .ok (.invokevirtual 145, 3) := by decide +kernel
theorem d_V_repairStripe_50 : decode c_V_repairStripe 50 = .ok (.iconst (-1), 1) := by decide +kernel
theorem d_V_repairStripe_51 : decode c_V_repairStripe 51 = .ok (.if_icmp .ne (15), 3) := by decide +kernel
theorem d_V_repairStripe_54 : decode c_V_repairStripe 54 = .ok (.aload_n 0, 1) := by decide +kernel
theorem d_V_repairStripe_55 : decode c_V_repairStripe 55 = .ok (.iload_n 1, 1) := by decide +kernel
theorem d_V_repairStripe_56 : decode c_V_repairStripe 56 = .ok (.iload_n 3, 1) := by decide +kernel
theorem d_V_repairStripe_57 : decode c_V_repairStripe 57 = .ok (.invokevirtual 180, 3) := by decide +kernel
theorem d_V_repairStripe_60 : decode c_V_repairStripe 60 = .ok (.ifCond .eq (6), 3) := by decide +kernel
theorem d_V_repairStripe_63 : decode c_V_repairStripe 63 = .ok (.iinc 2 (1), 3) := by decide +kernel
theorem d_V_repairStripe_66 : decode c_V_repairStripe 66 = .ok (.iinc 3 (1), 3) := by decide +kernel
theorem d_V_repairStripe_69 : decode c_V_repairStripe 69 = .ok (.goto (-39), 3) := by decide +kernel
theorem d_V_repairStripe_72 : decode c_V_repairStripe 72 = .ok (.iload_n 2, 1) := by decide +kernel
theorem d_V_repairStripe_73 : decode c_V_repairStripe 73 = .ok (.ireturn, 1) := by decide +kernel
theorem d_V_hasWrongShard_0 : decode c_V_hasWrongShard 0 = .ok (.aload_n 0, 1) := by decide +kernel
theorem d_V_hasWrongShard_1 : decode c_V_hasWrongShard 1 = .ok (.iload_n 1, 1) := by decide +kernel
theorem d_V_hasWrongShard_2 : decode c_V_hasWrongShard 2 = .ok (.invokevirtual 86, 3) := by decide +kernel
theorem d_V_hasWrongShard_5 : decode c_V_hasWrongShard 5 = .ok (.iconst (0), 1) := by decide +kernel
theorem d_V_hasWrongShard_6 : decode c_V_hasWrongShard 6 = .ok (.istore_n 2, 1) := by decide +kernel
theorem d_V_hasWrongShard_7 : decode c_V_hasWrongShard 7 = .ok (.iload_n 2, 1) := by decide +kernel
theorem d_V_hasWrongShard_8 : decode c_V_hasWrongShard 8 = .ok (.aload_n 0, 1) := by decide +kernel
theorem d_V_hasWrongShard_9 : decode c_V_hasWrongShard 9 = .ok (.getfield 18, 3) := by decide +kernel
theorem d_V_hasWrongShard_12 : decode c_V_hasWrongShard 12 = .ok (.getfield 142, 3) := by decide +kernel
theorem d_V_hasWrongShard_15 : decode c_V_hasWrongShard 15 = .ok (.if_icmp .ge (35), 3) := by decide +kernel
theorem d_V_hasWrongShard_18 : decode c_V_hasWrongShard 18 = .ok (.aload_n 0, 1) := by decide +kernel
theorem d_V_hasWrongShard_19 : decode c_V_hasWrongShard 19 = .ok (.getfield 32, 3) := by decide +kernel
theorem d_V_hasWrongShard_22 : decode c_V_hasWrongShard 22 = .ok (.iload_n 1, 1) := by decide +kernel
theorem d_V_hasWrongShard_23 : decode c_V_hasWrongShard 23 = .ok (.iload_n 2, 1) := by decide +kernel
theorem d_V_hasWrongShard_24 : decode c_V_hasWrongShard 24 = .ok (.invokevirtual 145, 3) := by decide +kernel
theorem d_V_hasWrongShard_27 : decode c_V_hasWrongShard 27 = .ok (.istore_n 3, 1) := by decide +kernel
theorem d_V_hasWrongShard_28 : decode c_V_hasWrongShard 28 = .ok (.iload_n 3, 1) := by decide +kernel
theorem d_V_hasWrongShard_29 : decode c_V_hasWrongShard 29 = .ok (.iconst (-1), 1) := by decide +kernel
theorem d_V_hasWrongShard_30 : decode c_V_hasWrongShard 30 = .ok (.if_icmp .eq (14), 3) := by decide +kernel
theorem d_V_hasWrongShard_33 : decode c_V_hasWrongShard 33 = .ok (.aload_n 0, 1) := by decide +kernel
theorem d_V_hasWrongShard_34 : decode c_V_hasWrongShard 34 = .ok (.iload_n 3, 1) := by decide +kernel
theorem d_V_hasWrongShard_35 : decode c_V_hasWrongShard 35 = .ok (.iload_n 2, 1) := by decide +kernel
theorem d_V_hasWrongShard_36 : decode c_V_hasWrongShard 36 = .ok (.invokevirtual 229, 3) := by decide +kernel
theorem d_V_hasWrongShard_39 : decode c_V_hasWrongShard 39 = .ok (.ifCond .ne (5), 3) := by decide +kernel
theorem d_V_hasWrongShard_42 : decode c_V_hasWrongShard 42 = .ok (.iconst (1), 1) := by decide +kernel
theorem d_V_hasWrongShard_43 : decode c_V_hasWrongShard 43 = .ok (.ireturn, 1) := by decide +kernel
theorem d_V_hasWrongShard_44 : decode c_V_hasWrongShard 44 = .ok (.iinc 2 (1), 3) := by decide +kernel
theorem d_V_hasWrongShard_47 : decode c_V_hasWrongShard 47 = .ok (.goto (-40), 3) := by decide +kernel
theorem d_V_hasWrongShard_50 : decode c_V_hasWrongShard 50 = .ok (.iconst (0), 1) := by decide +kernel
theorem d_V_hasWrongShard_51 : decode c_V_hasWrongShard 51 = .ok (.ireturn, 1) := by decide +kernel
theorem d_V_isAsWorkedOut_0 : decode c_V_isAsWorkedOut 0 = .ok (.iconst (0), 1) := by decide +kernel
theorem d_V_isAsWorkedOut_1 : decode c_V_isAsWorkedOut 1 = .ok (.istore_n 3, 1) := by decide +kernel
theorem d_V_isAsWorkedOut_2 : decode c_V_isAsWorkedOut 2 = .ok (.iload_n 3, 1) := by decide +kernel
theorem d_V_isAsWorkedOut_3 : decode c_V_isAsWorkedOut 3 = .ok (.iconst (4), 1) := by decide +kernel
theorem d_V_isAsWorkedOut_4 : decode c_V_isAsWorkedOut 4 = .ok (.if_icmp .ge (32), 3) := by decide +kernel
theorem d_V_isAsWorkedOut_7 : decode c_V_isAsWorkedOut 7 = .ok (.aload_n 0, 1) := by decide +kernel
theorem d_V_isAsWorkedOut_8 : decode c_V_isAsWorkedOut 8 = .ok (.getfield 25, 3) := by decide +kernel
theorem d_V_isAsWorkedOut_11 : decode c_V_isAsWorkedOut 11 = .ok (.iload_n 1, 1) := by decide +kernel
theorem d_V_isAsWorkedOut_12 : decode c_V_isAsWorkedOut 12 = .ok (.iload_n 3, 1) := by decide +kernel
theorem d_V_isAsWorkedOut_13 : decode c_V_isAsWorkedOut 13 = .ok (.invokevirtual 136, 3) := by decide +kernel
theorem d_V_isAsWorkedOut_16 : decode c_V_isAsWorkedOut 16 = .ok (.aload_n 0, 1) := by decide +kernel
theorem d_V_isAsWorkedOut_17 : decode c_V_isAsWorkedOut 17 = .ok (.getfield 18, 3) := by decide +kernel
theorem d_V_isAsWorkedOut_20 : decode c_V_isAsWorkedOut 20 = .ok (.iload_n 2, 1) := by decide +kernel
theorem d_V_isAsWorkedOut_21 : decode c_V_isAsWorkedOut 21 = .ok (.iload_n 3, 1) := by decide +kernel
theorem d_V_isAsWorkedOut_22 : decode c_V_isAsWorkedOut 22 = .ok (.invokevirtual 196, 3) := by decide +kernel
theorem d_V_isAsWorkedOut_25 : decode c_V_isAsWorkedOut 25 = .ok (.if_icmp .eq (5), 3) := by decide +kernel
theorem d_V_isAsWorkedOut_28 : decode c_V_isAsWorkedOut 28 = .ok (.iconst (0), 1) := by decide +kernel
theorem d_V_isAsWorkedOut_29 : decode c_V_isAsWorkedOut 29 = .ok (.ireturn, 1) := by decide +kernel
theorem d_V_isAsWorkedOut_30 : decode c_V_isAsWorkedOut 30 = .ok (.iinc 3 (1), 3) := by decide +kernel
theorem d_V_isAsWorkedOut_33 : decode c_V_isAsWorkedOut 33 = .ok (.goto (-31), 3) := by decide +kernel
theorem d_V_isAsWorkedOut_36 : decode c_V_isAsWorkedOut 36 = .ok (.iconst (1), 1) := by decide +kernel
theorem d_V_isAsWorkedOut_37 : decode c_V_isAsWorkedOut 37 = .ok (.ireturn, 1) := by decide +kernel
theorem d_R_init_0 : decode c_R_init 0 = .ok (.aload_n 0, 1) := by decide +kernel
theorem d_R_init_1 : decode c_R_init 1 = .ok (.invokespecial 1, 3) := by decide +kernel
theorem d_R_init_4 : decode c_R_init 4 = .ok (.aload_n 0, 1) := by decide +kernel
theorem d_R_init_5 : decode c_R_init 5 = .ok (.bipush (32), 2) := by decide +kernel
theorem d_R_init_7 : decode c_R_init 7 = .ok (.newarray .int, 2) := by decide +kernel
theorem d_R_init_9 : decode c_R_init 9 = .ok (.putfield 7, 3) := by decide +kernel
theorem d_R_init_12 : decode c_R_init 12 = .ok (.aload_n 0, 1) := by decide +kernel
theorem d_R_init_13 : decode c_R_init 13 = .ok (.bipush (8), 2) := by decide +kernel
theorem d_R_init_15 : decode c_R_init 15 = .ok (.newarray .boolean, 2) := by decide +kernel
theorem d_R_init_17 : decode c_R_init 17 = .ok (.putfield 13, 3) := by decide +kernel
theorem d_R_init_20 : decode c_R_init 20 = .ok (.aload_n 0, 1) := by decide +kernel
theorem d_R_init_21 : decode c_R_init 21 = .ok (.bipush (80), 2) := by decide +kernel
theorem d_R_init_23 : decode c_R_init 23 = .ok (.newarray .boolean, 2) := by decide +kernel
theorem d_R_init_25 : decode c_R_init 25 = .ok (.putfield 17, 3) := by decide +kernel
theorem d_R_init_28 : decode c_R_init 28 = .ok (.aload_n 0, 1) := by decide +kernel
theorem d_R_init_29 : decode c_R_init 29 = .ok (.sipush (320), 3) := by decide +kernel
theorem d_R_init_32 : decode c_R_init 32 = .ok (.newarray .int, 2) := by decide +kernel
theorem d_R_init_34 : decode c_R_init 34 = .ok (.putfield 20, 3) := by decide +kernel
theorem d_R_init_37 : decode c_R_init 37 = .ok (.aload_n 0, 1) := by decide +kernel
theorem d_R_init_38 : decode c_R_init 38 = .ok (.bipush (6), 2) := by decide +kernel
theorem d_R_init_40 : decode c_R_init 40 = .ok (.newarray .int, 2) := by decide +kernel
theorem d_R_init_42 : decode c_R_init 42 = .ok (.putfield 23, 3) := by decide +kernel
theorem d_R_init_45 : decode c_R_init 45 = .ok (.aload_n 0, 1) := by decide +kernel
theorem d_R_init_46 : decode c_R_init 46 = .ok (.sipush (336), 3) := by decide +kernel
theorem d_R_init_49 : decode c_R_init 49 = .ok (.newarray .int, 2) := by decide +kernel
theorem d_R_init_51 : decode c_R_init 51 = .ok (.putfield 26, 3) := by decide +kernel
theorem d_R_init_54 : decode c_R_init 54 = .ok (.aload_n 0, 1) := by decide +kernel
theorem d_R_init_55 : decode c_R_init 55 = .ok (.bipush (28), 2) := by decide +kernel
theorem d_R_init_57 : decode c_R_init 57 = .ok (.newarray .int, 2) := by decide +kernel
theorem d_R_init_59 : decode c_R_init 59 = .ok (.putfield 29, 3) := by decide +kernel
theorem d_R_init_62 : decode c_R_init 62 = .ok (.aload_n 0, 1) := by decide +kernel
theorem d_R_init_63 : decode c_R_init 63 = .ok (.bipush (32), 2) := by decide +kernel
theorem d_R_init_65 : decode c_R_init 65 = .ok (.newarray .int, 2) := by decide +kernel
theorem d_R_init_67 : decode c_R_init 67 = .ok (.putfield 32, 3) := by decide +kernel
theorem d_R_init_70 : decode c_R_init 70 = .ok (.aload_n 0, 1) := by decide +kernel
theorem d_R_init_71 : decode c_R_init 71 = .ok (.bipush (32), 2) := by decide +kernel
theorem d_R_init_73 : decode c_R_init 73 = .ok (.newarray .int, 2) := by decide +kernel
theorem d_R_init_75 : decode c_R_init 75 = .ok (.putfield 35, 3) := by decide +kernel
theorem d_R_init_78 : decode c_R_init 78 = .ok (.aload_n 0, 1) := by decide +kernel
theorem d_R_init_79 : decode c_R_init 79 = .ok (.bipush (16), 2) := by decide +kernel
theorem d_R_init_81 : decode c_R_init 81 = .ok (.newarray .int, 2) := by decide +kernel
theorem d_R_init_83 : decode c_R_init 83 = .ok (.putfield 38, 3) := by decide +kernel
theorem d_R_init_86 : decode c_R_init 86 = .ok (.aload_n 0, 1) := by decide +kernel
theorem d_R_init_87 : decode c_R_init 87 = .ok (.bipush (20), 2) := by decide +kernel
theorem d_R_init_89 : decode c_R_init 89 = .ok (.newarray .int, 2) := by decide +kernel
theorem d_R_init_91 : decode c_R_init 91 = .ok (.putfield 41, 3) := by decide +kernel
theorem d_R_init_94 : decode c_R_init 94 = .ok (.aload_n 0, 1) := by decide +kernel
theorem d_R_init_95 : decode c_R_init 95 = .ok (.iload_n 1, 1) := by decide +kernel
theorem d_R_init_96 : decode c_R_init 96 = .ok (.iconst (1), 1) := by decide +kernel
theorem d_R_init_97 : decode c_R_init 97 = .ok (.if_icmp .ge (7), 3) := by decide +kernel
theorem d_R_init_100 : decode c_R_init 100 = .ok (.iconst (1), 1) := by decide +kernel
theorem d_R_init_101 : decode c_R_init 101 = .ok (.goto (13), 3) := by decide +kernel
theorem d_R_init_104 : decode c_R_init 104 = .ok (.iload_n 1, 1) := by decide +kernel
theorem d_R_init_105 : decode c_R_init 105 = .ok (.iconst (4), 1) := by decide +kernel
theorem d_R_init_106 : decode c_R_init 106 = .ok (.if_icmp .le (7), 3) := by decide +kernel
theorem d_R_init_109 : decode c_R_init 109 = .ok (.iconst (4), 1) := by decide +kernel
theorem d_R_init_110 : decode c_R_init 110 = .ok (.goto (4), 3) := by decide +kernel
theorem d_R_init_113 : decode c_R_init 113 = .ok (.iload_n 1, 1) := by decide +kernel
theorem d_R_init_114 : decode c_R_init 114 = .ok (.putfield 44, 3) := by decide +kernel
theorem d_R_init_117 : decode c_R_init 117 = .ok (.aload_n 0, 1) := by decide +kernel
theorem d_R_init_118 : decode c_R_init 118 = .ok (.iload_n 2, 1) := by decide +kernel
theorem d_R_init_119 : decode c_R_init 119 = .ok (.iconst (1), 1) := by decide +kernel
theorem d_R_init_120 : decode c_R_init 120 = .ok (.if_icmp .ge (7), 3) := by decide +kernel
theorem d_R_init_123 : decode c_R_init 123 = .ok (.iconst (1), 1) := by decide +kernel
theorem d_R_init_124 : decode c_R_init 124 = .ok (.goto (13), 3) := by decide +kernel
theorem d_R_init_127 : decode c_R_init 127 = .ok (.iload_n 2, 1) := by decide +kernel
theorem d_R_init_128 : decode c_R_init 128 = .ok (.iconst (3), 1) := by decide +kernel
theorem d_R_init_129 : decode c_R_init 129 = .ok (.if_icmp .le (7), 3) := by decide +kernel
theorem d_R_init_132 : decode c_R_init 132 = .ok (.iconst (3), 1) := by decide +kernel
theorem d_R_init_133 : decode c_R_init 133 = .ok (.goto (4), 3) := by decide +kernel
theorem d_R_init_136 : decode c_R_init 136 = .ok (.iload_n 2, 1) := by decide +kernel
theorem d_R_init_137 : decode c_R_init 137 = .ok (.putfield 48, 3) := by decide +kernel
theorem d_R_init_140 : decode c_R_init 140 = .ok (.iconst (0), 1) := by decide +kernel
theorem d_R_init_141 : decode c_R_init 141 = .ok (.istore_n 3, 1) := by decide +kernel
theorem d_R_init_142 : decode c_R_init 142 = .ok (.iload_n 3, 1) := by decide +kernel
theorem d_R_init_143 : decode c_R_init 143 = .ok (.bipush (8), 2) := by decide +kernel
theorem d_R_init_145 : decode c_R_init 145 = .ok (.if_icmp .ge (16), 3) := by decide +kernel
theorem d_R_init_148 : decode c_R_init 148 = .ok (.aload_n 0, 1) := by decide +kernel
theorem d_R_init_149 : decode c_R_init 149 = .ok (.getfield 13, 3) := by decide +kernel
theorem d_R_init_152 : decode c_R_init 152 = .ok (.iload_n 3, 1) := by decide +kernel
theorem d_R_init_153 : decode c_R_init 153 = .ok (.iconst (1), 1) := by decide +kernel
theorem d_R_init_154 : decode c_R_init 154 = .ok (.bastore, 1) := by decide +kernel
theorem d_R_init_155 : decode c_R_init 155 = .ok (.iinc 3 (1), 3) := by decide +kernel
theorem d_R_init_158 : decode c_R_init 158 = .ok (.goto (-16), 3) := by decide +kernel
theorem d_R_init_161 : decode c_R_init 161 = .ok (.iconst (0), 1) := by decide +kernel
theorem d_R_init_162 : decode c_R_init 162 = .ok (.istore_n 3, 1) := by decide +kernel
theorem d_R_init_163 : decode c_R_init 163 = .ok (.iload_n 3, 1) := by decide +kernel
theorem d_R_init_164 : decode c_R_init 164 = .ok (.sipush (336), 3) := by decide +kernel
theorem d_R_init_167 : decode c_R_init 167 = .ok (.if_icmp .ge (16), 3) := by decide +kernel
theorem d_R_init_170 : decode c_R_init 170 = .ok (.aload_n 0, 1) := by decide +kernel
theorem d_R_init_171 : decode c_R_init 171 = .ok (.getfield 26, 3) := by decide +kernel
theorem d_R_init_174 : decode c_R_init 174 = .ok (.iload_n 3, 1) := by decide +kernel
theorem d_R_init_175 : decode c_R_init 175 = .ok (.iconst (-1), 1) := by decide +kernel
theorem d_R_init_176 : decode c_R_init 176 = .ok (.iastore, 1) := by decide +kernel
theorem d_R_init_177 : decode c_R_init 177 = .ok (.iinc 3 (1), 3) := by decide +kernel
theorem d_R_init_180 : decode c_R_init 180 = .ok (.goto (-17), 3) := by decide +kernel
theorem d_R_init_183 : decode c_R_init 183 = .ok (.iconst (0), 1) := by decide +kernel
theorem d_R_init_184 : decode c_R_init 184 = .ok (.istore_n 3, 1) := by decide +kernel
theorem d_R_init_185 : decode c_R_init 185 = .ok (.iload_n 3, 1) := by decide +kernel
theorem d_R_init_186 : decode c_R_init 186 = .ok (.aload_n 0, 1) := by decide +kernel
theorem d_R_init_187 : decode c_R_init 187 = .ok (.invokevirtual 51, 3) := by decide +kernel
theorem d_R_init_190 : decode c_R_init 190 = .ok (.if_icmp .ge (67), 3) := by decide +kernel
theorem d_R_init_193 : decode c_R_init 193 = .ok (.iconst (0), 1) := by decide +kernel
theorem d_R_init_194 : decode c_R_init 194 = .ok (.istore 4, 2) := by decide +kernel
theorem d_R_init_196 : decode c_R_init 196 = .ok (.iload 4, 2) := by decide +kernel
theorem d_R_init_198 : decode c_R_init 198 = .ok (.aload_n 0, 1) := by decide +kernel
theorem d_R_init_199 : decode c_R_init 199 = .ok (.getfield 44, 3) := by decide +kernel
theorem d_R_init_202 : decode c_R_init 202 = .ok (.if_icmp .ge (49), 3) := by decide +kernel
theorem d_R_init_205 : decode c_R_init 205 = .ok (.aload_n 0, 1) := by decide +kernel
theorem d_R_init_206 : decode c_R_init 206 = .ok (.getfield 29, 3) := by decide +kernel
theorem d_R_init_209 : decode c_R_init 209 = .ok (.iconst (4), 1) := by decide +kernel
theorem d_R_init_210 : decode c_R_init 210 = .ok (.iload_n 3, 1) := by decide +kernel
theorem d_R_init_211 : decode c_R_init 211 = .ok (.imul, 1) := by decide +kernel
theorem d_R_init_212 : decode c_R_init 212 = .ok (.iload 4, 2) := by decide +kernel
theorem d_R_init_214 : decode c_R_init 214 = .ok (.iadd, 1) := by decide +kernel
theorem d_R_init_215 : decode c_R_init 215 = .ok (.iload_n 3, 1) := by decide +kernel
theorem d_R_init_216 : decode c_R_init 216 = .ok (.aload_n 0, 1) := by decide +kernel
theorem d_R_init_217 : decode c_R_init 217 = .ok (.getfield 44, 3) := by decide +kernel
theorem d_R_init_220 : decode c_R_init 220 = .ok (.if_icmp .ge (17), 3) := by decide +kernel
theorem d_R_init_223 : decode c_R_init 223 = .ok (.iload_n 3, 1) := by decide +kernel
theorem d_R_init_224 : decode c_R_init 224 = .ok (.iload 4, 2) := by decide +kernel
theorem d_R_init_226 : decode c_R_init 226 = .ok (.if_icmp .ne (7), 3) := by decide +kernel
theorem d_R_init_229 : decode c_R_init 229 = .ok (.iconst (1), 1) := by decide +kernel
theorem d_R_init_230 : decode c_R_init 230 = .ok (.goto (14), 3) := by decide +kernel
theorem d_R_init_233 : decode c_R_init 233 = .ok (.iconst (0), 1) := by decide +kernel
theorem d_R_init_234 : decode c_R_init 234 = .ok (.goto (10), 3) := by decide +kernel
theorem d_R_init_237 : decode c_R_init 237 = .ok (.iload_n 3, 1) := by decide +kernel
theorem d_R_init_238 : decode c_R_init 238 = .ok (.iload 4, 2) := by decide +kernel
theorem d_R_init_240 : decode c_R_init 240 = .ok (.ixor, 1) := by decide +kernel
theorem d_R_init_241 : decode c_R_init 241 = .ok (.invokestatic 55, 3) := by decide +kernel
theorem d_R_init_244 : decode c_R_init 244 = .ok (.iastore, 1) := by decide +kernel
theorem d_R_init_245 : decode c_R_init 245 = .ok (.iinc 4 (1), 3) := by decide +kernel
theorem d_R_init_248 : decode c_R_init 248 = .ok (.goto (-52), 3) := by decide +kernel
theorem d_R_init_251 : decode c_R_init 251 = .ok (.iinc 3 (1), 3) := by decide +kernel
theorem d_R_init_254 : decode c_R_init 254 = .ok (.goto (-69), 3) := by decide +kernel
theorem d_R_init_257 : decode c_R_init 257 = .ok (.return_, 1) := by decide +kernel
theorem d_R_thrown_0 : decode c_R_thrown 0 = .ok (.aload_n 0, 1) := by decide +kernel
theorem d_R_thrown_1 : decode c_R_thrown 1 = .ok (.getfield 59, 3) := by decide +kernel
theorem d_R_thrown_4 : decode c_R_thrown 4 = .ok (.ireturn, 1) := by decide +kernel
theorem d_R_put_0 : decode c_R_put 0 = .ok (.aload_n 0, 1) := by decide +kernel
theorem d_R_put_1 : decode c_R_put 1 = .ok (.iconst (0), 1) := by decide +kernel
theorem d_R_put_2 : decode c_R_put 2 = .ok (.putfield 59, 3) := by decide +kernel
theorem d_R_put_5 : decode c_R_put 5 = .ok (.iload_n 1, 1) := by decide +kernel
theorem d_R_put_6 : decode c_R_put 6 = .ok (.iconst (1), 1) := by decide +kernel
theorem d_R_put_7 : decode c_R_put 7 = .ok (.if_icmp .lt (20), 3) := by decide +kernel
theorem d_R_put_10 : decode c_R_put 10 = .ok (.iload_n 1, 1) := by decide +kernel
theorem d_R_put_11 : decode c_R_put 11 = .ok (.bipush (8), 2) := by decide +kernel
theorem d_R_put_13 : decode c_R_put 13 = .ok (.if_icmp .gt (14), 3) := by decide +kernel
theorem d_R_put_16 : decode c_R_put 16 = .ok (.aload_n 0, 1) := by decide +kernel
theorem d_R_put_17 : decode c_R_put 17 = .ok (.getfield 62, 3) := by decide +kernel
theorem d_R_put_20 : decode c_R_put 20 = .ok (.iload_n 1, 1) := by decide +kernel
theorem d_R_put_21 : decode c_R_put 21 = .ok (.iadd, 1) := by decide +kernel
theorem d_R_put_22 : decode c_R_put 22 = .ok (.bipush (32), 2) := by decide +kernel
theorem d_R_put_24 : decode c_R_put 24 = .ok (.if_icmp .le (5), 3) := by decide +kernel
theorem d_R_put_27 : decode c_R_put 27 = .ok (.iconst (0), 1) := by decide +kernel
theorem d_R_put_28 : decode c_R_put 28 = .ok (.ireturn, 1) := by decide +kernel
theorem d_R_put_29 : decode c_R_put 29 = .ok (.iload_n 1, 1) := by decide +kernel
theorem d_R_put_30 : decode c_R_put 30 = .ok (.iconst (1), 1) := by decide +kernel
theorem d_R_put_31 : decode c_R_put 31 = .ok (.isub, 1) := by decide +kernel
theorem d_R_put_32 : decode c_R_put 32 = .ok (.istore 4, 2) := by decide +kernel
theorem d_R_put_34 : decode c_R_put 34 = .ok (.iload 4, 2) := by decide +kernel
theorem d_R_put_36 : decode c_R_put 36 = .ok (.ifCond .lt (40), 3) := by decide +kernel
theorem d_R_put_39 : decode c_R_put 39 = .ok (.aload_n 0, 1) := by decide +kernel
theorem d_R_put_40 : decode c_R_put 40 = .ok (.getfield 7, 3) := by decide +kernel
theorem d_R_put_43 : decode c_R_put 43 = .ok (.aload_n 0, 1) := by decide +kernel
theorem d_R_put_44 : decode c_R_put 44 = .ok (.getfield 62, 3) := by decide +kernel
theorem d_R_put_47 : decode c_R_put 47 = .ok (.lload_n 2, 1) := by decide +kernel
theorem d_R_put_48 : decode c_R_put 48 = .ok (.bipush (8), 2) := by decide +kernel
theorem d_R_put_50 : decode c_R_put 50 = .ok (.iload 4, 2) := by decide +kernel
theorem d_R_put_52 : decode c_R_put 52 = .ok (.imul, 1) := by decide +kernel
theorem d_R_put_53 : decode c_R_put 53 = .ok (.lushr, 1) := by decide +kernel
theorem d_R_put_54 : decode c_R_put 54 = .ok (.ldc2_w 65, 3) := by decide +kernel
theorem d_R_put_57 : decode c_R_put 57 = .ok (.land, 1) := by decide +kernel
theorem d_R_put_58 : decode c_R_put 58 = .ok (.l2i, 1) := by decide +kernel
theorem d_R_put_59 : decode c_R_put 59 = .ok (.iastore, 1) := by decide +kernel
theorem d_R_put_60 : decode c_R_put 60 = .ok (.aload_n 0, 1) := by decide +kernel
theorem d_R_put_61 : decode c_R_put 61 = .ok (.dup, 1) := by decide +kernel
theorem d_R_put_62 : decode c_R_put 62 = .ok (.getfield 62, 3) := by decide +kernel
theorem d_R_put_65 : decode c_R_put 65 = .ok (.iconst (1), 1) := by decide +kernel
theorem d_R_put_66 : decode c_R_put 66 = .ok (.iadd, 1) := by decide +kernel
theorem d_R_put_67 : decode c_R_put 67 = .ok (.putfield 62, 3) := by decide +kernel
theorem d_R_put_70 : decode c_R_put 70 = .ok (.iinc 4 (-1), 3) := by decide +kernel
theorem d_R_put_73 : decode c_R_put 73 = .ok (.goto (-39), 3) := by decide +kernel
theorem d_R_put_76 : decode c_R_put 76 = .ok (.iconst (1), 1) := by decide +kernel
theorem d_R_put_77 : decode c_R_put 77 = .ok (.ireturn, 1) := by decide +kernel
theorem d_R_scrap_0 : decode c_R_scrap 0 = .ok (.aload_n 0, 1) := by decide +kernel
theorem d_R_scrap_1 : decode c_R_scrap 1 = .ok (.iconst (0), 1) := by decide +kernel
theorem d_R_scrap_2 : decode c_R_scrap 2 = .ok (.putfield 59, 3) := by decide +kernel
theorem d_R_scrap_5 : decode c_R_scrap 5 = .ok (.aload_n 0, 1) := by decide +kernel
theorem d_R_scrap_6 : decode c_R_scrap 6 = .ok (.iconst (0), 1) := by decide +kernel
theorem d_R_scrap_7 : decode c_R_scrap 7 = .ok (.putfield 62, 3) := by decide +kernel
theorem d_R_scrap_10 : decode c_R_scrap 10 = .ok (.return_, 1) := by decide +kernel
theorem d_R_times_0 : decode c_R_times 0 = .ok (.iconst (0), 1) := by decide +kernel
theorem d_R_times_1 : decode c_R_times 1 = .ok (.istore_n 2, 1) := by decide +kernel
theorem d_R_times_2 : decode c_R_times 2 = .ok (.iload_n 0, 1) := by decide +kernel
theorem d_R_times_3 : decode c_R_times 3 = .ok (.istore_n 3, 1) := by decide +kernel
theorem d_R_times_4 : decode c_R_times 4 = .ok (.iconst (0), 1) := by decide +kernel
theorem d_R_times_5 : decode c_R_times 5 = .ok (.istore 4, 2) := by decide +kernel
theorem d_R_times_7 : decode c_R_times 7 = .ok (.iload 4, 2) := by decide +kernel
theorem d_R_times_9 : decode c_R_times 9 = .ok (.bipush (8), 2) := by decide +kernel
theorem d_R_times_11 : decode c_R_times 11 = .ok (.if_icmp .ge (48), 3) := by decide +kernel
theorem d_R_times_14 : decode c_R_times 14 = .ok (.iload_n 1, 1) := by decide +kernel
theorem d_R_times_15 : decode c_R_times 15 = .ok (.iload 4, 2) := by decide +kernel
theorem d_R_times_17 : decode c_R_times 17 = .ok (.ishr, 1) := by decide +kernel
theorem d_R_times_18 : decode c_R_times 18 = .ok (.iconst (1), 1) := by decide +kernel
theorem d_R_times_19 : decode c_R_times 19 = .ok (.iand, 1) := by decide +kernel
theorem d_R_times_20 : decode c_R_times 20 = .ok (.iconst (1), 1) := by decide +kernel
theorem d_R_times_21 : decode c_R_times 21 = .ok (.if_icmp .ne (9), 3) := by decide +kernel
theorem d_R_times_24 : decode c_R_times 24 = .ok (.iload_n 2, 1) := by decide +kernel
theorem d_R_times_25 : decode c_R_times 25 = .ok (.iload_n 3, 1) := by decide +kernel
theorem d_R_times_26 : decode c_R_times 26 = .ok (.ixor, 1) := by decide +kernel
theorem d_R_times_27 : decode c_R_times 27 = .ok (.goto (4), 3) := by decide +kernel
theorem d_R_times_30 : decode c_R_times 30 = .ok (.iload_n 2, 1) := by decide +kernel
theorem d_R_times_31 : decode c_R_times 31 = .ok (.istore_n 2, 1) := by decide +kernel
theorem d_R_times_32 : decode c_R_times 32 = .ok (.iconst (2), 1) := by decide +kernel
theorem d_R_times_33 : decode c_R_times 33 = .ok (.iload_n 3, 1) := by decide +kernel
theorem d_R_times_34 : decode c_R_times 34 = .ok (.imul, 1) := by decide +kernel
theorem d_R_times_35 : decode c_R_times 35 = .ok (.istore_n 3, 1) := by decide +kernel
theorem d_R_times_36 : decode c_R_times 36 = .ok (.iload_n 3, 1) := by decide +kernel
theorem d_R_times_37 : decode c_R_times 37 = .ok (.sipush (255), 3) := by decide +kernel
theorem d_R_times_40 : decode c_R_times 40 = .ok (.if_icmp .le (11), 3) := by decide +kernel
theorem d_R_times_43 : decode c_R_times 43 = .ok (.iload_n 3, 1) := by decide +kernel
theorem d_R_times_44 : decode c_R_times 44 = .ok (.sipush (285), 3) := by decide +kernel
theorem d_R_times_47 : decode c_R_times 47 = .ok (.ixor, 1) := by decide +kernel
theorem d_R_times_48 : decode c_R_times 48 = .ok (.goto (4), 3) := by decide +kernel
theorem d_R_times_51 : decode c_R_times 51 = .ok (.iload_n 3, 1) := by decide +kernel
theorem d_R_times_52 : decode c_R_times 52 = .ok (.istore_n 3, 1) := by decide +kernel
theorem d_R_times_53 : decode c_R_times 53 = .ok (.iinc 4 (1), 3) := by decide +kernel
theorem d_R_times_56 : decode c_R_times 56 = .ok (.goto (-49), 3) := by decide +kernel
theorem d_R_times_59 : decode c_R_times 59 = .ok (.iload_n 2, 1) := by decide +kernel
theorem d_R_times_60 : decode c_R_times 60 = .ok (.ireturn, 1) := by decide +kernel
theorem d_R_inverse_0 : decode c_R_inverse 0 = .ok (.iconst (1), 1) := by decide +kernel
theorem d_R_inverse_1 : decode c_R_inverse 1 = .ok (.istore_n 1, 1) := by decide +kernel
theorem d_R_inverse_2 : decode c_R_inverse 2 = .ok (.iload_n 0, 1) := by decide +kernel
theorem d_R_inverse_3 : decode c_R_inverse 3 = .ok (.iload_n 1, 1) := by decide +kernel
theorem d_R_inverse_4 : decode c_R_inverse 4 = .ok (.invokestatic 67, 3) := by decide +kernel
theorem d_R_inverse_7 : decode c_R_inverse 7 = .ok (.iconst (1), 1) := by decide +kernel
theorem d_R_inverse_8 : decode c_R_inverse 8 = .ok (.if_icmp .eq (9), 3) := by decide +kernel
theorem d_R_inverse_11 : decode c_R_inverse 11 = .ok (.iinc 1 (1), 3) := by decide +kernel
theorem d_R_inverse_14 : decode c_R_inverse 14 = .ok (.goto (-12), 3) := by decide +kernel
theorem d_R_inverse_17 : decode c_R_inverse 17 = .ok (.iload_n 1, 1) := by decide +kernel
theorem d_R_inverse_18 : decode c_R_inverse 18 = .ok (.ireturn, 1) := by decide +kernel
theorem d_R_factor_0 : decode c_R_factor 0 = .ok (.aload_n 0, 1) := by decide +kernel
theorem d_R_factor_1 : decode c_R_factor 1 = .ok (.getfield 29, 3) := by decide +kernel
theorem d_R_factor_4 : decode c_R_factor 4 = .ok (.iconst (4), 1) := by decide +kernel
theorem d_R_factor_5 : decode c_R_factor 5 = .ok (.iload_n 1, 1) := by decide +kernel
theorem d_R_factor_6 : decode c_R_factor 6 = .ok (.imul, 1) := by decide +kernel
theorem d_R_factor_7 : decode c_R_factor 7 = .ok (.iload_n 2, 1) := by decide +kernel
theorem d_R_factor_8 : decode c_R_factor 8 = .ok (.iadd, 1) := by decide +kernel
theorem d_R_factor_9 : decode c_R_factor 9 = .ok (.iaload, 1) := by decide +kernel
theorem d_R_factor_10 : decode c_R_factor 10 = .ok (.ireturn, 1) := by decide +kernel
theorem d_R_shards_0 : decode c_R_shards 0 = .ok (.aload_n 0, 1) := by decide +kernel
theorem d_R_shards_1 : decode c_R_shards 1 = .ok (.getfield 44, 3) := by decide +kernel
theorem d_R_shards_4 : decode c_R_shards 4 = .ok (.aload_n 0, 1) := by decide +kernel
theorem d_R_shards_5 : decode c_R_shards 5 = .ok (.getfield 48, 3) := by decide +kernel
theorem d_R_shards_8 : decode c_R_shards 8 = .ok (.iadd, 1) := by decide +kernel
theorem d_R_shards_9 : decode c_R_shards 9 = .ok (.ireturn, 1) := by decide +kernel
theorem d_R_stripesOf_0 : decode c_R_stripesOf 0 = .ok (.aload_n 0, 1) := by decide +kernel
theorem d_R_stripesOf_1 : decode c_R_stripesOf 1 = .ok (.getfield 23, 3) := by decide +kernel
theorem d_R_stripesOf_4 : decode c_R_stripesOf 4 = .ok (.iload_n 1, 1) := by decide +kernel
theorem d_R_stripesOf_5 : decode c_R_stripesOf 5 = .ok (.iaload, 1) := by decide +kernel
theorem d_R_stripesOf_6 : decode c_R_stripesOf 6 = .ok (.iconst (4), 1) := by decide +kernel
theorem d_R_stripesOf_7 : decode c_R_stripesOf 7 = .ok (.aload_n 0, 1) := by decide +kernel
theorem d_R_stripesOf_8 : decode c_R_stripesOf 8 = .ok (.getfield 44, 3) := by decide +kernel
theorem d_R_stripesOf_11 : decode c_R_stripesOf 11 = .ok (.imul, 1) := by decide +kernel
theorem d_R_stripesOf_12 : decode c_R_stripesOf 12 = .ok (.iadd, 1) := by decide +kernel
theorem d_R_stripesOf_13 : decode c_R_stripesOf 13 = .ok (.iconst (1), 1) := by decide +kernel
theorem d_R_stripesOf_14 : decode c_R_stripesOf 14 = .ok (.isub, 1) := by decide +kernel
theorem d_R_stripesOf_15 : decode c_R_stripesOf 15 = .ok (.iconst (4), 1) := by decide +kernel
theorem d_R_stripesOf_16 : decode c_R_stripesOf 16 = .ok (.aload_n 0, 1) := by decide +kernel
theorem d_R_stripesOf_17 : decode c_R_stripesOf 17 = .ok (.getfield 44, 3) := by decide +kernel
theorem d_R_stripesOf_20 : decode c_R_stripesOf 20 = .ok (.imul, 1) := by decide +kernel
theorem d_R_stripesOf_21 : decode c_R_stripesOf 21 = .ok (.idiv, 1) := by decide +kernel
theorem d_R_stripesOf_22 : decode c_R_stripesOf 22 = .ok (.ireturn, 1) := by decide +kernel
theorem d_R_place_0 : decode c_R_place 0 = .ok (.aload_n 0, 1) := by decide +kernel
theorem d_R_place_1 : decode c_R_place 1 = .ok (.getfield 26, 3) := by decide +kernel
theorem d_R_place_4 : decode c_R_place 4 = .ok (.bipush (56), 2) := by decide +kernel
theorem d_R_place_6 : decode c_R_place 6 = .ok (.iload_n 1, 1) := by decide +kernel
theorem d_R_place_7 : decode c_R_place 7 = .ok (.imul, 1) := by decide +kernel
theorem d_R_place_8 : decode c_R_place 8 = .ok (.bipush (7), 2) := by decide +kernel
theorem d_R_place_10 : decode c_R_place 10 = .ok (.iload_n 2, 1) := by decide +kernel
theorem d_R_place_11 : decode c_R_place 11 = .ok (.imul, 1) := by decide +kernel
theorem d_R_place_12 : decode c_R_place 12 = .ok (.iadd, 1) := by decide +kernel
theorem d_R_place_13 : decode c_R_place 13 = .ok (.iload_n 3, 1) := by decide +kernel
theorem d_R_place_14 : decode c_R_place 14 = .ok (.iadd, 1) := by decide +kernel
theorem d_R_place_15 : decode c_R_place 15 = .ok (.iaload, 1) := by decide +kernel
theorem d_R_place_16 : decode c_R_place 16 = .ok (.ireturn, 1) := by decide +kernel
theorem d_R_lost_0 : decode c_R_lost 0 = .ok (.iconst (0), 1) := by decide +kernel
theorem d_R_lost_1 : decode c_R_lost 1 = .ok (.istore_n 3, 1) := by decide +kernel
theorem d_R_lost_2 : decode c_R_lost 2 = .ok (.iconst (0), 1) := by decide +kernel
theorem d_R_lost_3 : decode c_R_lost 3 = .ok (.istore 4, 2) := by decide +kernel
theorem d_R_lost_5 : decode c_R_lost 5 = .ok (.iload 4, 2) := by decide +kernel
theorem d_R_lost_7 : decode c_R_lost 7 = .ok (.aload_n 0, 1) := by decide +kernel
theorem d_R_lost_8 : decode c_R_lost 8 = .ok (.invokevirtual 51, 3) := by decide +kernel
theorem d_R_lost_11 : decode c_R_lost 11 = .ok (.if_icmp .ge (28), 3) := by decide +kernel
theorem d_R_lost_14 : decode c_R_lost 14 = .ok (.aload_n 0, 1) := by decide +kernel
theorem d_R_lost_15 : decode c_R_lost 15 = .ok (.iload_n 1, 1) := by decide +kernel
theorem d_R_lost_16 : decode c_R_lost 16 = .ok (.iload_n 2, 1) := by decide +kernel
theorem d_R_lost_17 : decode c_R_lost 17 = .ok (.iload 4, 2) := by decide +kernel
theorem d_R_lost_19 : decode c_R_lost 19 = .ok (.invokevirtual 71, 3) := by decide +kernel
theorem d_R_lost_22 : decode c_R_lost 22 = .ok (.ifCond .ge (9), 3) := by decide +kernel
theorem d_R_lost_25 : decode c_R_lost 25 = .ok (.iload_n 3, 1) := by decide +kernel
theorem d_R_lost_26 : decode c_R_lost 26 = .ok (.iconst (1), 1) := by decide +kernel
theorem d_R_lost_27 : decode c_R_lost 27 = .ok (.iadd, 1) := by decide +kernel
theorem d_R_lost_28 : decode c_R_lost 28 = .ok (.goto (4), 3) := by decide +kernel
theorem d_R_lost_31 : decode c_R_lost 31 = .ok (.iload_n 3, 1) := by decide +kernel
theorem d_R_lost_32 : decode c_R_lost 32 = .ok (.istore_n 3, 1) := by decide +kernel
theorem d_R_lost_33 : decode c_R_lost 33 = .ok (.iinc 4 (1), 3) := by decide +kernel
theorem d_R_lost_36 : decode c_R_lost 36 = .ok (.goto (-31), 3) := by decide +kernel
theorem d_R_lost_39 : decode c_R_lost 39 = .ok (.iload_n 3, 1) := by decide +kernel
theorem d_R_lost_40 : decode c_R_lost 40 = .ok (.ireturn, 1) := by decide +kernel
theorem d_R_worked_0 : decode c_R_worked 0 = .ok (.iconst (0), 1) := by decide +kernel
theorem d_R_worked_1 : decode c_R_worked 1 = .ok (.istore_n 3, 1) := by decide +kernel
theorem d_R_worked_2 : decode c_R_worked 2 = .ok (.iconst (0), 1) := by decide +kernel
theorem d_R_worked_3 : decode c_R_worked 3 = .ok (.istore 4, 2) := by decide +kernel
theorem d_R_worked_5 : decode c_R_worked 5 = .ok (.iload 4, 2) := by decide +kernel
theorem d_R_worked_7 : decode c_R_worked 7 = .ok (.aload_n 0, 1) := by decide +kernel
theorem d_R_worked_8 : decode c_R_worked 8 = .ok (.getfield 44, 3) := by decide +kernel
theorem d_R_worked_11 : decode c_R_worked 11 = .ok (.if_icmp .ge (33), 3) := by decide +kernel
theorem d_R_worked_14 : decode c_R_worked 14 = .ok (.iload_n 3, 1) := by decide +kernel
theorem d_R_worked_15 : decode c_R_worked 15 = .ok (.aload_n 0, 1) := by decide +kernel
theorem d_R_worked_16 : decode c_R_worked 16 = .ok (.iload_n 1, 1) := by decide +kernel
theorem d_R_worked_17 : decode c_R_worked 17 = .ok (.iload 4, 2) := by decide +kernel
theorem d_R_worked_19 : decode c_R_worked 19 = .ok (.invokevirtual 75, 3) := by decide +kernel
theorem d_R_worked_22 : decode c_R_worked 22 = .ok (.aload_n 0, 1) := by decide +kernel
theorem d_R_worked_23 : decode c_R_worked 23 = .ok (.getfield 38, 3) := by decide +kernel
theorem d_R_worked_26 : decode c_R_worked 26 = .ok (.iconst (4), 1) := by decide +kernel
theorem d_R_worked_27 : decode c_R_worked 27 = .ok (.iload 4, 2) := by decide +kernel
theorem d_R_worked_29 : decode c_R_worked 29 = .ok (.imul, 1) := by decide +kernel
theorem d_R_worked_30 : decode c_R_worked 30 = .ok (.iload_n 2, 1) := by decide +kernel
theorem d_R_worked_31 : decode c_R_worked 31 = .ok (.iadd, 1) := by decide +kernel
theorem d_R_worked_32 : decode c_R_worked 32 = .ok (.iaload, 1) := by decide +kernel
theorem d_R_worked_33 : decode c_R_worked 33 = .ok (.invokestatic 67, 3) := by decide +kernel
theorem d_R_worked_36 : decode c_R_worked 36 = .ok (.ixor, 1) := by decide +kernel
theorem d_R_worked_37 : decode c_R_worked 37 = .ok (.istore_n 3, 1) := by decide +kernel
theorem d_R_worked_38 : decode c_R_worked 38 = .ok (.iinc 4 (1), 3) := by decide +kernel
theorem d_R_worked_41 : decode c_R_worked 41 = .ok (.goto (-36), 3) := by decide +kernel
theorem d_R_worked_44 : decode c_R_worked 44 = .ok (.iload_n 3, 1) := by decide +kernel
theorem d_R_worked_45 : decode c_R_worked 45 = .ok (.ireturn, 1) := by decide +kernel
theorem d_R_writeRows_0 : decode c_R_writeRows 0 = .ok (.iconst (0), 1) := by decide +kernel
theorem d_R_writeRows_1 : decode c_R_writeRows 1 = .ok (.istore 4, 2) := by decide +kernel
theorem d_R_writeRows_3 : decode c_R_writeRows 3 = .ok (.iconst (0), 1) := by decide +kernel
theorem d_R_writeRows_4 : decode c_R_writeRows 4 = .ok (.istore 5, 2) := by decide +kernel
theorem d_R_writeRows_6 : decode c_R_writeRows 6 = .ok (.iload 5, 2) := by decide +kernel
theorem d_R_writeRows_8 : decode c_R_writeRows 8 = .ok (.aload_n 0, 1) := by decide +kernel
theorem d_R_writeRows_9 : decode c_R_writeRows 9 = .ok (.invokevirtual 51, 3) := by decide +kernel
theorem d_R_writeRows_12 : decode c_R_writeRows 12 = .ok (.if_icmp .ge (98), 3) := by decide +kernel
theorem d_R_writeRows_15 : decode c_R_writeRows 15 = .ok (.iload 4, 2) := by decide +kernel
theorem d_R_writeRows_17 : decode c_R_writeRows 17 = .ok (.aload_n 0, 1) := by decide +kernel
theorem d_R_writeRows_18 : decode c_R_writeRows 18 = .ok (.getfield 44, 3) := by decide +kernel
theorem d_R_writeRows_21 : decode c_R_writeRows 21 = .ok (.if_icmp .ge (89), 3) := by decide +kernel
theorem d_R_writeRows_24 : decode c_R_writeRows 24 = .ok (.aload_n 0, 1) := by decide +kernel
theorem d_R_writeRows_25 : decode c_R_writeRows 25 = .ok (.iload_n 1, 1) := by decide +kernel
theorem d_R_writeRows_26 : decode c_R_writeRows 26 = .ok (.iload_n 2, 1) := by decide +kernel
theorem d_R_writeRows_27 : decode c_R_writeRows 27 = .ok (.iload 5, 2) := by decide +kernel
theorem d_R_writeRows_29 : decode c_R_writeRows 29 = .ok (.invokevirtual 71, 3) := by decide +kernel
theorem d_R_writeRows_32 : decode c_R_writeRows 32 = .ok (.ifCond .lt (72), 3) := by decide +kernel
theorem d_R_writeRows_35 : decode c_R_writeRows 35 = .ok (.iconst (0), 1) := by decide +kernel
theorem d_R_writeRows_36 : decode c_R_writeRows 36 = .ok (.istore 6, 2) := by decide +kernel
theorem d_R_writeRows_38 : decode c_R_writeRows 38 = .ok (.iload 6, 2) := by decide +kernel
theorem d_R_writeRows_40 : decode c_R_writeRows 40 = .ok (.aload_n 0, 1) := by decide +kernel
theorem d_R_writeRows_41 : decode c_R_writeRows 41 = .ok (.getfield 44, 3) := by decide +kernel
theorem d_R_writeRows_44 : decode c_R_writeRows 44 = .ok (.if_icmp .ge (29), 3) := by decide +kernel
theorem d_R_writeRows_47 : decode c_R_writeRows 47 = .ok (.aload_n 0, 1) := by decide +kernel
theorem d_R_writeRows_48 : decode c_R_writeRows 48 = .ok (.getfield 41, 3) := by decide +kernel
theorem d_R_writeRows_51 : decode c_R_writeRows 51 = .ok (.iconst (5), 1) := by decide +kernel
theorem d_R_writeRows_52 : decode c_R_writeRows 52 = .ok (.iload 4, 2) := by decide +kernel
theorem d_R_writeRows_54 : decode c_R_writeRows 54 = .ok (.imul, 1) := by decide +kernel
theorem d_R_writeRows_55 : decode c_R_writeRows 55 = .ok (.iload 6, 2) := by decide +kernel
theorem d_R_writeRows_57 : decode c_R_writeRows 57 = .ok (.iadd, 1) := by decide +kernel
theorem d_R_writeRows_58 : decode c_R_writeRows 58 = .ok (.aload_n 0, 1) := by decide +kernel
theorem d_R_writeRows_59 : decode c_R_writeRows 59 = .ok (.iload 5, 2) := by decide +kernel
theorem d_R_writeRows_61 : decode c_R_writeRows 61 = .ok (.iload 6, 2) := by decide +kernel
theorem d_R_writeRows_63 : decode c_R_writeRows 63 = .ok (.invokevirtual 75, 3) := by decide +kernel
theorem d_R_writeRows_66 : decode c_R_writeRows 66 = .ok (.iastore, 1) := by decide +kernel
theorem d_R_writeRows_67 : decode c_R_writeRows 67 = .ok (.iinc 6 (1), 3) := by decide +kernel
theorem d_R_writeRows_70 : decode c_R_writeRows 70 = .ok (.goto (-32), 3) := by decide +kernel
theorem d_R_writeRows_73 : decode c_R_writeRows 73 = .ok (.aload_n 0, 1) := by decide +kernel
theorem d_R_writeRows_74 : decode c_R_writeRows 74 = .ok (.getfield 41, 3) := by decide +kernel
theorem d_R_writeRows_77 : decode c_R_writeRows 77 = .ok (.iconst (5), 1) := by decide +kernel
theorem d_R_writeRows_78 : decode c_R_writeRows 78 = .ok (.iload 4, 2) := by decide +kernel
theorem d_R_writeRows_80 : decode c_R_writeRows 80 = .ok (.imul, 1) := by decide +kernel
theorem d_R_writeRows_81 : decode c_R_writeRows 81 = .ok (.iconst (4), 1) := by decide +kernel
theorem d_R_writeRows_82 : decode c_R_writeRows 82 = .ok (.iadd, 1) := by decide +kernel
theorem d_R_writeRows_83 : decode c_R_writeRows 83 = .ok (.aload_n 0, 1) := by decide +kernel
theorem d_R_writeRows_84 : decode c_R_writeRows 84 = .ok (.getfield 20, 3) := by decide +kernel
theorem d_R_writeRows_87 : decode c_R_writeRows 87 = .ok (.iconst (4), 1) := by decide +kernel
theorem d_R_writeRows_88 : decode c_R_writeRows 88 = .ok (.aload_n 0, 1) := by decide +kernel
theorem d_R_writeRows_89 : decode c_R_writeRows 89 = .ok (.iload_n 1, 1) := by decide +kernel
theorem d_R_writeRows_90 : decode c_R_writeRows 90 = .ok (.iload_n 2, 1) := by decide +kernel
theorem d_R_writeRows_91 : decode c_R_writeRows 91 = .ok (.iload 5, 2) := by decide +kernel
theorem d_R_writeRows_93 : decode c_R_writeRows 93 = .ok (.invokevirtual 71, 3) := by decide +kernel
theorem d_R_writeRows_96 : decode c_R_writeRows 96 = .ok (.imul, 1) := by decide +kernel
theorem d_R_writeRows_97 : decode c_R_writeRows 97 = .ok (.iload_n 3, 1) := by decide +kernel
theorem d_R_writeRows_98 : decode c_R_writeRows 98 = .ok (.iadd, 1) := by decide +kernel
theorem d_R_writeRows_99 : decode c_R_writeRows 99 = .ok (.iaload, 1) := by decide +kernel
theorem d_R_writeRows_100 : decode c_R_writeRows 100 = .ok (.iastore, 1) := by decide +kernel
theorem d_R_writeRows_101 : decode c_R_writeRows 101 = .ok (.iinc 4 (1), 3) := by decide +kernel
theorem d_R_writeRows_104 : decode c_R_writeRows 104 = .ok (.iinc 5 (1), 3) := by decide +kernel
theorem d_R_writeRows_107 : decode c_R_writeRows 107 = .ok (.goto (-101), 3) := by decide +kernel
theorem d_R_writeRows_110 : decode c_R_writeRows 110 = .ok (.return_, 1) := by decide +kernel
theorem d_R_solve_0 : decode c_R_solve 0 = .ok (.iconst (0), 1) := by decide +kernel
theorem d_R_solve_1 : decode c_R_solve 1 = .ok (.istore_n 1, 1) := by decide +kernel
theorem d_R_solve_2 : decode c_R_solve 2 = .ok (.iload_n 1, 1) := by decide +kernel
theorem d_R_solve_3 : decode c_R_solve 3 = .ok (.aload_n 0, 1) := by decide +kernel
theorem d_R_solve_4 : decode c_R_solve 4 = .ok (.getfield 44, 3) := by decide +kernel
theorem d_R_solve_7 : decode c_R_solve 7 = .ok (.if_icmp .ge (208), 3) := by decide +kernel
theorem d_R_solve_10 : decode c_R_solve 10 = .ok (.iload_n 1, 1) := by decide +kernel
theorem d_R_solve_11 : decode c_R_solve 11 = .ok (.istore_n 2, 1) := by decide +kernel
theorem d_R_solve_12 : decode c_R_solve 12 = .ok (.aload_n 0, 1) := by decide +kernel
theorem d_R_solve_13 : decode c_R_solve 13 = .ok (.getfield 41, 3) := by decide +kernel
theorem d_R_solve_16 : decode c_R_solve 16 = .ok (.iconst (5), 1) := by decide +kernel
theorem d_R_solve_17 : decode c_R_solve 17 = .ok (.iload_n 2, 1) := by decide +kernel
theorem d_R_solve_18 : decode c_R_solve 18 = .ok (.imul, 1) := by decide +kernel
theorem d_R_solve_19 : decode c_R_solve 19 = .ok (.iload_n 1, 1) := by decide +kernel
theorem d_R_solve_20 : decode c_R_solve 20 = .ok (.iadd, 1) := by decide +kernel
theorem d_R_solve_21 : decode c_R_solve 21 = .ok (.iaload, 1) := by decide +kernel
theorem d_R_solve_22 : decode c_R_solve 22 = .ok (.ifCond .ne (9), 3) := by decide +kernel
theorem d_R_solve_25 : decode c_R_solve 25 = .ok (.iinc 2 (1), 3) := by decide +kernel
theorem d_R_solve_28 : decode c_R_solve 28 = .ok (.goto (-16), 3) := by decide +kernel
theorem d_R_solve_31 : decode c_R_solve 31 = .ok (.aload_n 0, 1) := by decide +kernel
theorem d_R_solve_32 : decode c_R_solve 32 = .ok (.getfield 41, 3) := by decide +kernel
theorem d_R_solve_35 : decode c_R_solve 35 = .ok (.iconst (5), 1) := by decide +kernel
theorem d_R_solve_36 : decode c_R_solve 36 = .ok (.iload_n 2, 1) := by decide +kernel
theorem d_R_solve_37 : decode c_R_solve 37 = .ok (.imul, 1) := by decide +kernel
theorem d_R_solve_38 : decode c_R_solve 38 = .ok (.iload_n 1, 1) := by decide +kernel
theorem d_R_solve_39 : decode c_R_solve 39 = .ok (.iadd, 1) := by decide +kernel
theorem d_R_solve_40 : decode c_R_solve 40 = .ok (.iaload, 1) := by decide +kernel
theorem d_R_solve_41 : decode c_R_solve 41 = .ok (.invokestatic 55, 3) := by decide +kernel
theorem d_R_solve_44 : decode c_R_solve 44 = .ok (.istore_n 3, 1) := by decide +kernel
theorem d_R_solve_45 : decode c_R_solve 45 = .ok (.iconst (0), 1) := by decide +kernel
theorem d_R_solve_46 : decode c_R_solve 46 = .ok (.istore 4, 2) := by decide +kernel
theorem d_R_solve_48 : decode c_R_solve 48 = .ok (.iload 4, 2) := by decide +kernel
theorem d_R_solve_50 : decode c_R_solve 50 = .ok (.iconst (5), 1) := by decide +kernel
theorem d_R_solve_51 : decode c_R_solve 51 = .ok (.if_icmp .ge (61), 3) := by decide +kernel
theorem d_R_solve_54 : decode c_R_solve 54 = .ok (.iload_n 3, 1) := by decide +kernel
theorem d_R_solve_55 : decode c_R_solve 55 = .ok (.aload_n 0, 1) := by decide +kernel
theorem d_R_solve_56 : decode c_R_solve 56 = .ok (.getfield 41, 3) := by decide +kernel
theorem d_R_solve_59 : decode c_R_solve 59 = .ok (.iconst (5), 1) := by decide +kernel
theorem d_R_solve_60 : decode c_R_solve 60 = .ok (.iload_n 2, 1) := by decide +kernel
theorem d_R_solve_61 : decode c_R_solve 61 = .ok (.imul, 1) := by decide +kernel
theorem d_R_solve_62 : decode c_R_solve 62 = .ok (.iload 4, 2) := by decide +kernel
theorem d_R_solve_64 : decode c_R_solve 64 = .ok (.iadd, 1) := by decide +kernel
theorem d_R_solve_65 : decode c_R_solve 65 = .ok (.iaload, 1) := by decide +kernel
theorem d_R_solve_66 : decode c_R_solve 66 = .ok (.invokestatic 67, 3) := by decide +kernel
theorem d_R_solve_69 : decode c_R_solve 69 = .ok (.istore 5, 2) := by decide +kernel
theorem d_R_solve_71 : decode c_R_solve 71 = .ok (.aload_n 0, 1) := by decide +kernel
theorem d_R_solve_72 : decode c_R_solve 72 = .ok (.getfield 41, 3) := by decide +kernel
theorem d_R_solve_75 : decode c_R_solve 75 = .ok (.iconst (5), 1) := by decide +kernel
theorem d_R_solve_76 : decode c_R_solve 76 = .ok (.iload_n 2, 1) := by decide +kernel
theorem d_R_solve_77 : decode c_R_solve 77 = .ok (.imul, 1) := by decide +kernel
theorem d_R_solve_78 : decode c_R_solve 78 = .ok (.iload 4, 2) := by decide +kernel
theorem d_R_solve_80 : decode c_R_solve 80 = .ok (.iadd, 1) := by decide +kernel
theorem d_R_solve_81 : decode c_R_solve 81 = .ok (.aload_n 0, 1) := by decide +kernel
theorem d_R_solve_82 : decode c_R_solve 82 = .ok (.getfield 41, 3) := by decide +kernel
theorem d_R_solve_85 : decode c_R_solve 85 = .ok (.iconst (5), 1) := by decide +kernel
theorem d_R_solve_86 : decode c_R_solve 86 = .ok (.iload_n 1, 1) := by decide +kernel
theorem d_R_solve_87 : decode c_R_solve 87 = .ok (.imul, 1) := by decide +kernel
theorem d_R_solve_88 : decode c_R_solve 88 = .ok (.iload 4, 2) := by decide +kernel
theorem d_R_solve_90 : decode c_R_solve 90 = .ok (.iadd, 1) := by decide +kernel
theorem d_R_solve_91 : decode c_R_solve 91 = .ok (.iaload, 1) := by decide +kernel
theorem d_R_solve_92 : decode c_R_solve 92 = .ok (.iastore, 1) := by decide +kernel
theorem d_R_solve_93 : decode c_R_solve 93 = .ok (.aload_n 0, 1) := by decide +kernel
theorem d_R_solve_94 : decode c_R_solve 94 = .ok (.getfield 41, 3) := by decide +kernel
theorem d_R_solve_97 : decode c_R_solve 97 = .ok (.iconst (5), 1) := by decide +kernel
theorem d_R_solve_98 : decode c_R_solve 98 = .ok (.iload_n 1, 1) := by decide +kernel
theorem d_R_solve_99 : decode c_R_solve 99 = .ok (.imul, 1) := by decide +kernel
theorem d_R_solve_100 : decode c_R_solve 100 = .ok (.iload 4, 2) := by decide +kernel
theorem d_R_solve_102 : decode c_R_solve 102 = .ok (.iadd, 1) := by decide +kernel
theorem d_R_solve_103 : decode c_R_solve 103 = .ok (.iload 5, 2) := by decide +kernel
theorem d_R_solve_105 : decode c_R_solve 105 = .ok (.iastore, 1) := by decide +kernel
theorem d_R_solve_106 : decode c_R_solve 106 = .ok (.iinc 4 (1), 3) := by decide +kernel
theorem d_R_solve_109 : decode c_R_solve 109 = .ok (.goto (-61), 3) := by decide +kernel
theorem d_R_solve_112 : decode c_R_solve 112 = .ok (.iconst (0), 1) := by decide +kernel
theorem d_R_solve_113 : decode c_R_solve 113 = .ok (.istore 4, 2) := by decide +kernel
theorem d_R_solve_115 : decode c_R_solve 115 = .ok (.iload 4, 2) := by decide +kernel
theorem d_R_solve_117 : decode c_R_solve 117 = .ok (.aload_n 0, 1) := by decide +kernel
theorem d_R_solve_118 : decode c_R_solve 118 = .ok (.getfield 44, 3) := by decide +kernel
theorem d_R_solve_121 : decode c_R_solve 121 = .ok (.if_icmp .ge (88), 3) := by decide +kernel
theorem d_R_solve_124 : decode c_R_solve 124 = .ok (.iload 4, 2) := by decide +kernel
theorem d_R_solve_126 : decode c_R_solve 126 = .ok (.iload_n 1, 1) := by decide +kernel
theorem d_R_solve_127 : decode c_R_solve 127 = .ok (.if_icmp .ne (7), 3) := by decide +kernel
theorem d_R_solve_130 : decode c_R_solve 130 = .ok (.iconst (0), 1) := by decide +kernel
theorem d_R_solve_131 : decode c_R_solve 131 = .ok (.goto (14), 3) := by decide +kernel
theorem d_R_solve_134 : decode c_R_solve 134 = .ok (.aload_n 0, 1) := by decide +kernel
theorem d_R_solve_135 : decode c_R_solve 135 = .ok (.getfield 41, 3) := by decide +kernel
theorem d_R_solve_138 : decode c_R_solve 138 = .ok (.iconst (5), 1) := by decide +kernel
theorem d_R_solve_139 : decode c_R_solve 139 = .ok (.iload 4, 2) := by decide +kernel
theorem d_R_solve_141 : decode c_R_solve 141 = .ok (.imul, 1) := by decide +kernel
theorem d_R_solve_142 : decode c_R_solve 142 = .ok (.iload_n 1, 1) := by decide +kernel
theorem d_R_solve_143 : decode c_R_solve 143 = .ok (.iadd, 1) := by decide +kernel
theorem d_R_solve_144 : decode c_R_solve 144 = .ok (.iaload, 1) := by decide +kernel
theorem d_R_solve_145 : decode c_R_solve 145 = .ok (.istore 5, 2) := by decide +kernel
theorem d_R_solve_147 : decode c_R_solve 147 = .ok (.iconst (0), 1) := by decide +kernel
theorem d_R_solve_148 : decode c_R_solve 148 = .ok (.istore 6, 2) := by decide +kernel
theorem d_R_solve_150 : decode c_R_solve 150 = .ok (.iload 6, 2) := by decide +kernel
theorem d_R_solve_152 : decode c_R_solve 152 = .ok (.iconst (5), 1) := by decide +kernel
theorem d_R_solve_153 : decode c_R_solve 153 = .ok (.if_icmp .ge (50), 3) := by decide +kernel
theorem d_R_solve_156 : decode c_R_solve 156 = .ok (.aload_n 0, 1) := by decide +kernel
theorem d_R_solve_157 : decode c_R_solve 157 = .ok (.getfield 41, 3) := by decide +kernel
theorem d_R_solve_160 : decode c_R_solve 160 = .ok (.iconst (5), 1) := by decide +kernel
theorem d_R_solve_161 : decode c_R_solve 161 = .ok (.iload 4, 2) := by decide +kernel
theorem d_R_solve_163 : decode c_R_solve 163 = .ok (.imul, 1) := by decide +kernel
theorem d_R_solve_164 : decode c_R_solve 164 = .ok (.iload 6, 2) := by decide +kernel
theorem d_R_solve_166 : decode c_R_solve 166 = .ok (.iadd, 1) := by decide +kernel
theorem d_R_solve_167 : decode c_R_solve 167 = .ok (.aload_n 0, 1) := by decide +kernel
theorem d_R_solve_168 : decode c_R_solve 168 = .ok (.getfield 41, 3) := by decide +kernel
theorem d_R_solve_171 : decode c_R_solve 171 = .ok (.iconst (5), 1) := by decide +kernel
theorem d_R_solve_172 : decode c_R_solve 172 = .ok (.iload 4, 2) := by decide +kernel
theorem d_R_solve_174 : decode c_R_solve 174 = .ok (.imul, 1) := by decide +kernel
theorem d_R_solve_175 : decode c_R_solve 175 = .ok (.iload 6, 2) := by decide +kernel
theorem d_R_solve_177 : decode c_R_solve 177 = .ok (.iadd, 1) := by decide +kernel
theorem d_R_solve_178 : decode c_R_solve 178 = .ok (.iaload, 1) := by decide +kernel
theorem d_R_solve_179 : decode c_R_solve 179 = .ok (.iload 5, 2) := by decide +kernel
theorem d_R_solve_181 : decode c_R_solve 181 = .ok (.aload_n 0, 1) := by decide +kernel
theorem d_R_solve_182 : decode c_R_solve 182 = .ok (.getfield 41, 3) := by decide +kernel
theorem d_R_solve_185 : decode c_R_solve 185 = .ok (.iconst (5), 1) := by decide +kernel
theorem d_R_solve_186 : decode c_R_solve 186 = .ok (.iload_n 1, 1) := by decide +kernel
theorem d_R_solve_187 : decode c_R_solve 187 = .ok (.imul, 1) := by decide +kernel
theorem d_R_solve_188 : decode c_R_solve 188 = .ok (.iload 6, 2) := by decide +kernel
theorem d_R_solve_190 : decode c_R_solve 190 = .ok (.iadd, 1) := by decide +kernel
theorem d_R_solve_191 : decode c_R_solve 191 = .ok (.iaload, 1) := by decide +kernel
theorem d_R_solve_192 : decode c_R_solve 192 = .ok (.invokestatic 67, 3) := by decide +kernel
theorem d_R_solve_195 : decode c_R_solve 195 = .ok (.ixor, 1) := by decide +kernel
theorem d_R_solve_196 : decode c_R_solve 196 = .ok (.iastore, 1) := by decide +kernel
theorem d_R_solve_197 : decode c_R_solve 197 = .ok (.iinc 6 (1), 3) := by decide +kernel
theorem d_R_solve_200 : decode c_R_solve 200 = .ok (.goto (-50), 3) := by decide +kernel
theorem d_R_solve_203 : decode c_R_solve 203 = .ok (.iinc 4 (1), 3) := by decide +kernel
theorem d_R_solve_206 : decode c_R_solve 206 = .ok (.goto (-91), 3) := by decide +kernel
theorem d_R_solve_209 : decode c_R_solve 209 = .ok (.iinc 1 (1), 3) := by decide +kernel
theorem d_R_solve_212 : decode c_R_solve 212 = .ok (.goto (-210), 3) := by decide +kernel
theorem d_R_solve_215 : decode c_R_solve 215 = .ok (.return_, 1) := by decide +kernel
theorem d_R_readStripe_0 : decode c_R_readStripe 0 = .ok (.iconst (0), 1) := by decide +kernel
theorem d_R_readStripe_1 : decode c_R_readStripe 1 = .ok (.istore_n 3, 1) := by decide +kernel
theorem d_R_readStripe_2 : decode c_R_readStripe 2 = .ok (.iload_n 3, 1) := by decide +kernel
theorem d_R_readStripe_3 : decode c_R_readStripe 3 = .ok (.iconst (4), 1) := by decide +kernel
theorem d_R_readStripe_4 : decode c_R_readStripe 4 = .ok (.if_icmp .ge (60), 3) := by decide +kernel
theorem d_R_readStripe_7 : decode c_R_readStripe 7 = .ok (.aload_n 0, 1) := by decide +kernel
theorem d_R_readStripe_8 : decode c_R_readStripe 8 = .ok (.iload_n 1, 1) := by decide +kernel
theorem d_R_readStripe_9 : decode c_R_readStripe 9 = .ok (.iload_n 2, 1) := by decide +kernel
theorem d_R_readStripe_10 : decode c_R_readStripe 10 = .ok (.iload_n 3, 1) := by decide +kernel
theorem d_R_readStripe_11 : decode c_R_readStripe 11 = .ok (.invokevirtual 78, 3) := by decide +kernel
theorem d_R_readStripe_14 : decode c_R_readStripe 14 = .ok (.aload_n 0, 1) := by decide +kernel
theorem d_R_readStripe_15 : decode c_R_readStripe 15 = .ok (.invokevirtual 82, 3) := by decide +kernel
theorem d_R_readStripe_18 : decode c_R_readStripe 18 = .ok (.iconst (0), 1) := by decide +kernel
theorem d_R_readStripe_19 : decode c_R_readStripe 19 = .ok (.istore 4, 2) := by decide +kernel
theorem d_R_readStripe_21 : decode c_R_readStripe 21 = .ok (.iload 4, 2) := by decide +kernel
theorem d_R_readStripe_23 : decode c_R_readStripe 23 = .ok (.aload_n 0, 1) := by decide +kernel
theorem d_R_readStripe_24 : decode c_R_readStripe 24 = .ok (.getfield 44, 3) := by decide +kernel
theorem d_R_readStripe_27 : decode c_R_readStripe 27 = .ok (.if_icmp .ge (31), 3) := by decide +kernel
theorem d_R_readStripe_30 : decode c_R_readStripe 30 = .ok (.aload_n 0, 1) := by decide +kernel
theorem d_R_readStripe_31 : decode c_R_readStripe 31 = .ok (.getfield 38, 3) := by decide +kernel
theorem d_R_readStripe_34 : decode c_R_readStripe 34 = .ok (.iconst (4), 1) := by decide +kernel
theorem d_R_readStripe_35 : decode c_R_readStripe 35 = .ok (.iload 4, 2) := by decide +kernel
theorem d_R_readStripe_37 : decode c_R_readStripe 37 = .ok (.imul, 1) := by decide +kernel
theorem d_R_readStripe_38 : decode c_R_readStripe 38 = .ok (.iload_n 3, 1) := by decide +kernel
theorem d_R_readStripe_39 : decode c_R_readStripe 39 = .ok (.iadd, 1) := by decide +kernel
theorem d_R_readStripe_40 : decode c_R_readStripe 40 = .ok (.aload_n 0, 1) := by decide +kernel
theorem d_R_readStripe_41 : decode c_R_readStripe 41 = .ok (.getfield 41, 3) := by decide +kernel
theorem d_R_readStripe_44 : decode c_R_readStripe 44 = .ok (.iconst (5), 1) := by decide +kernel
theorem d_R_readStripe_45 : decode c_R_readStripe 45 = .ok (.iload 4, 2) := by decide +kernel
theorem d_R_readStripe_47 : decode c_R_readStripe 47 = .ok (.imul, 1) := by decide +kernel
theorem d_R_readStripe_48 : decode c_R_readStripe 48 = .ok (.iconst (4), 1) := by decide +kernel
theorem d_R_readStripe_49 : decode c_R_readStripe 49 = .ok (.iadd, 1) := by decide +kernel
theorem d_R_readStripe_50 : decode c_R_readStripe 50 = .ok (.iaload, 1) := by decide +kernel
theorem d_R_readStripe_51 : decode c_R_readStripe 51 = .ok (.iastore, 1) := by decide +kernel
theorem d_R_readStripe_52 : decode c_R_readStripe 52 = .ok (.iinc 4 (1), 3) := by decide +kernel
theorem d_R_readStripe_55 : decode c_R_readStripe 55 = .ok (.goto (-34), 3) := by decide +kernel
theorem d_R_readStripe_58 : decode c_R_readStripe 58 = .ok (.iinc 3 (1), 3) := by decide +kernel
theorem d_R_readStripe_61 : decode c_R_readStripe 61 = .ok (.goto (-59), 3) := by decide +kernel
theorem d_R_readStripe_64 : decode c_R_readStripe 64 = .ok (.return_, 1) := by decide +kernel
theorem d_R_free_0 : decode c_R_free 0 = .ok (.iconst (0), 1) := by decide +kernel
theorem d_R_free_1 : decode c_R_free 1 = .ok (.istore_n 2, 1) := by decide +kernel
theorem d_R_free_2 : decode c_R_free 2 = .ok (.iconst (0), 1) := by decide +kernel
theorem d_R_free_3 : decode c_R_free 3 = .ok (.istore_n 3, 1) := by decide +kernel
theorem d_R_free_4 : decode c_R_free 4 = .ok (.iload_n 3, 1) := by decide +kernel
theorem d_R_free_5 : decode c_R_free 5 = .ok (.bipush (10), 2) := by decide +kernel
theorem d_R_free_7 : decode c_R_free 7 = .ok (.if_icmp .ge (31), 3) := by decide +kernel
theorem d_R_free_10 : decode c_R_free 10 = .ok (.aload_n 0, 1) := by decide +kernel
theorem d_R_free_11 : decode c_R_free 11 = .ok (.getfield 17, 3) := by decide +kernel
theorem d_R_free_14 : decode c_R_free 14 = .ok (.bipush (10), 2) := by decide +kernel
theorem d_R_free_16 : decode c_R_free 16 = .ok (.iload_n 1, 1) := by decide +kernel
theorem d_R_free_17 : decode c_R_free 17 = .ok (.imul, 1) := by decide +kernel
theorem d_R_free_18 : decode c_R_free 18 = .ok (.iload_n 3, 1) := by decide +kernel
theorem d_R_free_19 : decode c_R_free 19 = .ok (.iadd, 1) := by decide +kernel
theorem d_R_free_20 : decode c_R_free 20 = .ok (.baload, 1) := by decide +kernel
theorem d_R_free_21 : decode c_R_free 21 = .ok (.ifCond .eq (7), 3) := by decide +kernel
theorem d_R_free_24 : decode c_R_free 24 = .ok (.iload_n 2, 1) := by decide +kernel
theorem d_R_free_25 : decode c_R_free 25 = .ok (.goto (6), 3) := by decide +kernel
theorem d_R_free_28 : decode c_R_free 28 = .ok (.iload_n 2, 1) := by decide +kernel
theorem d_R_free_29 : decode c_R_free 29 = .ok (.iconst (1), 1) := by decide +kernel
theorem d_R_free_30 : decode c_R_free 30 = .ok (.iadd, 1) := by decide +kernel
theorem d_R_free_31 : decode c_R_free 31 = .ok (.istore_n 2, 1) := by decide +kernel
theorem d_R_free_32 : decode c_R_free 32 = .ok (.iinc 3 (1), 3) := by decide +kernel
theorem d_R_free_35 : decode c_R_free 35 = .ok (.goto (-31), 3) := by decide +kernel
theorem d_R_free_38 : decode c_R_free 38 = .ok (.aload_n 0, 1) := by decide +kernel
theorem d_R_free_39 : decode c_R_free 39 = .ok (.getfield 13, 3) := by decide +kernel
theorem d_R_free_42 : decode c_R_free 42 = .ok (.iload_n 1, 1) := by decide +kernel
theorem d_R_free_43 : decode c_R_free 43 = .ok (.baload, 1) := by decide +kernel
theorem d_R_free_44 : decode c_R_free 44 = .ok (.ifCond .eq (7), 3) := by decide +kernel
theorem d_R_free_47 : decode c_R_free 47 = .ok (.iload_n 2, 1) := by decide +kernel
theorem d_R_free_48 : decode c_R_free 48 = .ok (.goto (4), 3) := by decide +kernel
theorem d_R_free_51 : decode c_R_free 51 = .ok (.iconst (0), 1) := by decide +kernel
theorem d_R_free_52 : decode c_R_free 52 = .ok (.ireturn, 1) := by decide +kernel
theorem d_R_slotFor_0 : decode c_R_slotFor 0 = .ok (.iconst (-1), 1) := by decide +kernel
theorem d_R_slotFor_1 : decode c_R_slotFor 1 = .ok (.istore_n 3, 1) := by decide +kernel
theorem d_R_slotFor_2 : decode c_R_slotFor 2 = .ok (.iconst (0), 1) := by decide +kernel
theorem d_R_slotFor_3 : decode c_R_slotFor 3 = .ok (.istore 4, 2) := by decide +kernel
theorem d_R_slotFor_5 : decode c_R_slotFor 5 = .ok (.iload 4, 2) := by decide +kernel
theorem d_R_slotFor_7 : decode c_R_slotFor 7 = .ok (.bipush (8), 2) := by decide +kernel
theorem d_R_slotFor_9 : decode c_R_slotFor 9 = .ok (.if_icmp .ge (112), 3) := by decide +kernel
theorem d_R_slotFor_12 : decode c_R_slotFor 12 = .ok (.aload_n 0, 1) := by decide +kernel
theorem d_R_slotFor_13 : decode c_R_slotFor 13 = .ok (.iload 4, 2) := by decide +kernel
theorem d_R_slotFor_15 : decode c_R_slotFor 15 = .ok (.invokevirtual 85, 3) := by decide +kernel
theorem d_R_slotFor_18 : decode c_R_slotFor 18 = .ok (.ifCond .le (7), 3) := by decide +kernel
theorem d_R_slotFor_21 : decode c_R_slotFor 21 = .ok (.iconst (1), 1) := by decide +kernel
theorem d_R_slotFor_22 : decode c_R_slotFor 22 = .ok (.goto (4), 3) := by decide +kernel
theorem d_R_slotFor_25 : decode c_R_slotFor 25 = .ok (.iconst (0), 1) := by decide +kernel
theorem d_R_slotFor_26 : decode c_R_slotFor 26 = .ok (.istore 5, 2) := by decide +kernel
theorem d_R_slotFor_28 : decode c_R_slotFor 28 = .ok (.iconst (0), 1) := by decide +kernel
theorem d_R_slotFor_29 : decode c_R_slotFor 29 = .ok (.istore 6, 2) := by decide +kernel
theorem d_R_slotFor_31 : decode c_R_slotFor 31 = .ok (.iload 6, 2) := by decide +kernel
theorem d_R_slotFor_33 : decode c_R_slotFor 33 = .ok (.aload_n 0, 1) := by decide +kernel
theorem d_R_slotFor_34 : decode c_R_slotFor 34 = .ok (.invokevirtual 51, 3) := by decide +kernel
theorem d_R_slotFor_37 : decode c_R_slotFor 37 = .ok (.if_icmp .ge (48), 3) := by decide +kernel
theorem d_R_slotFor_40 : decode c_R_slotFor 40 = .ok (.iload 5, 2) := by decide +kernel
theorem d_R_slotFor_42 : decode c_R_slotFor 42 = .ok (.ifCond .eq (34), 3) := by decide +kernel
theorem d_R_slotFor_45 : decode c_R_slotFor 45 = .ok (.aload_n 0, 1) := by decide +kernel
theorem d_R_slotFor_46 : decode c_R_slotFor 46 = .ok (.iload_n 1, 1) := by decide +kernel
theorem d_R_slotFor_47 : decode c_R_slotFor 47 = .ok (.iload_n 2, 1) := by decide +kernel
theorem d_R_slotFor_48 : decode c_R_slotFor 48 = .ok (.iload 6, 2) := by decide +kernel
theorem d_R_slotFor_50 : decode c_R_slotFor 50 = .ok (.invokevirtual 71, 3) := by decide +kernel
theorem d_R_slotFor_53 : decode c_R_slotFor 53 = .ok (.ifCond .lt (19), 3) := by decide +kernel
theorem d_R_slotFor_56 : decode c_R_slotFor 56 = .ok (.aload_n 0, 1) := by decide +kernel
theorem d_R_slotFor_57 : decode c_R_slotFor 57 = .ok (.iload_n 1, 1) := by decide +kernel
theorem d_R_slotFor_58 : decode c_R_slotFor 58 = .ok (.iload_n 2, 1) := by decide +kernel
theorem d_R_slotFor_59 : decode c_R_slotFor 59 = .ok (.iload 6, 2) := by decide +kernel
theorem d_R_slotFor_61 : decode c_R_slotFor 61 = .ok (.invokevirtual 71, 3) := by decide +kernel
theorem d_R_slotFor_64 : decode c_R_slotFor 64 = .ok (.bipush (10), 2) := by decide +kernel
theorem d_R_slotFor_66 : decode c_R_slotFor 66 = .ok (.idiv, 1) := by decide +kernel
theorem d_R_slotFor_67 : decode c_R_slotFor 67 = .ok (.iload 4, 2) := by decide +kernel
theorem d_R_slotFor_69 : decode c_R_slotFor 69 = .ok (.if_icmp .eq (7), 3) := by decide +kernel
theorem d_R_slotFor_72 : decode c_R_slotFor 72 = .ok (.iconst (1), 1) := by decide +kernel
theorem d_R_slotFor_73 : decode c_R_slotFor 73 = .ok (.goto (4), 3) := by decide +kernel
theorem d_R_slotFor_76 : decode c_R_slotFor 76 = .ok (.iconst (0), 1) := by decide +kernel
theorem d_R_slotFor_77 : decode c_R_slotFor 77 = .ok (.istore 5, 2) := by decide +kernel
theorem d_R_slotFor_79 : decode c_R_slotFor 79 = .ok (.iinc 6 (1), 3) := by decide +kernel
theorem d_R_slotFor_82 : decode c_R_slotFor 82 = .ok (.goto (-51), 3) := by decide +kernel
theorem d_R_slotFor_85 : decode c_R_slotFor 85 = .ok (.iload 5, 2) := by decide +kernel
theorem d_R_slotFor_87 : decode c_R_slotFor 87 = .ok (.ifCond .eq (26), 3) := by decide +kernel
theorem d_R_slotFor_90 : decode c_R_slotFor 90 = .ok (.iload_n 3, 1) := by decide +kernel
theorem d_R_slotFor_91 : decode c_R_slotFor 91 = .ok (.ifCond .lt (17), 3) := by decide +kernel
theorem d_R_slotFor_94 : decode c_R_slotFor 94 = .ok (.aload_n 0, 1) := by decide +kernel
theorem d_R_slotFor_95 : decode c_R_slotFor 95 = .ok (.iload 4, 2) := by decide +kernel
theorem d_R_slotFor_97 : decode c_R_slotFor 97 = .ok (.invokevirtual 85, 3) := by decide +kernel
theorem d_R_slotFor_100 : decode c_R_slotFor 100 = .ok (.aload_n 0, 1) := by decide +kernel
theorem d_R_slotFor_101 : decode c_R_slotFor 101 = .ok (.iload_n 3, 1) := by decide +kernel
theorem d_R_slotFor_102 : decode c_R_slotFor 102 = .ok (.invokevirtual 85, 3) := by decide +kernel
theorem d_R_slotFor_105 : decode c_R_slotFor 105 = .ok (.if_icmp .le (8), 3) := by decide +kernel
theorem d_R_slotFor_108 : decode c_R_slotFor 108 = .ok (.iload 4, 2) := by decide +kernel
theorem d_R_slotFor_110 : decode c_R_slotFor 110 = .ok (.goto (4), 3) := by decide +kernel
theorem d_R_slotFor_113 : decode c_R_slotFor 113 = .ok (.iload_n 3, 1) := by decide +kernel
theorem d_R_slotFor_114 : decode c_R_slotFor 114 = .ok (.istore_n 3, 1) := by decide +kernel
theorem d_R_slotFor_115 : decode c_R_slotFor 115 = .ok (.iinc 4 (1), 3) := by decide +kernel
theorem d_R_slotFor_118 : decode c_R_slotFor 118 = .ok (.goto (-113), 3) := by decide +kernel
theorem d_R_slotFor_121 : decode c_R_slotFor 121 = .ok (.iload_n 3, 1) := by decide +kernel
theorem d_R_slotFor_122 : decode c_R_slotFor 122 = .ok (.ifCond .ge (5), 3) := by decide +kernel
theorem d_R_slotFor_125 : decode c_R_slotFor 125 = .ok (.iconst (-1), 1) := by decide +kernel
theorem d_R_slotFor_126 : decode c_R_slotFor 126 = .ok (.ireturn, 1) := by decide +kernel
theorem d_R_slotFor_127 : decode c_R_slotFor 127 = .ok (.bipush (10), 2) := by decide +kernel
theorem d_R_slotFor_129 : decode c_R_slotFor 129 = .ok (.iload_n 3, 1) := by decide +kernel
theorem d_R_slotFor_130 : decode c_R_slotFor 130 = .ok (.imul, 1) := by decide +kernel
theorem d_R_slotFor_131 : decode c_R_slotFor 131 = .ok (.istore 4, 2) := by decide +kernel
theorem d_R_slotFor_133 : decode c_R_slotFor 133 = .ok (.aload_n 0, 1) := by decide +kernel
theorem d_R_slotFor_134 : decode c_R_slotFor 134 = .ok (.getfield 17, 3) := by decide +kernel
theorem d_R_slotFor_137 : decode c_R_slotFor 137 = .ok (.iload 4, 2) := by decide +kernel
theorem d_R_slotFor_139 : decode c_R_slotFor 139 = .ok (.baload, 1) := by decide +kernel
theorem d_R_slotFor_140 : decode c_R_slotFor 140 = .ok (.ifCond .eq (9), 3) := by decide +kernel
theorem d_R_slotFor_143 : decode c_R_slotFor 143 = .ok (.iinc 4 (1), 3) := by decide +kernel
theorem d_R_slotFor_146 : decode c_R_slotFor 146 = .ok (.goto (-13), 3) := by decide +kernel
theorem d_R_slotFor_149 : decode c_R_slotFor 149 = .ok (.iload 4, 2) := by decide +kernel
theorem d_R_slotFor_151 : decode c_R_slotFor 151 = .ok (.ireturn, 1) := by decide +kernel
theorem d_R_lay_0 : decode c_R_lay 0 = .ok (.aload_n 0, 1) := by decide +kernel
theorem d_R_lay_1 : decode c_R_lay 1 = .ok (.iload_n 1, 1) := by decide +kernel
theorem d_R_lay_2 : decode c_R_lay 2 = .ok (.iload_n 2, 1) := by decide +kernel
theorem d_R_lay_3 : decode c_R_lay 3 = .ok (.invokevirtual 88, 3) := by decide +kernel
theorem d_R_lay_6 : decode c_R_lay 6 = .ok (.istore 4, 2) := by decide +kernel
theorem d_R_lay_8 : decode c_R_lay 8 = .ok (.iload 4, 2) := by decide +kernel
theorem d_R_lay_10 : decode c_R_lay 10 = .ok (.ifCond .ge (5), 3) := by decide +kernel
theorem d_R_lay_13 : decode c_R_lay 13 = .ok (.iconst (0), 1) := by decide +kernel
theorem d_R_lay_14 : decode c_R_lay 14 = .ok (.ireturn, 1) := by decide +kernel
theorem d_R_lay_15 : decode c_R_lay 15 = .ok (.aload_n 0, 1) := by decide +kernel
theorem d_R_lay_16 : decode c_R_lay 16 = .ok (.getfield 17, 3) := by decide +kernel
theorem d_R_lay_19 : decode c_R_lay 19 = .ok (.iload 4, 2) := by decide +kernel
theorem d_R_lay_21 : decode c_R_lay 21 = .ok (.iconst (1), 1) := by decide +kernel
theorem d_R_lay_22 : decode c_R_lay 22 = .ok (.bastore, 1) := by decide +kernel
theorem d_R_lay_23 : decode c_R_lay 23 = .ok (.aload_n 0, 1) := by decide +kernel
theorem d_R_lay_24 : decode c_R_lay 24 = .ok (.getfield 26, 3) := by decide +kernel
theorem d_R_lay_27 : decode c_R_lay 27 = .ok (.bipush (56), 2) := by decide +kernel
theorem d_R_lay_29 : decode c_R_lay 29 = .ok (.iload_n 1, 1) := by decide +kernel
theorem d_R_lay_30 : decode c_R_lay 30 = .ok (.imul, 1) := by decide +kernel
theorem d_R_lay_31 : decode c_R_lay 31 = .ok (.bipush (7), 2) := by decide +kernel
theorem d_R_lay_33 : decode c_R_lay 33 = .ok (.iload_n 2, 1) := by decide +kernel
theorem d_R_lay_34 : decode c_R_lay 34 = .ok (.imul, 1) := by decide +kernel
theorem d_R_lay_35 : decode c_R_lay 35 = .ok (.iadd, 1) := by decide +kernel
theorem d_R_lay_36 : decode c_R_lay 36 = .ok (.iload_n 3, 1) := by decide +kernel
theorem d_R_lay_37 : decode c_R_lay 37 = .ok (.iadd, 1) := by decide +kernel
theorem d_R_lay_38 : decode c_R_lay 38 = .ok (.iload 4, 2) := by decide +kernel
theorem d_R_lay_40 : decode c_R_lay 40 = .ok (.iastore, 1) := by decide +kernel
theorem d_R_lay_41 : decode c_R_lay 41 = .ok (.iconst (0), 1) := by decide +kernel
theorem d_R_lay_42 : decode c_R_lay 42 = .ok (.istore 5, 2) := by decide +kernel
theorem d_R_lay_44 : decode c_R_lay 44 = .ok (.iload 5, 2) := by decide +kernel
theorem d_R_lay_46 : decode c_R_lay 46 = .ok (.iconst (4), 1) := by decide +kernel
theorem d_R_lay_47 : decode c_R_lay 47 = .ok (.if_icmp .ge (28), 3) := by decide +kernel
theorem d_R_lay_50 : decode c_R_lay 50 = .ok (.aload_n 0, 1) := by decide +kernel
theorem d_R_lay_51 : decode c_R_lay 51 = .ok (.getfield 20, 3) := by decide +kernel
theorem d_R_lay_54 : decode c_R_lay 54 = .ok (.iconst (4), 1) := by decide +kernel
theorem d_R_lay_55 : decode c_R_lay 55 = .ok (.iload 4, 2) := by decide +kernel
theorem d_R_lay_57 : decode c_R_lay 57 = .ok (.imul, 1) := by decide +kernel
theorem d_R_lay_58 : decode c_R_lay 58 = .ok (.iload 5, 2) := by decide +kernel
theorem d_R_lay_60 : decode c_R_lay 60 = .ok (.iadd, 1) := by decide +kernel
theorem d_R_lay_61 : decode c_R_lay 61 = .ok (.aload_n 0, 1) := by decide +kernel
theorem d_R_lay_62 : decode c_R_lay 62 = .ok (.iload_n 3, 1) := by decide +kernel
theorem d_R_lay_63 : decode c_R_lay 63 = .ok (.iload 5, 2) := by decide +kernel
theorem d_R_lay_65 : decode c_R_lay 65 = .ok (.invokevirtual 91, 3) := by decide +kernel
theorem d_R_lay_68 : decode c_R_lay 68 = .ok (.iastore, 1) := by decide +kernel
theorem d_R_lay_69 : decode c_R_lay 69 = .ok (.iinc 5 (1), 3) := by decide +kernel
theorem d_R_lay_72 : decode c_R_lay 72 = .ok (.goto (-28), 3) := by decide +kernel
theorem d_R_lay_75 : decode c_R_lay 75 = .ok (.iconst (1), 1) := by decide +kernel
theorem d_R_lay_76 : decode c_R_lay 76 = .ok (.ireturn, 1) := by decide +kernel
theorem d_R_clear_0 : decode c_R_clear 0 = .ok (.iconst (0), 1) := by decide +kernel
theorem d_R_clear_1 : decode c_R_clear 1 = .ok (.istore_n 2, 1) := by decide +kernel
theorem d_R_clear_2 : decode c_R_clear 2 = .ok (.bipush (56), 2) := by decide +kernel
theorem d_R_clear_4 : decode c_R_clear 4 = .ok (.iload_n 1, 1) := by decide +kernel
theorem d_R_clear_5 : decode c_R_clear 5 = .ok (.imul, 1) := by decide +kernel
theorem d_R_clear_6 : decode c_R_clear 6 = .ok (.istore_n 3, 1) := by decide +kernel
theorem d_R_clear_7 : decode c_R_clear 7 = .ok (.iload_n 3, 1) := by decide +kernel
theorem d_R_clear_8 : decode c_R_clear 8 = .ok (.bipush (56), 2) := by decide +kernel
theorem d_R_clear_10 : decode c_R_clear 10 = .ok (.iload_n 1, 1) := by decide +kernel
theorem d_R_clear_11 : decode c_R_clear 11 = .ok (.imul, 1) := by decide +kernel
theorem d_R_clear_12 : decode c_R_clear 12 = .ok (.bipush (56), 2) := by decide +kernel
theorem d_R_clear_14 : decode c_R_clear 14 = .ok (.iadd, 1) := by decide +kernel
theorem d_R_clear_15 : decode c_R_clear 15 = .ok (.if_icmp .ge (40), 3) := by decide +kernel
theorem d_R_clear_18 : decode c_R_clear 18 = .ok (.aload_n 0, 1) := by decide +kernel
theorem d_R_clear_19 : decode c_R_clear 19 = .ok (.getfield 26, 3) := by decide +kernel
theorem d_R_clear_22 : decode c_R_clear 22 = .ok (.iload_n 3, 1) := by decide +kernel
theorem d_R_clear_23 : decode c_R_clear 23 = .ok (.iaload, 1) := by decide +kernel
theorem d_R_clear_24 : decode c_R_clear 24 = .ok (.ifCond .lt (18), 3) := by decide +kernel
theorem d_R_clear_27 : decode c_R_clear 27 = .ok (.aload_n 0, 1) := by decide +kernel
theorem d_R_clear_28 : decode c_R_clear 28 = .ok (.getfield 17, 3) := by decide +kernel
theorem d_R_clear_31 : decode c_R_clear 31 = .ok (.aload_n 0, 1) := by decide +kernel
theorem d_R_clear_32 : decode c_R_clear 32 = .ok (.getfield 26, 3) := by decide +kernel
theorem d_R_clear_35 : decode c_R_clear 35 = .ok (.iload_n 3, 1) := by decide +kernel
theorem d_R_clear_36 : decode c_R_clear 36 = .ok (.iaload, 1) := by decide +kernel
theorem d_R_clear_37 : decode c_R_clear 37 = .ok (.iconst (0), 1) := by decide +kernel
theorem d_R_clear_38 : decode c_R_clear 38 = .ok (.bastore, 1) := by decide +kernel
theorem d_R_clear_39 : decode c_R_clear 39 = .ok (.iinc 2 (1), 3) := by decide +kernel
theorem d_R_clear_42 : decode c_R_clear 42 = .ok (.aload_n 0, 1) := by decide +kernel
theorem d_R_clear_43 : decode c_R_clear 43 = .ok (.getfield 26, 3) := by decide +kernel
theorem d_R_clear_46 : decode c_R_clear 46 = .ok (.iload_n 3, 1) := by decide +kernel
theorem d_R_clear_47 : decode c_R_clear 47 = .ok (.iconst (-1), 1) := by decide +kernel
theorem d_R_clear_48 : decode c_R_clear 48 = .ok (.iastore, 1) := by decide +kernel
theorem d_R_clear_49 : decode c_R_clear 49 = .ok (.iinc 3 (1), 3) := by decide +kernel
theorem d_R_clear_52 : decode c_R_clear 52 = .ok (.goto (-45), 3) := by decide +kernel
theorem d_R_clear_55 : decode c_R_clear 55 = .ok (.aload_n 0, 1) := by decide +kernel
theorem d_R_clear_56 : decode c_R_clear 56 = .ok (.getfield 23, 3) := by decide +kernel
theorem d_R_clear_59 : decode c_R_clear 59 = .ok (.iload_n 1, 1) := by decide +kernel
theorem d_R_clear_60 : decode c_R_clear 60 = .ok (.iconst (0), 1) := by decide +kernel
theorem d_R_clear_61 : decode c_R_clear 61 = .ok (.iastore, 1) := by decide +kernel
theorem d_R_clear_62 : decode c_R_clear 62 = .ok (.iload_n 2, 1) := by decide +kernel
theorem d_R_clear_63 : decode c_R_clear 63 = .ok (.ireturn, 1) := by decide +kernel
