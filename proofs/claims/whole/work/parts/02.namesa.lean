/-! decode rows -/
theorem d_V_init_0 : decode c_V_init 0 = .ok (.aload_n 0, 1) := by decide +kernel
theorem d_V_init_1 : decode c_V_init 1 = .ok (.invokespecial 1, 3) := by decide +kernel
theorem d_V_init_4 : decode c_V_init 4 = .ok (.iload_n 1, 1) := by decide +kernel
theorem d_V_init_5 : decode c_V_init 5 = .ok (.iconst (4), 1) := by decide +kernel
theorem d_V_init_6 : decode c_V_init 6 = .ok (.invokestatic 9, 3) := by decide +kernel
theorem d_V_init_9 : decode c_V_init 9 = .ok (.istore_n 3, 1) := by decide +kernel
theorem d_V_init_10 : decode c_V_init 10 = .ok (.iload_n 3, 1) := by decide +kernel
theorem d_V_init_11 : decode c_V_init 11 = .ok (.iload_n 2, 1) := by decide +kernel
theorem d_V_init_12 : decode c_V_init 12 = .ok (.iconst (3), 1) := by decide +kernel
theorem d_V_init_13 : decode c_V_init 13 = .ok (.invokestatic 9, 3) := by decide +kernel
theorem d_V_init_16 : decode c_V_init 16 = .ok (.iadd, 1) := by decide +kernel
theorem d_V_init_17 : decode c_V_init 17 = .ok (.istore 4, 2) := by decide +kernel
theorem d_V_init_19 : decode c_V_init 19 = .ok (.aload_n 0, 1) := by decide +kernel
theorem d_V_init_20 : decode c_V_init 20 = .ok (.new 13, 3) := by decide +kernel
theorem d_V_init_23 : decode c_V_init 23 = .ok (.dup, 1) := by decide +kernel
theorem d_V_init_24 : decode c_V_init 24 = .ok (.iload_n 3, 1) := by decide +kernel
theorem d_V_init_25 : decode c_V_init 25 = .ok (.iload 4, 2) := by decide +kernel
theorem d_V_init_27 : decode c_V_init 27 = .ok (.invokespecial 15, 3) := by decide +kernel
theorem d_V_init_30 : decode c_V_init 30 = .ok (.putfield 18, 3) := by decide +kernel
theorem d_V_init_33 : decode c_V_init 33 = .ok (.aload_n 0, 1) := by decide +kernel
theorem d_V_init_34 : decode c_V_init 34 = .ok (.new 22, 3) := by decide +kernel
theorem d_V_init_37 : decode c_V_init 37 = .ok (.dup, 1) := by decide +kernel
theorem d_V_init_38 : decode c_V_init 38 = .ok (.invokespecial 24, 3) := by decide +kernel
theorem d_V_init_41 : decode c_V_init 41 = .ok (.putfield 25, 3) := by decide +kernel
theorem d_V_init_44 : decode c_V_init 44 = .ok (.aload_n 0, 1) := by decide +kernel
theorem d_V_init_45 : decode c_V_init 45 = .ok (.new 29, 3) := by decide +kernel
theorem d_V_init_48 : decode c_V_init 48 = .ok (.dup, 1) := by decide +kernel
theorem d_V_init_49 : decode c_V_init 49 = .ok (.iload_n 3, 1) := by decide +kernel
theorem d_V_init_50 : decode c_V_init 50 = .ok (.iload 4, 2) := by decide +kernel
theorem d_V_init_52 : decode c_V_init 52 = .ok (.invokespecial 31, 3) := by decide +kernel
theorem d_V_init_55 : decode c_V_init 55 = .ok (.putfield 32, 3) := by decide +kernel
theorem d_V_init_58 : decode c_V_init 58 = .ok (.aload_n 0, 1) := by decide +kernel
theorem d_V_init_59 : decode c_V_init 59 = .ok (.bipush (32), 2) := by decide +kernel
theorem d_V_init_61 : decode c_V_init 61 = .ok (.newarray .int, 2) := by decide +kernel
theorem d_V_init_63 : decode c_V_init 63 = .ok (.putfield 36, 3) := by decide +kernel
theorem d_V_init_66 : decode c_V_init 66 = .ok (.aload_n 0, 1) := by decide +kernel
theorem d_V_init_67 : decode c_V_init 67 = .ok (.iconst (0), 1) := by decide +kernel
theorem d_V_init_68 : decode c_V_init 68 = .ok (.putfield 40, 3) := by decide +kernel
theorem d_V_init_71 : decode c_V_init 71 = .ok (.aload_n 0, 1) := by decide +kernel
theorem d_V_init_72 : decode c_V_init 72 = .ok (.bipush (32), 2) := by decide +kernel
theorem d_V_init_74 : decode c_V_init 74 = .ok (.newarray .int, 2) := by decide +kernel
theorem d_V_init_76 : decode c_V_init 76 = .ok (.putfield 44, 3) := by decide +kernel
theorem d_V_init_79 : decode c_V_init 79 = .ok (.aload_n 0, 1) := by decide +kernel
theorem d_V_init_80 : decode c_V_init 80 = .ok (.iconst (0), 1) := by decide +kernel
theorem d_V_init_81 : decode c_V_init 81 = .ok (.putfield 47, 3) := by decide +kernel
theorem d_V_init_84 : decode c_V_init 84 = .ok (.return_, 1) := by decide +kernel
theorem d_V_put_0 : decode c_V_put 0 = .ok (.iload_n 1, 1) := by decide +kernel
theorem d_V_put_1 : decode c_V_put 1 = .ok (.iconst (1), 1) := by decide +kernel
theorem d_V_put_2 : decode c_V_put 2 = .ok (.if_icmp .lt (20), 3) := by decide +kernel
theorem d_V_put_5 : decode c_V_put 5 = .ok (.iload_n 1, 1) := by decide +kernel
theorem d_V_put_6 : decode c_V_put 6 = .ok (.bipush (8), 2) := by decide +kernel
theorem d_V_put_8 : decode c_V_put 8 = .ok (.if_icmp .gt (14), 3) := by decide +kernel
theorem d_V_put_11 : decode c_V_put 11 = .ok (.aload_n 0, 1) := by decide +kernel
theorem d_V_put_12 : decode c_V_put 12 = .ok (.getfield 40, 3) := by decide +kernel
theorem d_V_put_15 : decode c_V_put 15 = .ok (.iload_n 1, 1) := by decide +kernel
theorem d_V_put_16 : decode c_V_put 16 = .ok (.iadd, 1) := by decide +kernel
theorem d_V_put_17 : decode c_V_put 17 = .ok (.bipush (32), 2) := by decide +kernel
theorem d_V_put_19 : decode c_V_put 19 = .ok (.if_icmp .le (5), 3) := by decide +kernel
theorem d_V_put_22 : decode c_V_put 22 = .ok (.iconst (0), 1) := by decide +kernel
theorem d_V_put_23 : decode c_V_put 23 = .ok (.ireturn, 1) := by decide +kernel
theorem d_V_put_24 : decode c_V_put 24 = .ok (.iconst (0), 1) := by decide +kernel
theorem d_V_put_25 : decode c_V_put 25 = .ok (.istore 4, 2) := by decide +kernel
theorem d_V_put_27 : decode c_V_put 27 = .ok (.iload 4, 2) := by decide +kernel
theorem d_V_put_29 : decode c_V_put 29 = .ok (.iload_n 1, 1) := by decide +kernel
theorem d_V_put_30 : decode c_V_put 30 = .ok (.if_icmp .ge (37), 3) := by decide +kernel
theorem d_V_put_33 : decode c_V_put 33 = .ok (.aload_n 0, 1) := by decide +kernel
theorem d_V_put_34 : decode c_V_put 34 = .ok (.getfield 36, 3) := by decide +kernel
theorem d_V_put_37 : decode c_V_put 37 = .ok (.aload_n 0, 1) := by decide +kernel
theorem d_V_put_38 : decode c_V_put 38 = .ok (.getfield 40, 3) := by decide +kernel
theorem d_V_put_41 : decode c_V_put 41 = .ok (.iload 4, 2) := by decide +kernel
theorem d_V_put_43 : decode c_V_put 43 = .ok (.iadd, 1) := by decide +kernel
theorem d_V_put_44 : decode c_V_put 44 = .ok (.lload_n 2, 1) := by decide +kernel
theorem d_V_put_45 : decode c_V_put 45 = .ok (.bipush (8), 2) := by decide +kernel
theorem d_V_put_47 : decode c_V_put 47 = .ok (.iload_n 1, 1) := by decide +kernel
theorem d_V_put_48 : decode c_V_put 48 = .ok (.iconst (1), 1) := by decide +kernel
theorem d_V_put_49 : decode c_V_put 49 = .ok (.isub, 1) := by decide +kernel
theorem d_V_put_50 : decode c_V_put 50 = .ok (.iload 4, 2) := by decide +kernel
theorem d_V_put_52 : decode c_V_put 52 = .ok (.isub, 1) := by decide +kernel
theorem d_V_put_53 : decode c_V_put 53 = .ok (.imul, 1) := by decide +kernel
theorem d_V_put_54 : decode c_V_put 54 = .ok (.lushr, 1) := by decide +kernel
theorem d_V_put_55 : decode c_V_put 55 = .ok (.l2i, 1) := by decide +kernel
theorem d_V_put_56 : decode c_V_put 56 = .ok (.sipush (255), 3) := by decide +kernel
theorem d_V_put_59 : decode c_V_put 59 = .ok (.iand, 1) := by decide +kernel
theorem d_V_put_60 : decode c_V_put 60 = .ok (.iastore, 1) := by decide +kernel
theorem d_V_put_61 : decode c_V_put 61 = .ok (.iinc 4 (1), 3) := by decide +kernel
theorem d_V_put_64 : decode c_V_put 64 = .ok (.goto (-37), 3) := by decide +kernel
theorem d_V_put_67 : decode c_V_put 67 = .ok (.aload_n 0, 1) := by decide +kernel
theorem d_V_put_68 : decode c_V_put 68 = .ok (.dup, 1) := by decide +kernel
theorem d_V_put_69 : decode c_V_put 69 = .ok (.getfield 40, 3) := by decide +kernel
theorem d_V_put_72 : decode c_V_put 72 = .ok (.iload_n 1, 1) := by decide +kernel
theorem d_V_put_73 : decode c_V_put 73 = .ok (.iadd, 1) := by decide +kernel
theorem d_V_put_74 : decode c_V_put 74 = .ok (.putfield 40, 3) := by decide +kernel
theorem d_V_put_77 : decode c_V_put 77 = .ok (.iconst (1), 1) := by decide +kernel
theorem d_V_put_78 : decode c_V_put 78 = .ok (.ireturn, 1) := by decide +kernel
theorem d_V_scrap_0 : decode c_V_scrap 0 = .ok (.aload_n 0, 1) := by decide +kernel
theorem d_V_scrap_1 : decode c_V_scrap 1 = .ok (.iconst (0), 1) := by decide +kernel
theorem d_V_scrap_2 : decode c_V_scrap 2 = .ok (.putfield 40, 3) := by decide +kernel
theorem d_V_scrap_5 : decode c_V_scrap 5 = .ok (.return_, 1) := by decide +kernel
theorem d_V_store_0 : decode c_V_store 0 = .ok (.iload_n 1, 1) := by decide +kernel
theorem d_V_store_1 : decode c_V_store 1 = .ok (.invokestatic 50, 3) := by decide +kernel
theorem d_V_store_4 : decode c_V_store 4 = .ok (.ifCond .eq (21), 3) := by decide +kernel
theorem d_V_store_7 : decode c_V_store 7 = .ok (.aload_n 0, 1) := by decide +kernel
theorem d_V_store_8 : decode c_V_store 8 = .ok (.getfield 32, 3) := by decide +kernel
theorem d_V_store_11 : decode c_V_store 11 = .ok (.iload_n 1, 1) := by decide +kernel
theorem d_V_store_12 : decode c_V_store 12 = .ok (.invokevirtual 54, 3) := by decide +kernel
theorem d_V_store_15 : decode c_V_store 15 = .ok (.ifCond .ne (10), 3) := by decide +kernel
theorem d_V_store_18 : decode c_V_store 18 = .ok (.aload_n 0, 1) := by decide +kernel
theorem d_V_store_19 : decode c_V_store 19 = .ok (.getfield 40, 3) := by decide +kernel
theorem d_V_store_22 : decode c_V_store 22 = .ok (.ifCond .ne (11), 3) := by decide +kernel
theorem d_V_store_25 : decode c_V_store 25 = .ok (.new 57, 3) := by decide +kernel
theorem d_V_store_28 : decode c_V_store 28 = .ok (.dup, 1) := by decide +kernel
theorem d_V_store_29 : decode c_V_store 29 = .ok (.invokespecial 59, 3) := by decide +kernel
theorem d_V_store_32 : decode c_V_store 32 = .ok (.athrow, 1) := by decide +kernel
theorem d_V_store_33 : decode c_V_store 33 = .ok (.aload_n 0, 1) := by decide +kernel
theorem d_V_store_34 : decode c_V_store 34 = .ok (.getfield 32, 3) := by decide +kernel
theorem d_V_store_37 : decode c_V_store 37 = .ok (.iload_n 1, 1) := by decide +kernel
theorem d_V_store_38 : decode c_V_store 38 = .ok (.aload_n 0, 1) := by decide +kernel
theorem d_V_store_39 : decode c_V_store 39 = .ok (.getfield 40, 3) := by decide +kernel
theorem d_V_store_42 : decode c_V_store 42 = .ok (.invokevirtual 60, 3) := by decide +kernel
theorem d_V_store_45 : decode c_V_store 45 = .ok (.aload_n 0, 1) := by decide +kernel
theorem d_V_store_46 : decode c_V_store 46 = .ok (.iload_n 1, 1) := by decide +kernel
theorem d_V_store_47 : decode c_V_store 47 = .ok (.invokevirtual 63, 3) := by decide +kernel
theorem d_V_store_50 : decode c_V_store 50 = .ok (.ifCond .ne (17), 3) := by decide +kernel
theorem d_V_store_53 : decode c_V_store 53 = .ok (.aload_n 0, 1) := by decide +kernel
theorem d_V_store_54 : decode c_V_store 54 = .ok (.iload_n 1, 1) := by decide +kernel
theorem d_V_store_55 : decode c_V_store 55 = .ok (.invokevirtual 66, 3) := by decide +kernel
theorem d_V_store_58 : decode c_V_store 58 = .ok (.pop, 1) := by decide +kernel
theorem d_V_store_59 : decode c_V_store 59 = .ok (.new 70, 3) := by decide +kernel
theorem d_V_store_62 : decode c_V_store 62 = .ok (.dup, 1) := by decide +kernel
theorem d_V_store_63 : decode c_V_store 63 = .ok (.invokespecial 72, 3) := by decide +kernel
theorem d_V_store_66 : decode c_V_store 66 = .ok (.athrow, 1) := by decide +kernel
theorem d_V_store_67 : decode c_V_store 67 = .ok (.aload_n 0, 1) := by decide +kernel
theorem d_V_store_68 : decode c_V_store 68 = .ok (.iconst (0), 1) := by decide +kernel
theorem d_V_store_69 : decode c_V_store 69 = .ok (.putfield 40, 3) := by decide +kernel
theorem d_V_store_72 : decode c_V_store 72 = .ok (.aload_n 0, 1) := by decide +kernel
theorem d_V_store_73 : decode c_V_store 73 = .ok (.getfield 32, 3) := by decide +kernel
theorem d_V_store_76 : decode c_V_store 76 = .ok (.iload_n 1, 1) := by decide +kernel
theorem d_V_store_77 : decode c_V_store 77 = .ok (.invokevirtual 73, 3) := by decide +kernel
theorem d_V_store_80 : decode c_V_store 80 = .ok (.ireturn, 1) := by decide +kernel
theorem d_V_drop_0 : decode c_V_drop 0 = .ok (.aload_n 0, 1) := by decide +kernel
theorem d_V_drop_1 : decode c_V_drop 1 = .ok (.iload_n 1, 1) := by decide +kernel
theorem d_V_drop_2 : decode c_V_drop 2 = .ok (.invokevirtual 76, 3) := by decide +kernel
theorem d_V_drop_5 : decode c_V_drop 5 = .ok (.aload_n 0, 1) := by decide +kernel
theorem d_V_drop_6 : decode c_V_drop 6 = .ok (.iload_n 1, 1) := by decide +kernel
theorem d_V_drop_7 : decode c_V_drop 7 = .ok (.invokevirtual 66, 3) := by decide +kernel
theorem d_V_drop_10 : decode c_V_drop 10 = .ok (.ireturn, 1) := by decide +kernel
theorem d_V_get_0 : decode c_V_get 0 = .ok (.aload_n 0, 1) := by decide +kernel
theorem d_V_get_1 : decode c_V_get 1 = .ok (.iload_n 1, 1) := by decide +kernel
theorem d_V_get_2 : decode c_V_get 2 = .ok (.invokevirtual 76, 3) := by decide +kernel
theorem d_V_get_5 : decode c_V_get 5 = .ok (.aload_n 0, 1) := by decide +kernel
theorem d_V_get_6 : decode c_V_get 6 = .ok (.iload_n 1, 1) := by decide +kernel
theorem d_V_get_7 : decode c_V_get 7 = .ok (.invokevirtual 80, 3) := by decide +kernel
theorem d_V_get_10 : decode c_V_get 10 = .ok (.ifCond .eq (11), 3) := by decide +kernel
theorem d_V_get_13 : decode c_V_get 13 = .ok (.new 70, 3) := by decide +kernel
theorem d_V_get_16 : decode c_V_get 16 = .ok (.dup, 1) := by decide +kernel
theorem d_V_get_17 : decode c_V_get 17 = .ok (.invokespecial 72, 3) := by decide +kernel
theorem d_V_get_20 : decode c_V_get 20 = .ok (.athrow, 1) := by decide +kernel
theorem d_V_get_21 : decode c_V_get 21 = .ok (.iconst (0), 1) := by decide +kernel
theorem d_V_get_22 : decode c_V_get 22 = .ok (.istore_n 2, 1) := by decide +kernel
theorem d_V_get_23 : decode c_V_get 23 = .ok (.iload_n 2, 1) := by decide +kernel
theorem d_V_get_24 : decode c_V_get 24 = .ok (.aload_n 0, 1) := by decide +kernel
theorem d_V_get_25 : decode c_V_get 25 = .ok (.getfield 32, 3) := by decide +kernel
theorem d_V_get_28 : decode c_V_get 28 = .ok (.iload_n 1, 1) := by decide +kernel
theorem d_V_get_29 : decode c_V_get 29 = .ok (.invokevirtual 73, 3) := by decide +kernel
theorem d_V_get_32 : decode c_V_get 32 = .ok (.if_icmp .ge (27), 3) := by decide +kernel
theorem d_V_get_35 : decode c_V_get 35 = .ok (.aload_n 0, 1) := by decide +kernel
theorem d_V_get_36 : decode c_V_get 36 = .ok (.aload_n 0, 1) := by decide +kernel
theorem d_V_get_37 : decode c_V_get 37 = .ok (.getfield 32, 3) := by decide +kernel
theorem d_V_get_40 : decode c_V_get 40 = .ok (.iload_n 1, 1) := by decide +kernel
theorem d_V_get_41 : decode c_V_get 41 = .ok (.iload_n 2, 1) := by decide +kernel
theorem d_V_get_42 : decode c_V_get 42 = .ok (.invokevirtual 83, 3) := by decide +kernel
theorem d_V_get_45 : decode c_V_get 45 = .ok (.invokevirtual 86, 3) := by decide +kernel
theorem d_V_get_48 : decode c_V_get 48 = .ok (.aload_n 0, 1) := by decide +kernel
theorem d_V_get_49 : decode c_V_get 49 = .ok (.iload_n 2, 1) := by decide +kernel
theorem d_V_get_50 : decode c_V_get 50 = .ok (.invokevirtual 89, 3) := by decide +kernel
theorem d_V_get_53 : decode c_V_get 53 = .ok (.iinc 2 (1), 3) := by decide +kernel
theorem d_V_get_56 : decode c_V_get 56 = .ok (.goto (-33), 3) := by decide +kernel
theorem d_V_get_59 : decode c_V_get 59 = .ok (.aload_n 0, 1) := by decide +kernel
theorem d_V_get_60 : decode c_V_get 60 = .ok (.aload_n 0, 1) := by decide +kernel
theorem d_V_get_61 : decode c_V_get 61 = .ok (.getfield 32, 3) := by decide +kernel
theorem d_V_get_64 : decode c_V_get 64 = .ok (.iload_n 1, 1) := by decide +kernel
theorem d_V_get_65 : decode c_V_get 65 = .ok (.invokevirtual 92, 3) := by decide +kernel
theorem d_V_get_68 : decode c_V_get 68 = .ok (.putfield 47, 3) := by decide +kernel
theorem d_V_get_71 : decode c_V_get 71 = .ok (.aload_n 0, 1) := by decide +kernel
theorem d_V_get_72 : decode c_V_get 72 = .ok (.getfield 47, 3) := by decide +kernel
theorem d_V_get_75 : decode c_V_get 75 = .ok (.ireturn, 1) := by decide +kernel
theorem d_V_at_0 : decode c_V_at 0 = .ok (.iload_n 1, 1) := by decide +kernel
theorem d_V_at_1 : decode c_V_at 1 = .ok (.ifCond .lt (11), 3) := by decide +kernel
theorem d_V_at_4 : decode c_V_at 4 = .ok (.iload_n 1, 1) := by decide +kernel
theorem d_V_at_5 : decode c_V_at 5 = .ok (.aload_n 0, 1) := by decide +kernel
theorem d_V_at_6 : decode c_V_at 6 = .ok (.getfield 47, 3) := by decide +kernel
theorem d_V_at_9 : decode c_V_at 9 = .ok (.if_icmp .lt (11), 3) := by decide +kernel
theorem d_V_at_12 : decode c_V_at 12 = .ok (.new 95, 3) := by decide +kernel
theorem d_V_at_15 : decode c_V_at 15 = .ok (.dup, 1) := by decide +kernel
theorem d_V_at_16 : decode c_V_at 16 = .ok (.invokespecial 97, 3) := by decide +kernel
theorem d_V_at_19 : decode c_V_at 19 = .ok (.athrow, 1) := by decide +kernel
theorem d_V_at_20 : decode c_V_at 20 = .ok (.aload_n 0, 1) := by decide +kernel
theorem d_V_at_21 : decode c_V_at 21 = .ok (.getfield 44, 3) := by decide +kernel
theorem d_V_at_24 : decode c_V_at 24 = .ok (.iload_n 1, 1) := by decide +kernel
theorem d_V_at_25 : decode c_V_at 25 = .ok (.iaload, 1) := by decide +kernel
theorem d_V_at_26 : decode c_V_at 26 = .ok (.ireturn, 1) := by decide +kernel
theorem d_V_fail_0 : decode c_V_fail 0 = .ok (.aload_n 0, 1) := by decide +kernel
theorem d_V_fail_1 : decode c_V_fail 1 = .ok (.iload_n 1, 1) := by decide +kernel
theorem d_V_fail_2 : decode c_V_fail 2 = .ok (.invokevirtual 98, 3) := by decide +kernel
theorem d_V_fail_5 : decode c_V_fail 5 = .ok (.aload_n 0, 1) := by decide +kernel
theorem d_V_fail_6 : decode c_V_fail 6 = .ok (.getfield 25, 3) := by decide +kernel
theorem d_V_fail_9 : decode c_V_fail 9 = .ok (.iload_n 1, 1) := by decide +kernel
theorem d_V_fail_10 : decode c_V_fail 10 = .ok (.invokevirtual 101, 3) := by decide +kernel
theorem d_V_fail_13 : decode c_V_fail 13 = .ok (.ifCond .ne (11), 3) := by decide +kernel
theorem d_V_fail_16 : decode c_V_fail 16 = .ok (.new 70, 3) := by decide +kernel
theorem d_V_fail_19 : decode c_V_fail 19 = .ok (.dup, 1) := by decide +kernel
theorem d_V_fail_20 : decode c_V_fail 20 = .ok (.invokespecial 72, 3) := by decide +kernel
theorem d_V_fail_23 : decode c_V_fail 23 = .ok (.athrow, 1) := by decide +kernel
theorem d_V_fail_24 : decode c_V_fail 24 = .ok (.bipush (10), 2) := by decide +kernel
theorem d_V_fail_26 : decode c_V_fail 26 = .ok (.aload_n 0, 1) := by decide +kernel
theorem d_V_fail_27 : decode c_V_fail 27 = .ok (.getfield 25, 3) := by decide +kernel
theorem d_V_fail_30 : decode c_V_fail 30 = .ok (.iload_n 1, 1) := by decide +kernel
theorem d_V_fail_31 : decode c_V_fail 31 = .ok (.invokevirtual 104, 3) := by decide +kernel
theorem d_V_fail_34 : decode c_V_fail 34 = .ok (.isub, 1) := by decide +kernel
theorem d_V_fail_35 : decode c_V_fail 35 = .ok (.istore_n 2, 1) := by decide +kernel
theorem d_V_fail_36 : decode c_V_fail 36 = .ok (.aload_n 0, 1) := by decide +kernel
theorem d_V_fail_37 : decode c_V_fail 37 = .ok (.getfield 25, 3) := by decide +kernel
theorem d_V_fail_40 : decode c_V_fail 40 = .ok (.iload_n 1, 1) := by decide +kernel
theorem d_V_fail_41 : decode c_V_fail 41 = .ok (.invokevirtual 107, 3) := by decide +kernel
theorem d_V_fail_44 : decode c_V_fail 44 = .ok (.aload_n 0, 1) := by decide +kernel
theorem d_V_fail_45 : decode c_V_fail 45 = .ok (.getfield 32, 3) := by decide +kernel
theorem d_V_fail_48 : decode c_V_fail 48 = .ok (.iload_n 1, 1) := by decide +kernel
theorem d_V_fail_49 : decode c_V_fail 49 = .ok (.invokevirtual 110, 3) := by decide +kernel
theorem d_V_fail_52 : decode c_V_fail 52 = .ok (.iload_n 2, 1) := by decide +kernel
theorem d_V_fail_53 : decode c_V_fail 53 = .ok (.ireturn, 1) := by decide +kernel
theorem d_V_renew_0 : decode c_V_renew 0 = .ok (.aload_n 0, 1) := by decide +kernel
theorem d_V_renew_1 : decode c_V_renew 1 = .ok (.iload_n 1, 1) := by decide +kernel
theorem d_V_renew_2 : decode c_V_renew 2 = .ok (.invokevirtual 98, 3) := by decide +kernel
theorem d_V_renew_5 : decode c_V_renew 5 = .ok (.aload_n 0, 1) := by decide +kernel
theorem d_V_renew_6 : decode c_V_renew 6 = .ok (.getfield 25, 3) := by decide +kernel
theorem d_V_renew_9 : decode c_V_renew 9 = .ok (.iload_n 1, 1) := by decide +kernel
theorem d_V_renew_10 : decode c_V_renew 10 = .ok (.invokevirtual 101, 3) := by decide +kernel
theorem d_V_renew_13 : decode c_V_renew 13 = .ok (.ifCond .eq (11), 3) := by decide +kernel
theorem d_V_renew_16 : decode c_V_renew 16 = .ok (.new 70, 3) := by decide +kernel
theorem d_V_renew_19 : decode c_V_renew 19 = .ok (.dup, 1) := by decide +kernel
theorem d_V_renew_20 : decode c_V_renew 20 = .ok (.invokespecial 72, 3) := by decide +kernel
theorem d_V_renew_23 : decode c_V_renew 23 = .ok (.athrow, 1) := by decide +kernel
theorem d_V_renew_24 : decode c_V_renew 24 = .ok (.aload_n 0, 1) := by decide +kernel
theorem d_V_renew_25 : decode c_V_renew 25 = .ok (.getfield 25, 3) := by decide +kernel
theorem d_V_renew_28 : decode c_V_renew 28 = .ok (.iload_n 1, 1) := by decide +kernel
theorem d_V_renew_29 : decode c_V_renew 29 = .ok (.invokevirtual 113, 3) := by decide +kernel
theorem d_V_renew_32 : decode c_V_renew 32 = .ok (.aload_n 0, 1) := by decide +kernel
theorem d_V_renew_33 : decode c_V_renew 33 = .ok (.getfield 25, 3) := by decide +kernel
theorem d_V_renew_36 : decode c_V_renew 36 = .ok (.invokevirtual 116, 3) := by decide +kernel
theorem d_V_renew_39 : decode c_V_renew 39 = .ok (.ireturn, 1) := by decide +kernel
theorem d_V_repair_0 : decode c_V_repair 0 = .ok (.iconst (0), 1) := by decide +kernel
theorem d_V_repair_1 : decode c_V_repair 1 = .ok (.istore_n 1, 1) := by decide +kernel
theorem d_V_repair_2 : decode c_V_repair 2 = .ok (.iconst (0), 1) := by decide +kernel
theorem d_V_repair_3 : decode c_V_repair 3 = .ok (.istore_n 2, 1) := by decide +kernel
theorem d_V_repair_4 : decode c_V_repair 4 = .ok (.iload_n 2, 1) := by decide +kernel
theorem d_V_repair_5 : decode c_V_repair 5 = .ok (.bipush (6), 2) := by decide +kernel
theorem d_V_repair_7 : decode c_V_repair 7 = .ok (.if_icmp .ge (45), 3) := by decide +kernel
theorem d_V_repair_10 : decode c_V_repair 10 = .ok (.iconst (0), 1) := by decide +kernel
theorem d_V_repair_11 : decode c_V_repair 11 = .ok (.istore_n 3, 1) := by decide +kernel
theorem d_V_repair_12 : decode c_V_repair 12 = .ok (.iload_n 3, 1) := by decide +kernel
theorem d_V_repair_13 : decode c_V_repair 13 = .ok (.aload_n 0, 1) := by decide +kernel
theorem d_V_repair_14 : decode c_V_repair 14 = .ok (.getfield 32, 3) := by decide +kernel
theorem d_V_repair_17 : decode c_V_repair 17 = .ok (.iload_n 2, 1) := by decide +kernel
theorem d_V_repair_18 : decode c_V_repair 18 = .ok (.invokevirtual 73, 3) := by decide +kernel
theorem d_V_repair_21 : decode c_V_repair 21 = .ok (.if_icmp .ge (25), 3) := by decide +kernel
theorem d_V_repair_24 : decode c_V_repair 24 = .ok (.iload_n 1, 1) := by decide +kernel
theorem d_V_repair_25 : decode c_V_repair 25 = .ok (.aload_n 0, 1) := by decide +kernel
theorem d_V_repair_26 : decode c_V_repair 26 = .ok (.aload_n 0, 1) := by decide +kernel
theorem d_V_repair_27 : decode c_V_repair 27 = .ok (.getfield 32, 3) := by decide +kernel
theorem d_V_repair_30 : decode c_V_repair 30 = .ok (.iload_n 2, 1) := by decide +kernel
theorem d_V_repair_31 : decode c_V_repair 31 = .ok (.iload_n 3, 1) := by decide +kernel
theorem d_V_repair_32 : decode c_V_repair 32 = .ok (.invokevirtual 83, 3) := by decide +kernel
theorem d_V_repair_35 : decode c_V_repair 35 = .ok (.invokevirtual 120, 3) := by decide +kernel
theorem d_V_repair_38 : decode c_V_repair 38 = .ok (.iadd, 1) := by decide +kernel
theorem d_V_repair_39 : decode c_V_repair 39 = .ok (.istore_n 1, 1) := by decide +kernel
theorem d_V_repair_40 : decode c_V_repair 40 = .ok (.iinc 3 (1), 3) := by decide +kernel
theorem d_V_repair_43 : decode c_V_repair 43 = .ok (.goto (-31), 3) := by decide +kernel
theorem d_V_repair_46 : decode c_V_repair 46 = .ok (.iinc 2 (1), 3) := by decide +kernel
theorem d_V_repair_49 : decode c_V_repair 49 = .ok (.goto (-45), 3) := by decide +kernel
theorem d_V_repair_52 : decode c_V_repair 52 = .ok (.iload_n 1, 1) := by decide +kernel
theorem d_V_repair_53 : decode c_V_repair 53 = .ok (.ireturn, 1) := by decide +kernel
theorem d_V_check_0 : decode c_V_check 0 = .ok (.aload_n 0, 1) := by decide +kernel
theorem d_V_check_1 : decode c_V_check 1 = .ok (.iload_n 1, 1) := by decide +kernel
theorem d_V_check_2 : decode c_V_check 2 = .ok (.invokevirtual 76, 3) := by decide +kernel
theorem d_V_check_5 : decode c_V_check 5 = .ok (.iconst (0), 1) := by decide +kernel
theorem d_V_check_6 : decode c_V_check 6 = .ok (.istore_n 2, 1) := by decide +kernel
theorem d_V_check_7 : decode c_V_check 7 = .ok (.iconst (0), 1) := by decide +kernel
theorem d_V_check_8 : decode c_V_check 8 = .ok (.istore_n 3, 1) := by decide +kernel
theorem d_V_check_9 : decode c_V_check 9 = .ok (.iload_n 3, 1) := by decide +kernel
theorem d_V_check_10 : decode c_V_check 10 = .ok (.aload_n 0, 1) := by decide +kernel
theorem d_V_check_11 : decode c_V_check 11 = .ok (.getfield 32, 3) := by decide +kernel
theorem d_V_check_14 : decode c_V_check 14 = .ok (.iload_n 1, 1) := by decide +kernel
theorem d_V_check_15 : decode c_V_check 15 = .ok (.invokevirtual 73, 3) := by decide +kernel
theorem d_V_check_18 : decode c_V_check 18 = .ok (.if_icmp .ge (41), 3) := by decide +kernel
theorem d_V_check_21 : decode c_V_check 21 = .ok (.aload_n 0, 1) := by decide +kernel
theorem d_V_check_22 : decode c_V_check 22 = .ok (.getfield 32, 3) := by decide +kernel
theorem d_V_check_25 : decode c_V_check 25 = .ok (.iload_n 1, 1) := by decide +kernel
theorem d_V_check_26 : decode c_V_check 26 = .ok (.iload_n 3, 1) := by decide +kernel
theorem d_V_check_27 : decode c_V_check 27 = .ok (.invokevirtual 83, 3) := by decide +kernel
theorem d_V_check_30 : decode c_V_check 30 = .ok (.istore 4, 2) := by decide +kernel
theorem d_V_check_32 : decode c_V_check 32 = .ok (.aload_n 0, 1) := by decide +kernel
theorem d_V_check_33 : decode c_V_check 33 = .ok (.iload 4, 2) := by decide +kernel
theorem d_V_check_35 : decode c_V_check 35 = .ok (.invokevirtual 123, 3) := by decide +kernel
theorem d_V_check_38 : decode c_V_check 38 = .ok (.ifCond .ne (15), 3) := by decide +kernel
theorem d_V_check_41 : decode c_V_check 41 = .ok (.aload_n 0, 1) := by decide +kernel
theorem d_V_check_42 : decode c_V_check 42 = .ok (.iload 4, 2) := by decide +kernel
theorem d_V_check_44 : decode c_V_check 44 = .ok (.invokevirtual 126, 3) := by decide +kernel
theorem d_V_check_47 : decode c_V_check 47 = .ok (.ifCond .eq (6), 3) := by decide +kernel
theorem d_V_check_50 : decode c_V_check 50 = .ok (.iinc 2 (1), 3) := by decide +kernel
theorem d_V_check_53 : decode c_V_check 53 = .ok (.iinc 3 (1), 3) := by decide +kernel
theorem d_V_check_56 : decode c_V_check 56 = .ok (.goto (-47), 3) := by decide +kernel
theorem d_V_check_59 : decode c_V_check 59 = .ok (.iload_n 2, 1) := by decide +kernel
theorem d_V_check_60 : decode c_V_check 60 = .ok (.ireturn, 1) := by decide +kernel
theorem d_V_harm_0 : decode c_V_harm 0 = .ok (.aload_n 0, 1) := by decide +kernel
theorem d_V_harm_1 : decode c_V_harm 1 = .ok (.iload_n 1, 1) := by decide +kernel
theorem d_V_harm_2 : decode c_V_harm 2 = .ok (.iload_n 2, 1) := by decide +kernel
theorem d_V_harm_3 : decode c_V_harm 3 = .ok (.iload_n 3, 1) := by decide +kernel
theorem d_V_harm_4 : decode c_V_harm 4 = .ok (.invokevirtual 129, 3) := by decide +kernel
theorem d_V_harm_7 : decode c_V_harm 7 = .ok (.iload_n 1, 1) := by decide +kernel
theorem d_V_harm_8 : decode c_V_harm 8 = .ok (.iload_n 2, 1) := by decide +kernel
theorem d_V_harm_9 : decode c_V_harm 9 = .ok (.invokestatic 133, 3) := by decide +kernel
theorem d_V_harm_12 : decode c_V_harm 12 = .ok (.istore 5, 2) := by decide +kernel
theorem d_V_harm_14 : decode c_V_harm 14 = .ok (.aload_n 0, 1) := by decide +kernel
theorem d_V_harm_15 : decode c_V_harm 15 = .ok (.getfield 25, 3) := by decide +kernel
theorem d_V_harm_18 : decode c_V_harm 18 = .ok (.iload 5, 2) := by decide +kernel
theorem d_V_harm_20 : decode c_V_harm 20 = .ok (.iload_n 3, 1) := by decide +kernel
theorem d_V_harm_21 : decode c_V_harm 21 = .ok (.invokevirtual 136, 3) := by decide +kernel
theorem d_V_harm_24 : decode c_V_harm 24 = .ok (.iload 4, 2) := by decide +kernel
theorem d_V_harm_26 : decode c_V_harm 26 = .ok (.sipush (255), 3) := by decide +kernel
theorem d_V_harm_29 : decode c_V_harm 29 = .ok (.iand, 1) := by decide +kernel
theorem d_V_harm_30 : decode c_V_harm 30 = .ok (.ixor, 1) := by decide +kernel
theorem d_V_harm_31 : decode c_V_harm 31 = .ok (.istore 6, 2) := by decide +kernel
theorem d_V_harm_33 : decode c_V_harm 33 = .ok (.aload_n 0, 1) := by decide +kernel
theorem d_V_harm_34 : decode c_V_harm 34 = .ok (.getfield 25, 3) := by decide +kernel
theorem d_V_harm_37 : decode c_V_harm 37 = .ok (.iload 5, 2) := by decide +kernel
theorem d_V_harm_39 : decode c_V_harm 39 = .ok (.iload_n 3, 1) := by decide +kernel
theorem d_V_harm_40 : decode c_V_harm 40 = .ok (.iload 6, 2) := by decide +kernel
theorem d_V_harm_42 : decode c_V_harm 42 = .ok (.invokevirtual 139, 3) := by decide +kernel
theorem d_V_harm_45 : decode c_V_harm 45 = .ok (.iload 6, 2) := by decide +kernel
theorem d_V_harm_47 : decode c_V_harm 47 = .ok (.ireturn, 1) := by decide +kernel
theorem d_V_stored_0 : decode c_V_stored 0 = .ok (.aload_n 0, 1) := by decide +kernel
theorem d_V_stored_1 : decode c_V_stored 1 = .ok (.iload_n 1, 1) := by decide +kernel
theorem d_V_stored_2 : decode c_V_stored 2 = .ok (.iload_n 2, 1) := by decide +kernel
theorem d_V_stored_3 : decode c_V_stored 3 = .ok (.iload_n 3, 1) := by decide +kernel
theorem d_V_stored_4 : decode c_V_stored 4 = .ok (.invokevirtual 129, 3) := by decide +kernel
theorem d_V_stored_7 : decode c_V_stored 7 = .ok (.aload_n 0, 1) := by decide +kernel
theorem d_V_stored_8 : decode c_V_stored 8 = .ok (.getfield 25, 3) := by decide +kernel
theorem d_V_stored_11 : decode c_V_stored 11 = .ok (.iload_n 1, 1) := by decide +kernel
theorem d_V_stored_12 : decode c_V_stored 12 = .ok (.iload_n 2, 1) := by decide +kernel
theorem d_V_stored_13 : decode c_V_stored 13 = .ok (.invokestatic 133, 3) := by decide +kernel
theorem d_V_stored_16 : decode c_V_stored 16 = .ok (.iload_n 3, 1) := by decide +kernel
theorem d_V_stored_17 : decode c_V_stored 17 = .ok (.invokevirtual 136, 3) := by decide +kernel
theorem d_V_stored_20 : decode c_V_stored 20 = .ok (.ireturn, 1) := by decide +kernel
theorem d_V_where_0 : decode c_V_where 0 = .ok (.aload_n 0, 1) := by decide +kernel
theorem d_V_where_1 : decode c_V_where 1 = .ok (.iload_n 1, 1) := by decide +kernel
theorem d_V_where_2 : decode c_V_where 2 = .ok (.invokevirtual 76, 3) := by decide +kernel
theorem d_V_where_5 : decode c_V_where 5 = .ok (.iload_n 2, 1) := by decide +kernel
theorem d_V_where_6 : decode c_V_where 6 = .ok (.ifCond .lt (30), 3) := by decide +kernel
theorem d_V_where_9 : decode c_V_where 9 = .ok (.iload_n 2, 1) := by decide +kernel
theorem d_V_where_10 : decode c_V_where 10 = .ok (.aload_n 0, 1) := by decide +kernel
theorem d_V_where_11 : decode c_V_where 11 = .ok (.getfield 32, 3) := by decide +kernel
theorem d_V_where_14 : decode c_V_where 14 = .ok (.iload_n 1, 1) := by decide +kernel
theorem d_V_where_15 : decode c_V_where 15 = .ok (.invokevirtual 73, 3) := by decide +kernel
theorem d_V_where_18 : decode c_V_where 18 = .ok (.if_icmp .ge (18), 3) := by decide +kernel
theorem d_V_where_21 : decode c_V_where 21 = .ok (.iload_n 3, 1) := by decide +kernel
theorem d_V_where_22 : decode c_V_where 22 = .ok (.ifCond .lt (14), 3) := by decide +kernel
theorem d_V_where_25 : decode c_V_where 25 = .ok (.iload_n 3, 1) := by decide +kernel
theorem d_V_where_26 : decode c_V_where 26 = .ok (.aload_n 0, 1) := by decide +kernel
theorem d_V_where_27 : decode c_V_where 27 = .ok (.getfield 18, 3) := by decide +kernel
theorem d_V_where_30 : decode c_V_where 30 = .ok (.getfield 142, 3) := by decide +kernel
theorem d_V_where_33 : decode c_V_where 33 = .ok (.if_icmp .lt (11), 3) := by decide +kernel
theorem d_V_where_36 : decode c_V_where 36 = .ok (.new 95, 3) := by decide +kernel
theorem d_V_where_39 : decode c_V_where 39 = .ok (.dup, 1) := by decide +kernel
theorem d_V_where_40 : decode c_V_where 40 = .ok (.invokespecial 97, 3) := by decide +kernel
theorem d_V_where_43 : decode c_V_where 43 = .ok (.athrow, 1) := by decide +kernel
theorem d_V_where_44 : decode c_V_where 44 = .ok (.aload_n 0, 1) := by decide +kernel
theorem d_V_where_45 : decode c_V_where 45 = .ok (.getfield 32, 3) := by decide +kernel
theorem d_V_where_48 : decode c_V_where 48 = .ok (.aload_n 0, 1) := by decide +kernel
theorem d_V_where_49 : decode c_V_where 49 = .ok (.getfield 32, 3) := by decide +kernel
theorem d_V_where_52 : decode c_V_where 52 = .ok (.iload_n 1, 1) := by decide +kernel
theorem d_V_where_53 : decode c_V_where 53 = .ok (.iload_n 2, 1) := by decide +kernel
theorem d_V_where_54 : decode c_V_where 54 = .ok (.invokevirtual 83, 3) := by decide +kernel
theorem d_V_where_57 : decode c_V_where 57 = .ok (.iload_n 3, 1) := by decide +kernel
theorem d_V_where_58 : decode c_V_where 58 = .ok (.invokevirtual 145, 3) := by decide +kernel
theorem d_V_where_61 : decode c_V_where 61 = .ok (.ireturn, 1) := by decide +kernel
theorem d_V_length_0 : decode c_V_length 0 = .ok (.iload_n 1, 1) := by decide +kernel
theorem d_V_length_1 : decode c_V_length 1 = .ok (.invokestatic 50, 3) := by decide +kernel
theorem d_V_length_4 : decode c_V_length 4 = .ok (.ifCond .eq (25), 3) := by decide +kernel
theorem d_V_length_7 : decode c_V_length 7 = .ok (.aload_n 0, 1) := by decide +kernel
theorem d_V_length_8 : decode c_V_length 8 = .ok (.getfield 32, 3) := by decide +kernel
theorem d_V_length_11 : decode c_V_length 11 = .ok (.iload_n 1, 1) := by decide +kernel
theorem d_V_length_12 : decode c_V_length 12 = .ok (.invokevirtual 54, 3) := by decide +kernel
theorem d_V_length_15 : decode c_V_length 15 = .ok (.ifCond .eq (14), 3) := by decide +kernel
theorem d_V_length_18 : decode c_V_length 18 = .ok (.aload_n 0, 1) := by decide +kernel
theorem d_V_length_19 : decode c_V_length 19 = .ok (.getfield 32, 3) := by decide +kernel
theorem d_V_length_22 : decode c_V_length 22 = .ok (.iload_n 1, 1) := by decide +kernel
theorem d_V_length_23 : decode c_V_length 23 = .ok (.invokevirtual 92, 3) := by decide +kernel
theorem d_V_length_26 : decode c_V_length 26 = .ok (.goto (4), 3) := by decide +kernel
theorem d_V_length_29 : decode c_V_length 29 = .ok (.iconst (-1), 1) := by decide +kernel
theorem d_V_length_30 : decode c_V_length 30 = .ok (.ireturn, 1) := by decide +kernel
theorem d_V_room_0 : decode c_V_room 0 = .ok (.iload_n 1, 1) := by decide +kernel
theorem d_V_room_1 : decode c_V_room 1 = .ok (.invokestatic 148, 3) := by decide +kernel
theorem d_V_room_4 : decode c_V_room 4 = .ok (.ifCond .eq (25), 3) := by decide +kernel
theorem d_V_room_7 : decode c_V_room 7 = .ok (.aload_n 0, 1) := by decide +kernel
theorem d_V_room_8 : decode c_V_room 8 = .ok (.getfield 25, 3) := by decide +kernel
theorem d_V_room_11 : decode c_V_room 11 = .ok (.iload_n 1, 1) := by decide +kernel
theorem d_V_room_12 : decode c_V_room 12 = .ok (.invokevirtual 101, 3) := by decide +kernel
theorem d_V_room_15 : decode c_V_room 15 = .ok (.ifCond .eq (14), 3) := by decide +kernel
theorem d_V_room_18 : decode c_V_room 18 = .ok (.aload_n 0, 1) := by decide +kernel
theorem d_V_room_19 : decode c_V_room 19 = .ok (.getfield 25, 3) := by decide +kernel
theorem d_V_room_22 : decode c_V_room 22 = .ok (.iload_n 1, 1) := by decide +kernel
theorem d_V_room_23 : decode c_V_room 23 = .ok (.invokevirtual 104, 3) := by decide +kernel
theorem d_V_room_26 : decode c_V_room 26 = .ok (.goto (4), 3) := by decide +kernel
theorem d_V_room_29 : decode c_V_room 29 = .ok (.iconst (-1), 1) := by decide +kernel
theorem d_V_room_30 : decode c_V_room 30 = .ok (.ireturn, 1) := by decide +kernel
theorem d_V_product_0 : decode c_V_product 0 = .ok (.iload_n 1, 1) := by decide +kernel
theorem d_V_product_1 : decode c_V_product 1 = .ok (.invokestatic 151, 3) := by decide +kernel
theorem d_V_product_4 : decode c_V_product 4 = .ok (.ifCond .eq (15), 3) := by decide +kernel
theorem d_V_product_7 : decode c_V_product 7 = .ok (.iload_n 2, 1) := by decide +kernel
theorem d_V_product_8 : decode c_V_product 8 = .ok (.invokestatic 151, 3) := by decide +kernel
theorem d_V_product_11 : decode c_V_product 11 = .ok (.ifCond .ne (16), 3) := by decide +kernel
theorem d_V_product_14 : decode c_V_product 14 = .ok (.iload_n 2, 1) := by decide +kernel
theorem d_V_product_15 : decode c_V_product 15 = .ok (.iconst (-1), 1) := by decide +kernel
theorem d_V_product_16 : decode c_V_product 16 = .ok (.if_icmp .eq (11), 3) := by decide +kernel
theorem d_V_product_19 : decode c_V_product 19 = .ok (.new 57, 3) := by decide +kernel
theorem d_V_product_22 : decode c_V_product 22 = .ok (.dup, 1) := by decide +kernel
theorem d_V_product_23 : decode c_V_product 23 = .ok (.invokespecial 59, 3) := by decide +kernel
theorem d_V_product_26 : decode c_V_product 26 = .ok (.athrow, 1) := by decide +kernel
theorem d_V_product_27 : decode c_V_product 27 = .ok (.iload_n 2, 1) := by decide +kernel
theorem d_V_product_28 : decode c_V_product 28 = .ok (.iconst (-1), 1) := by decide +kernel
theorem d_V_product_29 : decode c_V_product 29 = .ok (.if_icmp .eq (9), 3) := by decide +kernel
theorem d_V_product_32 : decode c_V_product 32 = .ok (.iload_n 1, 1) := by decide +kernel
theorem d_V_product_33 : decode c_V_product 33 = .ok (.iload_n 2, 1) := by decide +kernel
theorem d_V_product_34 : decode c_V_product 34 = .ok (.invokestatic 154, 3) := by decide +kernel
theorem d_V_product_37 : decode c_V_product 37 = .ok (.ireturn, 1) := by decide +kernel
theorem d_V_product_38 : decode c_V_product 38 = .ok (.iload_n 1, 1) := by decide +kernel
theorem d_V_product_39 : decode c_V_product 39 = .ok (.ifCond .ne (11), 3) := by decide +kernel
theorem d_V_product_42 : decode c_V_product 42 = .ok (.new 157, 3) := by decide +kernel
theorem d_V_product_45 : decode c_V_product 45 = .ok (.dup, 1) := by decide +kernel
theorem d_V_product_46 : decode c_V_product 46 = .ok (.invokespecial 159, 3) := by decide +kernel
theorem d_V_product_49 : decode c_V_product 49 = .ok (.athrow, 1) := by decide +kernel
theorem d_V_product_50 : decode c_V_product 50 = .ok (.iload_n 1, 1) := by decide +kernel
theorem d_V_product_51 : decode c_V_product 51 = .ok (.invokestatic 160, 3) := by decide +kernel
theorem d_V_product_54 : decode c_V_product 54 = .ok (.ireturn, 1) := by decide +kernel
theorem d_V_nearest_0 : decode c_V_nearest 0 = .ok (.iconst (1), 1) := by decide +kernel
theorem d_V_nearest_1 : decode c_V_nearest 1 = .ok (.iload_n 0, 1) := by decide +kernel
theorem d_V_nearest_2 : decode c_V_nearest 2 = .ok (.iload_n 1, 1) := by decide +kernel
theorem d_V_nearest_3 : decode c_V_nearest 3 = .ok (.invokestatic 163, 3) := by decide +kernel
theorem d_V_nearest_6 : decode c_V_nearest 6 = .ok (.invokestatic 168, 3) := by decide +kernel
theorem d_V_nearest_9 : decode c_V_nearest 9 = .ok (.ireturn, 1) := by decide +kernel
theorem d_V_isByte_0 : decode c_V_isByte 0 = .ok (.iload_n 0, 1) := by decide +kernel
theorem d_V_isByte_1 : decode c_V_isByte 1 = .ok (.ifCond .lt (14), 3) := by decide +kernel
theorem d_V_isByte_4 : decode c_V_isByte 4 = .ok (.iload_n 0, 1) := by decide +kernel
theorem d_V_isByte_5 : decode c_V_isByte 5 = .ok (.sipush (255), 3) := by decide +kernel
theorem d_V_isByte_8 : decode c_V_isByte 8 = .ok (.if_icmp .gt (7), 3) := by decide +kernel
theorem d_V_isByte_11 : decode c_V_isByte 11 = .ok (.iconst (1), 1) := by decide +kernel
theorem d_V_isByte_12 : decode c_V_isByte 12 = .ok (.goto (4), 3) := by decide +kernel
theorem d_V_isByte_15 : decode c_V_isByte 15 = .ok (.iconst (0), 1) := by decide +kernel
theorem d_V_isByte_16 : decode c_V_isByte 16 = .ok (.ireturn, 1) := by decide +kernel
theorem d_V_isObjectNumber_0 : decode c_V_isObjectNumber 0 = .ok (.iload_n 0, 1) := by decide +kernel
theorem d_V_isObjectNumber_1 : decode c_V_isObjectNumber 1 = .ok (.ifCond .lt (13), 3) := by decide +kernel
theorem d_V_isObjectNumber_4 : decode c_V_isObjectNumber 4 = .ok (.iload_n 0, 1) := by decide +kernel
theorem d_V_isObjectNumber_5 : decode c_V_isObjectNumber 5 = .ok (.bipush (6), 2) := by decide +kernel
theorem d_V_isObjectNumber_7 : decode c_V_isObjectNumber 7 = .ok (.if_icmp .ge (7), 3) := by decide +kernel
theorem d_V_isObjectNumber_10 : decode c_V_isObjectNumber 10 = .ok (.iconst (1), 1) := by decide +kernel
theorem d_V_isObjectNumber_11 : decode c_V_isObjectNumber 11 = .ok (.goto (4), 3) := by decide +kernel
theorem d_V_isObjectNumber_14 : decode c_V_isObjectNumber 14 = .ok (.iconst (0), 1) := by decide +kernel
theorem d_V_isObjectNumber_15 : decode c_V_isObjectNumber 15 = .ok (.ireturn, 1) := by decide +kernel
theorem d_V_isDiskNumber_0 : decode c_V_isDiskNumber 0 = .ok (.iload_n 0, 1) := by decide +kernel
theorem d_V_isDiskNumber_1 : decode c_V_isDiskNumber 1 = .ok (.ifCond .lt (13), 3) := by decide +kernel
theorem d_V_isDiskNumber_4 : decode c_V_isDiskNumber 4 = .ok (.iload_n 0, 1) := by decide +kernel
theorem d_V_isDiskNumber_5 : decode c_V_isDiskNumber 5 = .ok (.bipush (8), 2) := by decide +kernel
theorem d_V_isDiskNumber_7 : decode c_V_isDiskNumber 7 = .ok (.if_icmp .ge (7), 3) := by decide +kernel
theorem d_V_isDiskNumber_10 : decode c_V_isDiskNumber 10 = .ok (.iconst (1), 1) := by decide +kernel
theorem d_V_isDiskNumber_11 : decode c_V_isDiskNumber 11 = .ok (.goto (4), 3) := by decide +kernel
theorem d_V_isDiskNumber_14 : decode c_V_isDiskNumber 14 = .ok (.iconst (0), 1) := by decide +kernel
theorem d_V_isDiskNumber_15 : decode c_V_isDiskNumber 15 = .ok (.ireturn, 1) := by decide +kernel
theorem d_V_placeAt_0 : decode c_V_placeAt 0 = .ok (.bipush (16), 2) := by decide +kernel
theorem d_V_placeAt_2 : decode c_V_placeAt 2 = .ok (.iload_n 0, 1) := by decide +kernel
theorem d_V_placeAt_3 : decode c_V_placeAt 3 = .ok (.imul, 1) := by decide +kernel
theorem d_V_placeAt_4 : decode c_V_placeAt 4 = .ok (.iload_n 1, 1) := by decide +kernel
theorem d_V_placeAt_5 : decode c_V_placeAt 5 = .ok (.iadd, 1) := by decide +kernel
theorem d_V_placeAt_6 : decode c_V_placeAt 6 = .ok (.ireturn, 1) := by decide +kernel
theorem d_V_times_0 : decode c_V_times 0 = .ok (.iconst (0), 1) := by decide +kernel
theorem d_V_times_1 : decode c_V_times 1 = .ok (.istore_n 2, 1) := by decide +kernel
theorem d_V_times_2 : decode c_V_times 2 = .ok (.iload_n 0, 1) := by decide +kernel
theorem d_V_times_3 : decode c_V_times 3 = .ok (.istore_n 3, 1) := by decide +kernel
theorem d_V_times_4 : decode c_V_times 4 = .ok (.iconst (0), 1) := by decide +kernel
theorem d_V_times_5 : decode c_V_times 5 = .ok (.istore 4, 2) := by decide +kernel
theorem d_V_times_7 : decode c_V_times 7 = .ok (.iload 4, 2) := by decide +kernel
theorem d_V_times_9 : decode c_V_times 9 = .ok (.bipush (8), 2) := by decide +kernel
theorem d_V_times_11 : decode c_V_times 11 = .ok (.if_icmp .ge (40), 3) := by decide +kernel
theorem d_V_times_14 : decode c_V_times 14 = .ok (.iload_n 1, 1) := by decide +kernel
theorem d_V_times_15 : decode c_V_times 15 = .ok (.iload 4, 2) := by decide +kernel
theorem d_V_times_17 : decode c_V_times 17 = .ok (.ishr, 1) := by decide +kernel
theorem d_V_times_18 : decode c_V_times 18 = .ok (.iconst (1), 1) := by decide +kernel
theorem d_V_times_19 : decode c_V_times 19 = .ok (.iand, 1) := by decide +kernel
theorem d_V_times_20 : decode c_V_times 20 = .ok (.iconst (1), 1) := by decide +kernel
theorem d_V_times_21 : decode c_V_times 21 = .ok (.if_icmp .ne (7), 3) := by decide +kernel
theorem d_V_times_24 : decode c_V_times 24 = .ok (.iload_n 2, 1) := by decide +kernel
theorem d_V_times_25 : decode c_V_times 25 = .ok (.iload_n 3, 1) := by decide +kernel
theorem d_V_times_26 : decode c_V_times 26 = .ok (.ixor, 1) := by decide +kernel
theorem d_V_times_27 : decode c_V_times 27 = .ok (.istore_n 2, 1) := by decide +kernel
theorem d_V_times_28 : decode c_V_times 28 = .ok (.iload_n 3, 1) := by decide +kernel
theorem d_V_times_29 : decode c_V_times 29 = .ok (.iconst (2), 1) := by decide +kernel
theorem d_V_times_30 : decode c_V_times 30 = .ok (.imul, 1) := by decide +kernel
theorem d_V_times_31 : decode c_V_times 31 = .ok (.istore_n 3, 1) := by decide +kernel
theorem d_V_times_32 : decode c_V_times 32 = .ok (.iload_n 3, 1) := by decide +kernel
theorem d_V_times_33 : decode c_V_times 33 = .ok (.sipush (256), 3) := by decide +kernel
theorem d_V_times_36 : decode c_V_times 36 = .ok (.if_icmp .lt (9), 3) := by decide +kernel
theorem d_V_times_39 : decode c_V_times 39 = .ok (.iload_n 3, 1) := by decide +kernel
theorem d_V_times_40 : decode c_V_times 40 = .ok (.sipush (285), 3) := by decide +kernel
theorem d_V_times_43 : decode c_V_times 43 = .ok (.ixor, 1) := by decide +kernel
theorem d_V_times_44 : decode c_V_times 44 = .ok (.istore_n 3, 1) := by decide +kernel
theorem d_V_times_45 : decode c_V_times 45 = .ok (.iinc 4 (1), 3) := by decide +kernel
theorem d_V_times_48 : decode c_V_times 48 = .ok (.goto (-41), 3) := by decide +kernel
theorem d_V_times_51 : decode c_V_times 51 = .ok (.iload_n 2, 1) := by decide +kernel
theorem d_V_times_52 : decode c_V_times 52 = .ok (.ireturn, 1) := by decide +kernel
theorem d_V_inverse_0 : decode c_V_inverse 0 = .ok (.iload_n 0, 1) := by decide +kernel
theorem d_V_inverse_1 : decode c_V_inverse 1 = .ok (.istore_n 1, 1) := by decide +kernel
theorem d_V_inverse_2 : decode c_V_inverse 2 = .ok (.iconst (1), 1) := by decide +kernel
theorem d_V_inverse_3 : decode c_V_inverse 3 = .ok (.istore_n 2, 1) := by decide +kernel
theorem d_V_inverse_4 : decode c_V_inverse 4 = .ok (.iconst (1), 1) := by decide +kernel
theorem d_V_inverse_5 : decode c_V_inverse 5 = .ok (.istore_n 3, 1) := by decide +kernel
theorem d_V_inverse_6 : decode c_V_inverse 6 = .ok (.iload_n 3, 1) := by decide +kernel
theorem d_V_inverse_7 : decode c_V_inverse 7 = .ok (.bipush (8), 2) := by decide +kernel
theorem d_V_inverse_9 : decode c_V_inverse 9 = .ok (.if_icmp .ge (21), 3) := by decide +kernel
theorem d_V_inverse_12 : decode c_V_inverse 12 = .ok (.iload_n 1, 1) := by decide +kernel
theorem d_V_inverse_13 : decode c_V_inverse 13 = .ok (.iload_n 1, 1) := by decide +kernel
theorem d_V_inverse_14 : decode c_V_inverse 14 = .ok (.invokestatic 154, 3) := by decide +kernel
theorem d_V_inverse_17 : decode c_V_inverse 17 = .ok (.istore_n 1, 1) := by decide +kernel
theorem d_V_inverse_18 : decode c_V_inverse 18 = .ok (.iload_n 2, 1) := by decide +kernel
theorem d_V_inverse_19 : decode c_V_inverse 19 = .ok (.iload_n 1, 1) := by decide +kernel
theorem d_V_inverse_20 : decode c_V_inverse 20 = .ok (.invokestatic 154, 3) := by decide +kernel
theorem d_V_inverse_23 : decode c_V_inverse 23 = .ok (.istore_n 2, 1) := by decide +kernel
theorem d_V_inverse_24 : decode c_V_inverse 24 = .ok (.iinc 3 (1), 3) := by decide +kernel
theorem d_V_inverse_27 : decode c_V_inverse 27 = .ok (.goto (-21), 3) := by decide +kernel
theorem d_V_inverse_30 : decode c_V_inverse 30 = .ok (.iload_n 2, 1) := by decide +kernel
theorem d_V_inverse_31 : decode c_V_inverse 31 = .ok (.ireturn, 1) := by decide +kernel
theorem d_V_requireObject_0 : decode c_V_requireObject 0 = .ok (.iload_n 1, 1) := by decide +kernel
theorem d_V_requireObject_1 : decode c_V_requireObject 1 = .ok (.invokestatic 50, 3) := by decide +kernel
theorem d_V_requireObject_4 : decode c_V_requireObject 4 = .ok (.ifCond .eq (14), 3) := by decide +kernel
theorem d_V_requireObject_7 : decode c_V_requireObject 7 = .ok (.aload_n 0, 1) := by decide +kernel
theorem d_V_requireObject_8 : decode c_V_requireObject 8 = .ok (.getfield 32, 3) := by decide +kernel
theorem d_V_requireObject_11 : decode c_V_requireObject 11 = .ok (.iload_n 1, 1) := by decide +kernel
theorem d_V_requireObject_12 : decode c_V_requireObject 12 = .ok (.invokevirtual 54, 3) := by decide +kernel
theorem d_V_requireObject_15 : decode c_V_requireObject 15 = .ok (.ifCond .ne (11), 3) := by decide +kernel
theorem d_V_requireObject_18 : decode c_V_requireObject 18 = .ok (.new 171, 3) := by decide +kernel
theorem d_V_requireObject_21 : decode c_V_requireObject 21 = .ok (.dup, 1) := by decide +kernel
theorem d_V_requireObject_22 : decode c_V_requireObject 22 = .ok (.invokespecial 173, 3) := by decide +kernel
theorem d_V_requireObject_25 : decode c_V_requireObject 25 = .ok (.athrow, 1) := by decide +kernel
theorem d_V_requireObject_26 : decode c_V_requireObject 26 = .ok (.return_, 1) := by decide +kernel
theorem d_V_requireDisk_0 : decode c_V_requireDisk 0 = .ok (.iload_n 1, 1) := by decide +kernel
theorem d_V_requireDisk_1 : decode c_V_requireDisk 1 = .ok (.invokestatic 148, 3) := by decide +kernel
theorem d_V_requireDisk_4 : decode c_V_requireDisk 4 = .ok (.ifCond .ne (11), 3) := by decide +kernel
theorem d_V_requireDisk_7 : decode c_V_requireDisk 7 = .ok (.new 57, 3) := by decide +kernel
theorem d_V_requireDisk_10 : decode c_V_requireDisk 10 = .ok (.dup, 1) := by decide +kernel
theorem d_V_requireDisk_11 : decode c_V_requireDisk 11 = .ok (.invokespecial 59, 3) := by decide +kernel
theorem d_V_requireDisk_14 : decode c_V_requireDisk 14 = .ok (.athrow, 1) := by decide +kernel
theorem d_V_requireDisk_15 : decode c_V_requireDisk 15 = .ok (.return_, 1) := by decide +kernel
theorem d_V_requireStoredByte_0 : decode c_V_requireStoredByte 0 = .ok (.aload_n 0, 1) := by decide +kernel
theorem d_V_requireStoredByte_1 : decode c_V_requireStoredByte 1 = .ok (.iload_n 1, 1) := by decide +kernel
theorem d_V_requireStoredByte_2 : decode c_V_requireStoredByte 2 = .ok (.invokevirtual 98, 3) := by decide +kernel
theorem d_V_requireStoredByte_5 : decode c_V_requireStoredByte 5 = .ok (.iload_n 2, 1) := by decide +kernel
theorem d_V_requireStoredByte_6 : decode c_V_requireStoredByte 6 = .ok (.ifCond .lt (18), 3) := by decide +kernel
theorem d_V_requireStoredByte_9 : decode c_V_requireStoredByte 9 = .ok (.iload_n 2, 1) := by decide +kernel
theorem d_V_requireStoredByte_10 : decode c_V_requireStoredByte 10 = .ok (.bipush (10), 2) := by decide +kernel
theorem d_V_requireStoredByte_12 : decode c_V_requireStoredByte 12 = .ok (.if_icmp .ge (12), 3) := by decide +kernel
theorem d_V_requireStoredByte_15 : decode c_V_requireStoredByte 15 = .ok (.iload_n 3, 1) := by decide +kernel
theorem d_V_requireStoredByte_16 : decode c_V_requireStoredByte 16 = .ok (.ifCond .lt (8), 3) := by decide +kernel
theorem d_V_requireStoredByte_19 : decode c_V_requireStoredByte 19 = .ok (.iload_n 3, 1) := by decide +kernel
theorem d_V_requireStoredByte_20 : decode c_V_requireStoredByte 20 = .ok (.iconst (4), 1) := by decide +kernel
theorem d_V_requireStoredByte_21 : decode c_V_requireStoredByte 21 = .ok (.if_icmp .lt (11), 3) := by decide +kernel
theorem d_V_requireStoredByte_24 : decode c_V_requireStoredByte 24 = .ok (.new 57, 3) := by decide +kernel
theorem d_V_requireStoredByte_27 : decode c_V_requireStoredByte 27 = .ok (.dup, 1) := by decide +kernel
theorem d_V_requireStoredByte_28 : decode c_V_requireStoredByte 28 = .ok (.invokespecial 59, 3) := by decide +kernel
theorem d_V_requireStoredByte_31 : decode c_V_requireStoredByte 31 = .ok (.athrow, 1) := by decide +kernel
theorem d_V_requireStoredByte_32 : decode c_V_requireStoredByte 32 = .ok (.aload_n 0, 1) := by decide +kernel
theorem d_V_requireStoredByte_33 : decode c_V_requireStoredByte 33 = .ok (.getfield 25, 3) := by decide +kernel
theorem d_V_requireStoredByte_36 : decode c_V_requireStoredByte 36 = .ok (.iload_n 1, 1) := by decide +kernel
theorem d_V_requireStoredByte_37 : decode c_V_requireStoredByte 37 = .ok (.iload_n 2, 1) := by decide +kernel
theorem d_V_requireStoredByte_38 : decode c_V_requireStoredByte 38 = .ok (.invokestatic 133, 3) := by decide +kernel
theorem d_V_requireStoredByte_41 : decode c_V_requireStoredByte 41 = .ok (.invokevirtual 174, 3) := by decide +kernel
theorem d_V_requireStoredByte_44 : decode c_V_requireStoredByte 44 = .ok (.ifCond .ne (11), 3) := by decide +kernel
theorem d_V_requireStoredByte_47 : decode c_V_requireStoredByte 47 = .ok (.new 171, 3) := by decide +kernel
theorem d_V_requireStoredByte_50 : decode c_V_requireStoredByte 50 = .ok (.dup, 1) := by decide +kernel
theorem d_V_requireStoredByte_51 : decode c_V_requireStoredByte 51 = .ok (.invokespecial 173, 3) := by decide +kernel
theorem d_V_requireStoredByte_54 : decode c_V_requireStoredByte 54 = .ok (.athrow, 1) := by decide +kernel
theorem d_V_requireStoredByte_55 : decode c_V_requireStoredByte 55 = .ok (.return_, 1) := by decide +kernel
theorem d_V_placeDraft_0 : decode c_V_placeDraft 0 = .ok (.iconst (0), 1) := by decide +kernel
theorem d_V_placeDraft_1 : decode c_V_placeDraft 1 = .ok (.istore_n 2, 1) := by decide +kernel
theorem d_V_placeDraft_2 : decode c_V_placeDraft 2 = .ok (.iload_n 2, 1) := by decide +kernel
theorem d_V_placeDraft_3 : decode c_V_placeDraft 3 = .ok (.aload_n 0, 1) := by decide +kernel
theorem d_V_placeDraft_4 : decode c_V_placeDraft 4 = .ok (.getfield 32, 3) := by decide +kernel
theorem d_V_placeDraft_7 : decode c_V_placeDraft 7 = .ok (.iload_n 1, 1) := by decide +kernel
theorem d_V_placeDraft_8 : decode c_V_placeDraft 8 = .ok (.invokevirtual 73, 3) := by decide +kernel
theorem d_V_placeDraft_11 : decode c_V_placeDraft 11 = .ok (.if_icmp .ge (57), 3) := by decide +kernel
theorem d_V_placeDraft_14 : decode c_V_placeDraft 14 = .ok (.aload_n 0, 1) := by decide +kernel
theorem d_V_placeDraft_15 : decode c_V_placeDraft 15 = .ok (.iload_n 2, 1) := by decide +kernel
theorem d_V_placeDraft_16 : decode c_V_placeDraft 16 = .ok (.invokevirtual 177, 3) := by decide +kernel
theorem d_V_placeDraft_19 : decode c_V_placeDraft 19 = .ok (.aload_n 0, 1) := by decide +kernel
theorem d_V_placeDraft_20 : decode c_V_placeDraft 20 = .ok (.getfield 32, 3) := by decide +kernel
theorem d_V_placeDraft_23 : decode c_V_placeDraft 23 = .ok (.iload_n 1, 1) := by decide +kernel
theorem d_V_placeDraft_24 : decode c_V_placeDraft 24 = .ok (.iload_n 2, 1) := by decide +kernel
theorem d_V_placeDraft_25 : decode c_V_placeDraft 25 = .ok (.invokevirtual 83, 3) := by decide +kernel
theorem d_V_placeDraft_28 : decode c_V_placeDraft 28 = .ok (.istore_n 3, 1) := by decide +kernel
theorem d_V_placeDraft_29 : decode c_V_placeDraft 29 = .ok (.iconst (0), 1) := by decide +kernel
theorem d_V_placeDraft_30 : decode c_V_placeDraft 30 = .ok (.istore 4, 2) := by decide +kernel
theorem d_V_placeDraft_32 : decode c_V_placeDraft 32 = .ok (.iload 4, 2) := by decide +kernel
theorem d_V_placeDraft_34 : decode c_V_placeDraft 34 = .ok (.aload_n 0, 1) := by decide +kernel
theorem d_V_placeDraft_35 : decode c_V_placeDraft 35 = .ok (.getfield 18, 3) := by decide +kernel
theorem d_V_placeDraft_38 : decode c_V_placeDraft 38 = .ok (.getfield 142, 3) := by decide +kernel
theorem d_V_placeDraft_41 : decode c_V_placeDraft 41 = .ok (.if_icmp .ge (21), 3) := by decide +kernel
theorem d_V_placeDraft_44 : decode c_V_placeDraft 44 = .ok (.aload_n 0, 1) := by decide +kernel
theorem d_V_placeDraft_45 : decode c_V_placeDraft 45 = .ok (.iload_n 3, 1) := by decide +kernel
theorem d_V_placeDraft_46 : decode c_V_placeDraft 46 = .ok (.iload 4, 2) := by decide +kernel
theorem d_V_placeDraft_48 : decode c_V_placeDraft 48 = .ok (.invokevirtual 180, 3) := by decide +kernel
theorem d_V_placeDraft_51 : decode c_V_placeDraft 51 = .ok (.ifCond .ne (5), 3) := by decide +kernel
theorem d_V_placeDraft_54 : decode c_V_placeDraft 54 = .ok (.iconst (0), 1) := by decide +kernel
theorem d_V_placeDraft_55 : decode c_V_placeDraft 55 = .ok (.ireturn, 1) := by decide +kernel
theorem d_V_placeDraft_56 : decode c_V_placeDraft 56 = .ok (.iinc 4 (1), 3) := by decide +kernel
theorem d_V_placeDraft_59 : decode c_V_placeDraft 59 = .ok (.goto (-27), 3) := by decide +kernel
theorem d_V_placeDraft_62 : decode c_V_placeDraft 62 = .ok (.iinc 2 (1), 3) := by decide +kernel
theorem d_V_placeDraft_65 : decode c_V_placeDraft 65 = .ok (.goto (-63), 3) := by decide +kernel
theorem d_V_placeDraft_68 : decode c_V_placeDraft 68 = .ok (.iconst (1), 1) := by decide +kernel
theorem d_V_placeDraft_69 : decode c_V_placeDraft 69 = .ok (.ireturn, 1) := by decide +kernel
theorem d_V_takeDataFromDraft_0 : decode c_V_takeDataFromDraft 0 = .ok (.iload_n 1, 1) := by decide +kernel
theorem d_V_takeDataFromDraft_1 : decode c_V_takeDataFromDraft 1 = .ok (.aload_n 0, 1) := by decide +kernel
theorem d_V_takeDataFromDraft_2 : decode c_V_takeDataFromDraft 2 = .ok (.getfield 18, 3) := by decide +kernel
theorem d_V_takeDataFromDraft_5 : decode c_V_takeDataFromDraft 5 = .ok (.getfield 184, 3) := by decide +kernel
theorem d_V_takeDataFromDraft_8 : decode c_V_takeDataFromDraft 8 = .ok (.imul, 1) := by decide +kernel
theorem d_V_takeDataFromDraft_9 : decode c_V_takeDataFromDraft 9 = .ok (.istore_n 2, 1) := by decide +kernel
theorem d_V_takeDataFromDraft_10 : decode c_V_takeDataFromDraft 10 = .ok (.iconst (0), 1) := by decide +kernel
theorem d_V_takeDataFromDraft_11 : decode c_V_takeDataFromDraft 11 = .ok (.istore_n 3, 1) := by decide +kernel
theorem d_V_takeDataFromDraft_12 : decode c_V_takeDataFromDraft 12 = .ok (.iload_n 3, 1) := by decide +kernel
theorem d_V_takeDataFromDraft_13 : decode c_V_takeDataFromDraft 13 = .ok (.aload_n 0, 1) := by decide +kernel
theorem d_V_takeDataFromDraft_14 : decode c_V_takeDataFromDraft 14 = .ok (.getfield 18, 3) := by decide +kernel
theorem d_V_takeDataFromDraft_17 : decode c_V_takeDataFromDraft 17 = .ok (.getfield 184, 3) := by decide +kernel
theorem d_V_takeDataFromDraft_20 : decode c_V_takeDataFromDraft 20 = .ok (.if_icmp .ge (40), 3) := by decide +kernel
theorem d_V_takeDataFromDraft_23 : decode c_V_takeDataFromDraft 23 = .ok (.aload_n 0, 1) := by decide +kernel
theorem d_V_takeDataFromDraft_24 : decode c_V_takeDataFromDraft 24 = .ok (.getfield 18, 3) := by decide +kernel
theorem d_V_takeDataFromDraft_27 : decode c_V_takeDataFromDraft 27 = .ok (.getfield 187, 3) := by decide +kernel
theorem d_V_takeDataFromDraft_30 : decode c_V_takeDataFromDraft 30 = .ok (.iload_n 3, 1) := by decide +kernel
theorem d_V_takeDataFromDraft_31 : decode c_V_takeDataFromDraft 31 = .ok (.iload_n 2, 1) := by decide +kernel
theorem d_V_takeDataFromDraft_32 : decode c_V_takeDataFromDraft 32 = .ok (.iload_n 3, 1) := by decide +kernel
theorem d_V_takeDataFromDraft_33 : decode c_V_takeDataFromDraft 33 = .ok (.iadd, 1) := by decide +kernel
theorem d_V_takeDataFromDraft_34 : decode c_V_takeDataFromDraft 34 = .ok (.aload_n 0, 1) := by decide +kernel
theorem d_V_takeDataFromDraft_35 : decode c_V_takeDataFromDraft 35 = .ok (.getfield 40, 3) := by decide +kernel
theorem d_V_takeDataFromDraft_38 : decode c_V_takeDataFromDraft 38 = .ok (.if_icmp .ge (14), 3) := by decide +kernel
theorem d_V_takeDataFromDraft_41 : decode c_V_takeDataFromDraft 41 = .ok (.aload_n 0, 1) := by decide +kernel
theorem d_V_takeDataFromDraft_42 : decode c_V_takeDataFromDraft 42 = .ok (.getfield 36, 3) := by decide +kernel
theorem d_V_takeDataFromDraft_45 : decode c_V_takeDataFromDraft 45 = .ok (.iload_n 2, 1) := by decide +kernel
theorem d_V_takeDataFromDraft_46 : decode c_V_takeDataFromDraft 46 = .ok (.iload_n 3, 1) := by decide +kernel
theorem d_V_takeDataFromDraft_47 : decode c_V_takeDataFromDraft 47 = .ok (.iadd, 1) := by decide +kernel
theorem d_V_takeDataFromDraft_48 : decode c_V_takeDataFromDraft 48 = .ok (.iaload, 1) := by decide +kernel
theorem d_V_takeDataFromDraft_49 : decode c_V_takeDataFromDraft 49 = .ok (.goto (4), 3) := by decide +kernel
theorem d_V_takeDataFromDraft_52 : decode c_V_takeDataFromDraft 52 = .ok (.iconst (0), 1) := by decide +kernel
theorem d_V_takeDataFromDraft_53 : decode c_V_takeDataFromDraft 53 = .ok (.iastore, 1) := by decide +kernel
theorem d_V_takeDataFromDraft_54 : decode c_V_takeDataFromDraft 54 = .ok (.iinc 3 (1), 3) := by decide +kernel
theorem d_V_takeDataFromDraft_57 : decode c_V_takeDataFromDraft 57 = .ok (.goto (-45), 3) := by decide +kernel
theorem d_V_takeDataFromDraft_60 : decode c_V_takeDataFromDraft 60 = .ok (.return_, 1) := by decide +kernel
theorem d_V_copyDataToOutput_0 : decode c_V_copyDataToOutput 0 = .ok (.iload_n 1, 1) := by decide +kernel
theorem d_V_copyDataToOutput_1 : decode c_V_copyDataToOutput 1 = .ok (.aload_n 0, 1) := by decide +kernel
theorem d_V_copyDataToOutput_2 : decode c_V_copyDataToOutput 2 = .ok (.getfield 18, 3) := by decide +kernel
theorem d_V_copyDataToOutput_5 : decode c_V_copyDataToOutput 5 = .ok (.getfield 184, 3) := by decide +kernel
theorem d_V_copyDataToOutput_8 : decode c_V_copyDataToOutput 8 = .ok (.imul, 1) := by decide +kernel
theorem d_V_copyDataToOutput_9 : decode c_V_copyDataToOutput 9 = .ok (.istore_n 2, 1) := by decide +kernel
theorem d_V_copyDataToOutput_10 : decode c_V_copyDataToOutput 10 = .ok (.iconst (0), 1) := by decide +kernel
theorem d_V_copyDataToOutput_11 : decode c_V_copyDataToOutput 11 = .ok (.istore_n 3, 1) := by decide +kernel
theorem d_V_copyDataToOutput_12 : decode c_V_copyDataToOutput 12 = .ok (.iload_n 3, 1) := by decide +kernel
theorem d_V_copyDataToOutput_13 : decode c_V_copyDataToOutput 13 = .ok (.aload_n 0, 1) := by decide +kernel
theorem d_V_copyDataToOutput_14 : decode c_V_copyDataToOutput 14 = .ok (.getfield 18, 3) := by decide +kernel
theorem d_V_copyDataToOutput_17 : decode c_V_copyDataToOutput 17 = .ok (.getfield 184, 3) := by decide +kernel
theorem d_V_copyDataToOutput_20 : decode c_V_copyDataToOutput 20 = .ok (.if_icmp .ge (34), 3) := by decide +kernel
theorem d_V_copyDataToOutput_23 : decode c_V_copyDataToOutput 23 = .ok (.iload_n 2, 1) := by decide +kernel
theorem d_V_copyDataToOutput_24 : decode c_V_copyDataToOutput 24 = .ok (.iload_n 3, 1) := by decide +kernel
theorem d_V_copyDataToOutput_25 : decode c_V_copyDataToOutput 25 = .ok (.iadd, 1) := by decide +kernel
theorem d_V_copyDataToOutput_26 : decode c_V_copyDataToOutput 26 = .ok (.bipush (32), 2) := by decide +kernel
theorem d_V_copyDataToOutput_28 : decode c_V_copyDataToOutput 28 = .ok (.if_icmp .ge (26), 3) := by decide +kernel
theorem d_V_copyDataToOutput_31 : decode c_V_copyDataToOutput 31 = .ok (.aload_n 0, 1) := by decide +kernel
theorem d_V_copyDataToOutput_32 : decode c_V_copyDataToOutput 32 = .ok (.getfield 44, 3) := by decide +kernel
theorem d_V_copyDataToOutput_35 : decode c_V_copyDataToOutput 35 = .ok (.iload_n 2, 1) := by decide +kernel
theorem d_V_copyDataToOutput_36 : decode c_V_copyDataToOutput 36 = .ok (.iload_n 3, 1) := by decide +kernel
theorem d_V_copyDataToOutput_37 : decode c_V_copyDataToOutput 37 = .ok (.iadd, 1) := by decide +kernel
theorem d_V_copyDataToOutput_38 : decode c_V_copyDataToOutput 38 = .ok (.aload_n 0, 1) := by decide +kernel
theorem d_V_copyDataToOutput_39 : decode c_V_copyDataToOutput 39 = .ok (.getfield 18, 3) := by decide +kernel
theorem d_V_copyDataToOutput_42 : decode c_V_copyDataToOutput 42 = .ok (.getfield 187, 3) := by decide +kernel
theorem d_V_copyDataToOutput_45 : decode c_V_copyDataToOutput 45 = .ok (.iload_n 3, 1) := by decide +kernel
theorem d_V_copyDataToOutput_46 : decode c_V_copyDataToOutput 46 = .ok (.iaload, 1) := by decide +kernel
theorem d_V_copyDataToOutput_47 : decode c_V_copyDataToOutput 47 = .ok (.iastore, 1) := by decide +kernel
theorem d_V_copyDataToOutput_48 : decode c_V_copyDataToOutput 48 = .ok (.iinc 3 (1), 3) := by decide +kernel
theorem d_V_copyDataToOutput_51 : decode c_V_copyDataToOutput 51 = .ok (.goto (-39), 3) := by decide +kernel
theorem d_V_copyDataToOutput_54 : decode c_V_copyDataToOutput 54 = .ok (.return_, 1) := by decide +kernel
theorem d_V_placeShard_0 : decode c_V_placeShard 0 = .ok (.aload_n 0, 1) := by decide +kernel
theorem d_V_placeShard_1 : decode c_V_placeShard 1 = .ok (.iload_n 1, 1) := by decide +kernel
theorem d_V_placeShard_2 : decode c_V_placeShard 2 = .ok (.invokevirtual 190, 3) := by decide +kernel
theorem d_V_placeShard_5 : decode c_V_placeShard 5 = .ok (.istore_n 3, 1) := by decide +kernel
theorem d_V_placeShard_6 : decode c_V_placeShard 6 = .ok (.iload_n 3, 1) := by decide +kernel
theorem d_V_placeShard_7 : decode c_V_placeShard 7 = .ok (.iconst (-1), 1) := by decide +kernel
theorem d_V_placeShard_8 : decode c_V_placeShard 8 = .ok (.if_icmp .ne (7), 3) := by decide +kernel
theorem d_V_placeShard_11 : decode c_V_placeShard 11 = .ok (.iconst (-1), 1) := by decide +kernel
theorem d_V_placeShard_12 : decode c_V_placeShard 12 = .ok (.goto (11), 3) := by decide +kernel
theorem d_V_placeShard_15 : decode c_V_placeShard 15 = .ok (.aload_n 0, 1) := by decide +kernel
theorem d_V_placeShard_16 : decode c_V_placeShard 16 = .ok (.getfield 25, 3) := by decide +kernel
theorem d_V_placeShard_19 : decode c_V_placeShard 19 = .ok (.iload_n 3, 1) := by decide +kernel
theorem d_V_placeShard_20 : decode c_V_placeShard 20 = .ok (.invokevirtual 193, 3) := by decide +kernel
theorem d_V_placeShard_23 : decode c_V_placeShard 23 = .ok (.istore 4, 2) := by decide +kernel
theorem d_V_placeShard_25 : decode c_V_placeShard 25 = .ok (.iload 4, 2) := by decide +kernel
theorem d_V_placeShard_27 : decode c_V_placeShard 27 = .ok (.iconst (-1), 1) := by decide +kernel
theorem d_V_placeShard_28 : decode c_V_placeShard 28 = .ok (.if_icmp .ne (5), 3) := by decide +kernel
theorem d_V_placeShard_31 : decode c_V_placeShard 31 = .ok (.iconst (0), 1) := by decide +kernel
theorem d_V_placeShard_32 : decode c_V_placeShard 32 = .ok (.ireturn, 1) := by decide +kernel
theorem d_V_placeShard_33 : decode c_V_placeShard 33 = .ok (.iconst (0), 1) := by decide +kernel
theorem d_V_placeShard_34 : decode c_V_placeShard 34 = .ok (.istore 5, 2) := by decide +kernel
theorem d_V_placeShard_36 : decode c_V_placeShard 36 = .ok (.iload 5, 2) := by decide +kernel
theorem d_V_placeShard_38 : decode c_V_placeShard 38 = .ok (.iconst (4), 1) := by decide +kernel
theorem d_V_placeShard_39 : decode c_V_placeShard 39 = .ok (.if_icmp .ge (30), 3) := by decide +kernel
theorem d_V_placeShard_42 : decode c_V_placeShard 42 = .ok (.aload_n 0, 1) := by decide +kernel
theorem d_V_placeShard_43 : decode c_V_placeShard 43 = .ok (.getfield 25, 3) := by decide +kernel
theorem d_V_placeShard_46 : decode c_V_placeShard 46 = .ok (.iload 4, 2) := by decide +kernel
theorem d_V_placeShard_48 : decode c_V_placeShard 48 = .ok (.iload 5, 2) := by decide +kernel
theorem d_V_placeShard_50 : decode c_V_placeShard 50 = .ok (.aload_n 0, 1) := by decide +kernel
theorem d_V_placeShard_51 : decode c_V_placeShard 51 = .ok (.getfield 18, 3) := by decide +kernel
theorem d_V_placeShard_54 : decode c_V_placeShard 54 = .ok (.iload_n 2, 1) := by decide +kernel
theorem d_V_placeShard_55 : decode c_V_placeShard 55 = .ok (.iload 5, 2) := by decide +kernel
theorem d_V_placeShard_57 : decode c_V_placeShard 57 = .ok (.invokevirtual 196, 3) := by decide +kernel
theorem d_V_placeShard_60 : decode c_V_placeShard 60 = .ok (.invokevirtual 139, 3) := by decide +kernel
theorem d_V_placeShard_63 : decode c_V_placeShard 63 = .ok (.iinc 5 (1), 3) := by decide +kernel
theorem d_V_placeShard_66 : decode c_V_placeShard 66 = .ok (.goto (-30), 3) := by decide +kernel
theorem d_V_placeShard_69 : decode c_V_placeShard 69 = .ok (.aload_n 0, 1) := by decide +kernel
theorem d_V_placeShard_70 : decode c_V_placeShard 70 = .ok (.getfield 32, 3) := by decide +kernel
theorem d_V_placeShard_73 : decode c_V_placeShard 73 = .ok (.iload_n 1, 1) := by decide +kernel
theorem d_V_placeShard_74 : decode c_V_placeShard 74 = .ok (.iload_n 2, 1) := by decide +kernel
theorem d_V_placeShard_75 : decode c_V_placeShard 75 = .ok (.iload 4, 2) := by decide +kernel
theorem d_V_placeShard_77 : decode c_V_placeShard 77 = .ok (.invokevirtual 199, 3) := by decide +kernel
theorem d_V_placeShard_80 : decode c_V_placeShard 80 = .ok (.iconst (1), 1) := by decide +kernel
theorem d_V_placeShard_81 : decode c_V_placeShard 81 = .ok (.ireturn, 1) := by decide +kernel
theorem d_V_roomiestDiskFor_0 : decode c_V_roomiestDiskFor 0 = .ok (.iconst (-1), 1) := by decide +kernel
theorem d_V_roomiestDiskFor_1 : decode c_V_roomiestDiskFor 1 = .ok (.istore_n 2, 1) := by decide +kernel
theorem d_V_roomiestDiskFor_2 : decode c_V_roomiestDiskFor 2 = .ok (.iconst (0), 1) := by decide +kernel
theorem d_V_roomiestDiskFor_3 : decode c_V_roomiestDiskFor 3 = .ok (.istore_n 3, 1) := by decide +kernel
theorem d_V_roomiestDiskFor_4 : decode c_V_roomiestDiskFor 4 = .ok (.iconst (0), 1) := by decide +kernel
theorem d_V_roomiestDiskFor_5 : decode c_V_roomiestDiskFor 5 = .ok (.istore 4, 2) := by decide +kernel
theorem d_V_roomiestDiskFor_7 : decode c_V_roomiestDiskFor 7 = .ok (.iload 4, 2) := by decide +kernel
theorem d_V_roomiestDiskFor_9 : decode c_V_roomiestDiskFor 9 = .ok (.bipush (8), 2) := by decide +kernel
theorem d_V_roomiestDiskFor_11 : decode c_V_roomiestDiskFor 11 = .ok (.if_icmp .ge (57), 3) := by decide +kernel
theorem d_V_roomiestDiskFor_14 : decode c_V_roomiestDiskFor 14 = .ok (.aload_n 0, 1) := by decide +kernel
theorem d_V_roomiestDiskFor_15 : decode c_V_roomiestDiskFor 15 = .ok (.getfield 25, 3) := by decide +kernel
theorem d_V_roomiestDiskFor_18 : decode c_V_roomiestDiskFor 18 = .ok (.iload 4, 2) := by decide +kernel
theorem d_V_roomiestDiskFor_20 : decode c_V_roomiestDiskFor 20 = .ok (.invokevirtual 104, 3) := by decide +kernel
theorem d_V_roomiestDiskFor_23 : decode c_V_roomiestDiskFor 23 = .ok (.istore 5, 2) := by decide +kernel
theorem d_V_roomiestDiskFor_25 : decode c_V_roomiestDiskFor 25 = .ok (.aload_n 0, 1) := by decide +kernel
theorem d_V_roomiestDiskFor_26 : decode c_V_roomiestDiskFor 26 = .ok (.getfield 25, 3) := by decide +kernel
theorem d_V_roomiestDiskFor_29 : decode c_V_roomiestDiskFor 29 = .ok (.iload 4, 2) := by decide +kernel
theorem d_V_roomiestDiskFor_31 : decode c_V_roomiestDiskFor 31 = .ok (.invokevirtual 101, 3) := by decide +kernel
theorem d_V_roomiestDiskFor_34 : decode c_V_roomiestDiskFor 34 = .ok (.ifCond .eq (28), 3) := by decide +kernel
theorem d_V_roomiestDiskFor_37 : decode c_V_roomiestDiskFor 37 = .ok (.iload 5, 2) := by decide +kernel
theorem d_V_roomiestDiskFor_39 : decode c_V_roomiestDiskFor 39 = .ok (.iload_n 3, 1) := by decide +kernel
theorem d_V_roomiestDiskFor_40 : decode c_V_roomiestDiskFor 40 = .ok (.if_icmp .le (22), 3) := by decide +kernel
theorem d_V_roomiestDiskFor_43 : decode c_V_roomiestDiskFor 43 = .ok (.aload_n 0, 1) := by decide +kernel
theorem d_V_roomiestDiskFor_44 : decode c_V_roomiestDiskFor 44 = .ok (.getfield 32, 3) := by decide +kernel
theorem d_V_roomiestDiskFor_47 : decode c_V_roomiestDiskFor 47 = .ok (.iload_n 1, 1) := by decide +kernel
theorem d_V_roomiestDiskFor_48 : decode c_V_roomiestDiskFor 48 = .ok (.iload 4, 2) := by decide +kernel
theorem d_V_roomiestDiskFor_50 : decode c_V_roomiestDiskFor 50 = .ok (.invokevirtual 202, 3) := by decide +kernel
theorem d_V_roomiestDiskFor_53 : decode c_V_roomiestDiskFor 53 = .ok (.ifCond .ne (9), 3) := by decide +kernel
theorem d_V_roomiestDiskFor_56 : decode c_V_roomiestDiskFor 56 = .ok (.iload 4, 2) := by decide +kernel
theorem d_V_roomiestDiskFor_58 : decode c_V_roomiestDiskFor 58 = .ok (.istore_n 2, 1) := by decide +kernel
theorem d_V_roomiestDiskFor_59 : decode c_V_roomiestDiskFor 59 = .ok (.iload 5, 2) := by decide +kernel
theorem d_V_roomiestDiskFor_61 : decode c_V_roomiestDiskFor 61 = .ok (.istore_n 3, 1) := by decide +kernel
theorem d_V_roomiestDiskFor_62 : decode c_V_roomiestDiskFor 62 = .ok (.iinc 4 (1), 3) := by decide +kernel
theorem d_V_roomiestDiskFor_65 : decode c_V_roomiestDiskFor 65 = .ok (.goto (-58), 3) := by decide +kernel
theorem d_V_roomiestDiskFor_68 : decode c_V_roomiestDiskFor 68 = .ok (.iload_n 2, 1) := by decide +kernel
theorem d_V_roomiestDiskFor_69 : decode c_V_roomiestDiskFor 69 = .ok (.ireturn, 1) := by decide +kernel
theorem d_V_releaseObject_0 : decode c_V_releaseObject 0 = .ok (.iconst (0), 1) := by decide +kernel
theorem d_V_releaseObject_1 : decode c_V_releaseObject 1 = .ok (.istore_n 2, 1) := by decide +kernel
theorem d_V_releaseObject_2 : decode c_V_releaseObject 2 = .ok (.iconst (0), 1) := by decide +kernel
theorem d_V_releaseObject_3 : decode c_V_releaseObject 3 = .ok (.istore_n 3, 1) := by decide +kernel
theorem d_V_releaseObject_4 : decode c_V_releaseObject 4 = .ok (.iload_n 3, 1) := by decide +kernel
theorem d_V_releaseObject_5 : decode c_V_releaseObject 5 = .ok (.aload_n 0, 1) := by decide +kernel
theorem d_V_releaseObject_6 : decode c_V_releaseObject 6 = .ok (.getfield 32, 3) := by decide +kernel
theorem d_V_releaseObject_9 : decode c_V_releaseObject 9 = .ok (.iload_n 1, 1) := by decide +kernel
theorem d_V_releaseObject_10 : decode c_V_releaseObject 10 = .ok (.invokevirtual 73, 3) := by decide +kernel
theorem d_V_releaseObject_13 : decode c_V_releaseObject 13 = .ok (.if_icmp .ge (84), 3) := by decide +kernel
theorem d_V_releaseObject_16 : decode c_V_releaseObject 16 = .ok (.aload_n 0, 1) := by decide +kernel
theorem d_V_releaseObject_17 : decode c_V_releaseObject 17 = .ok (.getfield 32, 3) := by decide +kernel
theorem d_V_releaseObject_20 : decode c_V_releaseObject 20 = .ok (.iload_n 1, 1) := by decide +kernel
theorem d_V_releaseObject_21 : decode c_V_releaseObject 21 = .ok (.iload_n 3, 1) := by decide +kernel
theorem d_V_releaseObject_22 : decode c_V_releaseObject 22 = .ok (.invokevirtual 83, 3) := by decide +kernel
theorem d_V_releaseObject_25 : decode c_V_releaseObject 25 = .ok (.istore 4, 2) := by decide +kernel
theorem d_V_releaseObject_27 : decode c_V_releaseObject 27 = .ok (.iconst (0), 1) := by decide +kernel
theorem d_V_releaseObject_28 : decode c_V_releaseObject 28 = .ok (.istore 5, 2) := by decide +kernel
theorem d_V_releaseObject_30 : decode c_V_releaseObject 30 = .ok (.iload 5, 2) := by decide +kernel
theorem d_V_releaseObject_32 : decode c_V_releaseObject 32 = .ok (.aload_n 0, 1) := by decide +kernel
theorem d_V_releaseObject_33 : decode c_V_releaseObject 33 = .ok (.getfield 18, 3) := by decide +kernel
theorem d_V_releaseObject_36 : decode c_V_releaseObject 36 = .ok (.getfield 142, 3) := by decide +kernel
theorem d_V_releaseObject_39 : decode c_V_releaseObject 39 = .ok (.if_icmp .ge (52), 3) := by decide +kernel
theorem d_V_releaseObject_42 : decode c_V_releaseObject 42 = .ok (.aload_n 0, 1) := by decide +kernel
theorem d_V_releaseObject_43 : decode c_V_releaseObject 43 = .ok (.getfield 32, 3) := by decide +kernel
theorem d_V_releaseObject_46 : decode c_V_releaseObject 46 = .ok (.iload 4, 2) := by decide +kernel
theorem d_V_releaseObject_48 : decode c_V_releaseObject 48 = .ok (.iload 5, 2) := by decide +kernel
theorem d_V_releaseObject_50 : decode c_V_releaseObject 50 = .ok (.invokevirtual 145, 3) := by decide +kernel
theorem d_V_releaseObject_53 : decode c_V_releaseObject 53 = .ok (.istore 6, 2) := by decide +kernel
theorem d_V_releaseObject_55 : decode c_V_releaseObject 55 = .ok (.iload 6, 2) := by decide +kernel
theorem d_V_releaseObject_57 : decode c_V_releaseObject 57 = .ok (.iconst (-1), 1) := by decide +kernel
theorem d_V_releaseObject_58 : decode c_V_releaseObject 58 = .ok (.if_icmp .eq (27), 3) := by decide +kernel
theorem d_V_releaseObject_61 : decode c_V_releaseObject 61 = .ok (.aload_n 0, 1) := by decide +kernel
theorem d_V_releaseObject_62 : decode c_V_releaseObject 62 = .ok (.getfield 25, 3) := by decide +kernel
theorem d_V_releaseObject_65 : decode c_V_releaseObject 65 = .ok (.iload 6, 2) := by decide +kernel
theorem d_V_releaseObject_67 : decode c_V_releaseObject 67 = .ok (.invokevirtual 205, 3) := by decide +kernel
theorem d_V_releaseObject_70 : decode c_V_releaseObject 70 = .ok (.aload_n 0, 1) := by decide +kernel
theorem d_V_releaseObject_71 : decode c_V_releaseObject 71 = .ok (.getfield 32, 3) := by decide +kernel
theorem d_V_releaseObject_74 : decode c_V_releaseObject 74 = .ok (.iload 4, 2) := by decide +kernel
theorem d_V_releaseObject_76 : decode c_V_releaseObject 76 = .ok (.iload 5, 2) := by decide +kernel
theorem d_V_releaseObject_78 : decode c_V_releaseObject 78 = .ok (.iconst (-1), 1) := by decide +kernel
theorem d_V_releaseObject_79 : decode c_V_releaseObject 79 = .ok (.invokevirtual 199, 3) := by decide +kernel
theorem d_V_releaseObject_82 : decode c_V_releaseObject 82 = .ok (.iinc 2 (1), 3) := by decide +kernel
theorem d_V_releaseObject_85 : decode c_V_releaseObject 85 = .ok (.iinc 5 (1), 3) := by decide +kernel
theorem d_V_releaseObject_88 : decode c_V_releaseObject 88 = .ok (.goto (-58), 3) := by decide +kernel
theorem d_V_releaseObject_91 : decode c_V_releaseObject 91 = .ok (.iinc 3 (1), 3) := by decide +kernel
theorem d_V_releaseObject_94 : decode c_V_releaseObject 94 = .ok (.goto (-90), 3) := by decide +kernel
theorem d_V_releaseObject_97 : decode c_V_releaseObject 97 = .ok (.aload_n 0, 1) := by decide +kernel
theorem d_V_releaseObject_98 : decode c_V_releaseObject 98 = .ok (.getfield 32, 3) := by decide +kernel
theorem d_V_releaseObject_101 : decode c_V_releaseObject 101 = .ok (.iload_n 1, 1) := by decide +kernel
theorem d_V_releaseObject_102 : decode c_V_releaseObject 102 = .ok (.invokevirtual 208, 3) := by decide +kernel
theorem d_V_releaseObject_105 : decode c_V_releaseObject 105 = .ok (.iload_n 2, 1) := by decide +kernel
theorem d_V_releaseObject_106 : decode c_V_releaseObject 106 = .ok (.ireturn, 1) := by decide +kernel
theorem d_V_isGone_0 : decode c_V_isGone 0 = .ok (.aload_n 0, 1) := by decide +kernel
theorem d_V_isGone_1 : decode c_V_isGone 1 = .ok (.getfield 32, 3) := by decide +kernel
theorem d_V_isGone_4 : decode c_V_isGone 4 = .ok (.iload_n 1, 1) := by decide +kernel
theorem d_V_isGone_5 : decode c_V_isGone 5 = .ok (.invokevirtual 211, 3) := by decide +kernel
theorem d_V_isGone_8 : decode c_V_isGone 8 = .ok (.aload_n 0, 1) := by decide +kernel
theorem d_V_isGone_9 : decode c_V_isGone 9 = .ok (.getfield 18, 3) := by decide +kernel
theorem d_V_isGone_12 : decode c_V_isGone 12 = .ok (.getfield 142, 3) := by decide +kernel
theorem d_V_isGone_15 : decode c_V_isGone 15 = .ok (.aload_n 0, 1) := by decide +kernel
theorem d_V_isGone_16 : decode c_V_isGone 16 = .ok (.getfield 18, 3) := by decide +kernel
theorem d_V_isGone_19 : decode c_V_isGone 19 = .ok (.getfield 214, 3) := by decide +kernel
theorem d_V_isGone_22 : decode c_V_isGone 22 = .ok (.isub, 1) := by decide +kernel
theorem d_V_isGone_23 : decode c_V_isGone 23 = .ok (.if_icmp .le (7), 3) := by decide +kernel
theorem d_V_isGone_26 : decode c_V_isGone 26 = .ok (.iconst (1), 1) := by decide +kernel
theorem d_V_isGone_27 : decode c_V_isGone 27 = .ok (.goto (4), 3) := by decide +kernel
theorem d_V_isGone_30 : decode c_V_isGone 30 = .ok (.iconst (0), 1) := by decide +kernel
theorem d_V_isGone_31 : decode c_V_isGone 31 = .ok (.ireturn, 1) := by decide +kernel
theorem d_V_hasGoneStripe_0 : decode c_V_hasGoneStripe 0 = .ok (.iconst (0), 1) := by decide +kernel
theorem d_V_hasGoneStripe_1 : decode c_V_hasGoneStripe 1 = .ok (.istore_n 2, 1) := by decide +kernel
theorem d_V_hasGoneStripe_2 : decode c_V_hasGoneStripe 2 = .ok (.iload_n 2, 1) := by decide +kernel
theorem d_V_hasGoneStripe_3 : decode c_V_hasGoneStripe 3 = .ok (.aload_n 0, 1) := by decide +kernel
theorem d_V_hasGoneStripe_4 : decode c_V_hasGoneStripe 4 = .ok (.getfield 32, 3) := by decide +kernel
theorem d_V_hasGoneStripe_7 : decode c_V_hasGoneStripe 7 = .ok (.iload_n 1, 1) := by decide +kernel
theorem d_V_hasGoneStripe_8 : decode c_V_hasGoneStripe 8 = .ok (.invokevirtual 73, 3) := by decide +kernel
theorem d_V_hasGoneStripe_11 : decode c_V_hasGoneStripe 11 = .ok (.if_icmp .ge (27), 3) := by decide +kernel
theorem d_V_hasGoneStripe_14 : decode c_V_hasGoneStripe 14 = .ok (.aload_n 0, 1) := by decide +kernel
theorem d_V_hasGoneStripe_15 : decode c_V_hasGoneStripe 15 = .ok (.aload_n 0, 1) := by decide +kernel
theorem d_V_hasGoneStripe_16 : decode c_V_hasGoneStripe 16 = .ok (.getfield 32, 3) := by decide +kernel
theorem d_V_hasGoneStripe_19 : decode c_V_hasGoneStripe 19 = .ok (.iload_n 1, 1) := by decide +kernel
theorem d_V_hasGoneStripe_20 : decode c_V_hasGoneStripe 20 = .ok (.iload_n 2, 1) := by decide +kernel
theorem d_V_hasGoneStripe_21 : decode c_V_hasGoneStripe 21 = .ok (.invokevirtual 83, 3) := by decide +kernel
theorem d_V_hasGoneStripe_24 : decode c_V_hasGoneStripe 24 = .ok (.invokevirtual 123, 3) := by decide +kernel
theorem d_V_hasGoneStripe_27 : decode c_V_hasGoneStripe 27 = .ok (.ifCond .eq (5), 3) := by decide +kernel
theorem d_V_hasGoneStripe_30 : decode c_V_hasGoneStripe 30 = .ok (.iconst (1), 1) := by decide +kernel
theorem d_V_hasGoneStripe_31 : decode c_V_hasGoneStripe 31 = .ok (.ireturn, 1) := by decide +kernel
theorem d_V_hasGoneStripe_32 : decode c_V_hasGoneStripe 32 = .ok (.iinc 2 (1), 3) := by decide +kernel
theorem d_V_hasGoneStripe_35 : decode c_V_hasGoneStripe 35 = .ok (.goto (-33), 3) := by decide +kernel
theorem d_V_hasGoneStripe_38 : decode c_V_hasGoneStripe 38 = .ok (.iconst (0), 1) := by decide +kernel
theorem d_V_hasGoneStripe_39 : decode c_V_hasGoneStripe 39 = .ok (.ireturn, 1) := by decide +kernel
theorem d_V_readStripe_0 : decode c_V_readStripe 0 = .ok (.aload_n 0, 1) := by decide +kernel
theorem d_V_readStripe_1 : decode c_V_readStripe 1 = .ok (.getfield 18, 3) := by decide +kernel
theorem d_V_readStripe_4 : decode c_V_readStripe 4 = .ok (.getfield 214, 3) := by decide +kernel
theorem d_V_readStripe_7 : decode c_V_readStripe 7 = .ok (.istore_n 2, 1) := by decide +kernel
theorem d_V_readStripe_8 : decode c_V_readStripe 8 = .ok (.iconst (1), 1) := by decide +kernel
theorem d_V_readStripe_9 : decode c_V_readStripe 9 = .ok (.istore_n 3, 1) := by decide +kernel
theorem d_V_readStripe_10 : decode c_V_readStripe 10 = .ok (.iconst (0), 1) := by decide +kernel
theorem d_V_readStripe_11 : decode c_V_readStripe 11 = .ok (.istore 4, 2) := by decide +kernel
theorem d_V_readStripe_13 : decode c_V_readStripe 13 = .ok (.iload 4, 2) := by decide +kernel
theorem d_V_readStripe_15 : decode c_V_readStripe 15 = .ok (.aload_n 0, 1) := by decide +kernel
theorem d_V_readStripe_16 : decode c_V_readStripe 16 = .ok (.getfield 18, 3) := by decide +kernel
theorem d_V_readStripe_19 : decode c_V_readStripe 19 = .ok (.getfield 214, 3) := by decide +kernel
theorem d_V_readStripe_22 : decode c_V_readStripe 22 = .ok (.if_icmp .ge (51), 3) := by decide +kernel
theorem d_V_readStripe_25 : decode c_V_readStripe 25 = .ok (.iload 4, 2) := by decide +kernel
theorem d_V_readStripe_27 : decode c_V_readStripe 27 = .ok (.istore 5, 2) := by decide +kernel
theorem d_V_readStripe_29 : decode c_V_readStripe 29 = .ok (.aload_n 0, 1) := by decide +kernel
theorem d_V_readStripe_30 : decode c_V_readStripe 30 = .ok (.getfield 32, 3) := by decide +kernel
theorem d_V_readStripe_33 : decode c_V_readStripe 33 = .ok (.iload_n 1, 1) := by decide +kernel
theorem d_V_readStripe_34 : decode c_V_readStripe 34 = .ok (.iload 4, 2) := by decide +kernel
theorem d_V_readStripe_36 : decode c_V_readStripe 36 = .ok (.invokevirtual 145, 3) := by decide +kernel
theorem d_V_readStripe_39 : decode c_V_readStripe 39 = .ok (.iconst (-1), 1) := by decide +kernel
theorem d_V_readStripe_40 : decode c_V_readStripe 40 = .ok (.if_icmp .ne (18), 3) := by decide +kernel
theorem d_V_readStripe_43 : decode c_V_readStripe 43 = .ok (.iconst (0), 1) := by decide +kernel
theorem d_V_readStripe_44 : decode c_V_readStripe 44 = .ok (.istore_n 3, 1) := by decide +kernel
theorem d_V_readStripe_45 : decode c_V_readStripe 45 = .ok (.aload_n 0, 1) := by decide +kernel
theorem d_V_readStripe_46 : decode c_V_readStripe 46 = .ok (.iload_n 1, 1) := by decide +kernel
theorem d_V_readStripe_47 : decode c_V_readStripe 47 = .ok (.iload_n 2, 1) := by decide +kernel
theorem d_V_readStripe_48 : decode c_V_readStripe 48 = .ok (.invokevirtual 217, 3) := by decide +kernel
theorem d_V_readStripe_51 : decode c_V_readStripe 51 = .ok (.istore_n 2, 1) := by decide +kernel
theorem d_V_readStripe_52 : decode c_V_readStripe 52 = .ok (.iload_n 2, 1) := by decide +kernel
theorem d_V_readStripe_53 : decode c_V_readStripe 53 = .ok (.istore 5, 2) := by decide +kernel
theorem d_V_readStripe_55 : decode c_V_readStripe 55 = .ok (.iinc 2 (1), 3) := by decide +kernel
theorem d_V_readStripe_58 : decode c_V_readStripe 58 = .ok (.aload_n 0, 1) := by decide +kernel
theorem d_V_readStripe_59 : decode c_V_readStripe 59 = .ok (.iload_n 1, 1) := by decide +kernel
theorem d_V_readStripe_60 : decode c_V_readStripe 60 = .ok (.iload 4, 2) := by decide +kernel
theorem d_V_readStripe_62 : decode c_V_readStripe 62 = .ok (.iload 5, 2) := by decide +kernel
theorem d_V_readStripe_64 : decode c_V_readStripe 64 = .ok (.invokevirtual 220, 3) := by decide +kernel
theorem d_V_readStripe_67 : decode c_V_readStripe 67 = .ok (.iinc 4 (1), 3) := by decide +kernel
theorem d_V_readStripe_70 : decode c_V_readStripe 70 = .ok (.goto (-57), 3) := by decide +kernel
theorem d_V_readStripe_73 : decode c_V_readStripe 73 = .ok (.iload_n 3, 1) := by decide +kernel
theorem d_V_readStripe_74 : decode c_V_readStripe 74 = .ok (.ifCond .ne (10), 3) := by decide +kernel
theorem d_V_readStripe_77 : decode c_V_readStripe 77 = .ok (.aload_n 0, 1) := by decide +kernel
theorem d_V_readStripe_78 : decode c_V_readStripe 78 = .ok (.getfield 18, 3) := by decide +kernel
theorem d_V_readStripe_81 : decode c_V_readStripe 81 = .ok (.invokevirtual 223, 3) := by decide +kernel
theorem d_V_readStripe_84 : decode c_V_readStripe 84 = .ok (.return_, 1) := by decide +kernel
