/-! decode rows -/
theorem d_G_loseDisk_0 : decode c_G_loseDisk 0 = .ok (.iconst (0), 1) := by decide +kernel
theorem d_G_loseDisk_1 : decode c_G_loseDisk 1 = .ok (.istore_n 2, 1) := by decide +kernel
theorem d_G_loseDisk_2 : decode c_G_loseDisk 2 = .ok (.iload_n 2, 1) := by decide +kernel
theorem d_G_loseDisk_3 : decode c_G_loseDisk 3 = .ok (.aload_n 0, 1) := by decide +kernel
theorem d_G_loseDisk_4 : decode c_G_loseDisk 4 = .ok (.getfield 22, 3) := by decide +kernel
theorem d_G_loseDisk_7 : decode c_G_loseDisk 7 = .ok (.arraylength, 1) := by decide +kernel
theorem d_G_loseDisk_8 : decode c_G_loseDisk 8 = .ok (.if_icmp .ge (29), 3) := by decide +kernel
theorem d_G_loseDisk_11 : decode c_G_loseDisk 11 = .ok (.aload_n 0, 1) := by decide +kernel
theorem d_G_loseDisk_12 : decode c_G_loseDisk 12 = .ok (.getfield 22, 3) := by decide +kernel
theorem d_G_loseDisk_15 : decode c_G_loseDisk 15 = .ok (.iload_n 2, 1) := by decide +kernel
theorem d_G_loseDisk_16 : decode c_G_loseDisk 16 = .ok (.iaload, 1) := by decide +kernel
theorem d_G_loseDisk_17 : decode c_G_loseDisk 17 = .ok (.iload_n 1, 1) := by decide +kernel
theorem d_G_loseDisk_18 : decode c_G_loseDisk 18 = .ok (.invokestatic 31, 3) := by decide +kernel
theorem d_G_loseDisk_21 : decode c_G_loseDisk 21 = .ok (.ifCond .eq (10), 3) := by decide +kernel
theorem d_G_loseDisk_24 : decode c_G_loseDisk 24 = .ok (.aload_n 0, 1) := by decide +kernel
theorem d_G_loseDisk_25 : decode c_G_loseDisk 25 = .ok (.getfield 22, 3) := by decide +kernel
theorem d_G_loseDisk_28 : decode c_G_loseDisk 28 = .ok (.iload_n 2, 1) := by decide +kernel
theorem d_G_loseDisk_29 : decode c_G_loseDisk 29 = .ok (.iconst (-1), 1) := by decide +kernel
theorem d_G_loseDisk_30 : decode c_G_loseDisk 30 = .ok (.iastore, 1) := by decide +kernel
theorem d_G_loseDisk_31 : decode c_G_loseDisk 31 = .ok (.iinc 2 (1), 3) := by decide +kernel
theorem d_G_loseDisk_34 : decode c_G_loseDisk 34 = .ok (.goto (-32), 3) := by decide +kernel
theorem d_G_loseDisk_37 : decode c_G_loseDisk 37 = .ok (.return_, 1) := by decide +kernel
theorem d_G_isPlaceOnDisk_0 : decode c_G_isPlaceOnDisk 0 = .ok (.iload_n 0, 1) := by decide +kernel
theorem d_G_isPlaceOnDisk_1 : decode c_G_isPlaceOnDisk 1 = .ok (.iconst (-1), 1) := by decide +kernel
theorem d_G_isPlaceOnDisk_2 : decode c_G_isPlaceOnDisk 2 = .ok (.if_icmp .eq (15), 3) := by decide +kernel
theorem d_G_isPlaceOnDisk_5 : decode c_G_isPlaceOnDisk 5 = .ok (.iload_n 0, 1) := by decide +kernel
theorem d_G_isPlaceOnDisk_6 : decode c_G_isPlaceOnDisk 6 = .ok (.bipush (16), 2) := by decide +kernel
theorem d_G_isPlaceOnDisk_8 : decode c_G_isPlaceOnDisk 8 = .ok (.idiv, 1) := by decide +kernel
theorem d_G_isPlaceOnDisk_9 : decode c_G_isPlaceOnDisk 9 = .ok (.iload_n 1, 1) := by decide +kernel
theorem d_G_isPlaceOnDisk_10 : decode c_G_isPlaceOnDisk 10 = .ok (.if_icmp .ne (7), 3) := by decide +kernel
theorem d_G_isPlaceOnDisk_13 : decode c_G_isPlaceOnDisk 13 = .ok (.iconst (1), 1) := by decide +kernel
theorem d_G_isPlaceOnDisk_14 : decode c_G_isPlaceOnDisk 14 = .ok (.goto (4), 3) := by decide +kernel
theorem d_G_isPlaceOnDisk_17 : decode c_G_isPlaceOnDisk 17 = .ok (.iconst (0), 1) := by decide +kernel
theorem d_G_isPlaceOnDisk_18 : decode c_G_isPlaceOnDisk 18 = .ok (.ireturn, 1) := by decide +kernel
theorem d_C_init_0 : decode c_C_init 0 = .ok (.aload_n 0, 1) := by decide +kernel
theorem d_C_init_1 : decode c_C_init 1 = .ok (.invokespecial 3, 3) := by decide +kernel
theorem d_C_init_4 : decode c_C_init 4 = .ok (.aload_n 0, 1) := by decide +kernel
theorem d_C_init_5 : decode c_C_init 5 = .ok (.iload_n 1, 1) := by decide +kernel
theorem d_C_init_6 : decode c_C_init 6 = .ok (.putfield 9, 3) := by decide +kernel
theorem d_C_init_9 : decode c_C_init 9 = .ok (.aload_n 0, 1) := by decide +kernel
theorem d_C_init_10 : decode c_C_init 10 = .ok (.iload_n 2, 1) := by decide +kernel
theorem d_C_init_11 : decode c_C_init 11 = .ok (.putfield 15, 3) := by decide +kernel
theorem d_C_init_14 : decode c_C_init 14 = .ok (.aload_n 0, 1) := by decide +kernel
theorem d_C_init_15 : decode c_C_init 15 = .ok (.iconst (4), 1) := by decide +kernel
theorem d_C_init_16 : decode c_C_init 16 = .ok (.iload_n 1, 1) := by decide +kernel
theorem d_C_init_17 : decode c_C_init 17 = .ok (.imul, 1) := by decide +kernel
theorem d_C_init_18 : decode c_C_init 18 = .ok (.putfield 18, 3) := by decide +kernel
theorem d_C_init_21 : decode c_C_init 21 = .ok (.aload_n 0, 1) := by decide +kernel
theorem d_C_init_22 : decode c_C_init 22 = .ok (.aload_n 0, 1) := by decide +kernel
theorem d_C_init_23 : decode c_C_init 23 = .ok (.getfield 18, 3) := by decide +kernel
theorem d_C_init_26 : decode c_C_init 26 = .ok (.newarray .int, 2) := by decide +kernel
theorem d_C_init_28 : decode c_C_init 28 = .ok (.putfield 21, 3) := by decide +kernel
theorem d_C_init_31 : decode c_C_init 31 = .ok (.aload_n 0, 1) := by decide +kernel
theorem d_C_init_32 : decode c_C_init 32 = .ok (.iload_n 1, 1) := by decide +kernel
theorem d_C_init_33 : decode c_C_init 33 = .ok (.iload_n 1, 1) := by decide +kernel
theorem d_C_init_34 : decode c_C_init 34 = .ok (.imul, 1) := by decide +kernel
theorem d_C_init_35 : decode c_C_init 35 = .ok (.newarray .int, 2) := by decide +kernel
theorem d_C_init_37 : decode c_C_init 37 = .ok (.putfield 25, 3) := by decide +kernel
theorem d_C_init_40 : decode c_C_init 40 = .ok (.aload_n 0, 1) := by decide +kernel
theorem d_C_init_41 : decode c_C_init 41 = .ok (.iload_n 2, 1) := by decide +kernel
theorem d_C_init_42 : decode c_C_init 42 = .ok (.iload_n 1, 1) := by decide +kernel
theorem d_C_init_43 : decode c_C_init 43 = .ok (.imul, 1) := by decide +kernel
theorem d_C_init_44 : decode c_C_init 44 = .ok (.newarray .int, 2) := by decide +kernel
theorem d_C_init_46 : decode c_C_init 46 = .ok (.putfield 28, 3) := by decide +kernel
theorem d_C_init_49 : decode c_C_init 49 = .ok (.iconst (0), 1) := by decide +kernel
theorem d_C_init_50 : decode c_C_init 50 = .ok (.istore_n 3, 1) := by decide +kernel
theorem d_C_init_51 : decode c_C_init 51 = .ok (.iload_n 3, 1) := by decide +kernel
theorem d_C_init_52 : decode c_C_init 52 = .ok (.iload_n 2, 1) := by decide +kernel
theorem d_C_init_53 : decode c_C_init 53 = .ok (.if_icmp .ge (42), 3) := by decide +kernel
theorem d_C_init_56 : decode c_C_init 56 = .ok (.iconst (0), 1) := by decide +kernel
theorem d_C_init_57 : decode c_C_init 57 = .ok (.istore 4, 2) := by decide +kernel
theorem d_C_init_59 : decode c_C_init 59 = .ok (.iload 4, 2) := by decide +kernel
theorem d_C_init_61 : decode c_C_init 61 = .ok (.iload_n 1, 1) := by decide +kernel
theorem d_C_init_62 : decode c_C_init 62 = .ok (.if_icmp .ge (27), 3) := by decide +kernel
theorem d_C_init_65 : decode c_C_init 65 = .ok (.aload_n 0, 1) := by decide +kernel
theorem d_C_init_66 : decode c_C_init 66 = .ok (.getfield 28, 3) := by decide +kernel
theorem d_C_init_69 : decode c_C_init 69 = .ok (.iload_n 3, 1) := by decide +kernel
theorem d_C_init_70 : decode c_C_init 70 = .ok (.iload_n 1, 1) := by decide +kernel
theorem d_C_init_71 : decode c_C_init 71 = .ok (.imul, 1) := by decide +kernel
theorem d_C_init_72 : decode c_C_init 72 = .ok (.iload 4, 2) := by decide +kernel
theorem d_C_init_74 : decode c_C_init 74 = .ok (.iadd, 1) := by decide +kernel
theorem d_C_init_75 : decode c_C_init 75 = .ok (.iload_n 3, 1) := by decide +kernel
theorem d_C_init_76 : decode c_C_init 76 = .ok (.iload 4, 2) := by decide +kernel
theorem d_C_init_78 : decode c_C_init 78 = .ok (.iload_n 1, 1) := by decide +kernel
theorem d_C_init_79 : decode c_C_init 79 = .ok (.invokestatic 31, 3) := by decide +kernel
theorem d_C_init_82 : decode c_C_init 82 = .ok (.iastore, 1) := by decide +kernel
theorem d_C_init_83 : decode c_C_init 83 = .ok (.iinc 4 (1), 3) := by decide +kernel
theorem d_C_init_86 : decode c_C_init 86 = .ok (.goto (-27), 3) := by decide +kernel
theorem d_C_init_89 : decode c_C_init 89 = .ok (.iinc 3 (1), 3) := by decide +kernel
theorem d_C_init_92 : decode c_C_init 92 = .ok (.goto (-41), 3) := by decide +kernel
theorem d_C_init_95 : decode c_C_init 95 = .ok (.return_, 1) := by decide +kernel
theorem d_C_factor_0 : decode c_C_factor 0 = .ok (.iload_n 0, 1) := by decide +kernel
theorem d_C_factor_1 : decode c_C_factor 1 = .ok (.iload_n 2, 1) := by decide +kernel
theorem d_C_factor_2 : decode c_C_factor 2 = .ok (.if_icmp .ge (14), 3) := by decide +kernel
theorem d_C_factor_5 : decode c_C_factor 5 = .ok (.iload_n 0, 1) := by decide +kernel
theorem d_C_factor_6 : decode c_C_factor 6 = .ok (.iload_n 1, 1) := by decide +kernel
theorem d_C_factor_7 : decode c_C_factor 7 = .ok (.if_icmp .ne (7), 3) := by decide +kernel
theorem d_C_factor_10 : decode c_C_factor 10 = .ok (.iconst (1), 1) := by decide +kernel
theorem d_C_factor_11 : decode c_C_factor 11 = .ok (.goto (4), 3) := by decide +kernel
theorem d_C_factor_14 : decode c_C_factor 14 = .ok (.iconst (0), 1) := by decide +kernel
theorem d_C_factor_15 : decode c_C_factor 15 = .ok (.ireturn, 1) := by decide +kernel
theorem d_C_factor_16 : decode c_C_factor 16 = .ok (.iload_n 0, 1) := by decide +kernel
theorem d_C_factor_17 : decode c_C_factor 17 = .ok (.iload_n 1, 1) := by decide +kernel
theorem d_C_factor_18 : decode c_C_factor 18 = .ok (.ixor, 1) := by decide +kernel
theorem d_C_factor_19 : decode c_C_factor 19 = .ok (.invokestatic 35, 3) := by decide +kernel
theorem d_C_factor_22 : decode c_C_factor 22 = .ok (.ireturn, 1) := by decide +kernel
theorem d_C_shardByte_0 : decode c_C_shardByte 0 = .ok (.iload_n 1, 1) := by decide +kernel
theorem d_C_shardByte_1 : decode c_C_shardByte 1 = .ok (.aload_n 0, 1) := by decide +kernel
theorem d_C_shardByte_2 : decode c_C_shardByte 2 = .ok (.getfield 9, 3) := by decide +kernel
theorem d_C_shardByte_5 : decode c_C_shardByte 5 = .ok (.if_icmp .ge (14), 3) := by decide +kernel
theorem d_C_shardByte_8 : decode c_C_shardByte 8 = .ok (.aload_n 0, 1) := by decide +kernel
theorem d_C_shardByte_9 : decode c_C_shardByte 9 = .ok (.getfield 21, 3) := by decide +kernel
theorem d_C_shardByte_12 : decode c_C_shardByte 12 = .ok (.iload_n 1, 1) := by decide +kernel
theorem d_C_shardByte_13 : decode c_C_shardByte 13 = .ok (.iconst (4), 1) := by decide +kernel
theorem d_C_shardByte_14 : decode c_C_shardByte 14 = .ok (.imul, 1) := by decide +kernel
theorem d_C_shardByte_15 : decode c_C_shardByte 15 = .ok (.iload_n 2, 1) := by decide +kernel
theorem d_C_shardByte_16 : decode c_C_shardByte 16 = .ok (.iadd, 1) := by decide +kernel
theorem d_C_shardByte_17 : decode c_C_shardByte 17 = .ok (.iaload, 1) := by decide +kernel
theorem d_C_shardByte_18 : decode c_C_shardByte 18 = .ok (.ireturn, 1) := by decide +kernel
theorem d_C_shardByte_19 : decode c_C_shardByte 19 = .ok (.iconst (0), 1) := by decide +kernel
theorem d_C_shardByte_20 : decode c_C_shardByte 20 = .ok (.istore_n 3, 1) := by decide +kernel
theorem d_C_shardByte_21 : decode c_C_shardByte 21 = .ok (.iconst (0), 1) := by decide +kernel
theorem d_C_shardByte_22 : decode c_C_shardByte 22 = .ok (.istore 4, 2) := by decide +kernel
theorem d_C_shardByte_24 : decode c_C_shardByte 24 = .ok (.iload 4, 2) := by decide +kernel
theorem d_C_shardByte_26 : decode c_C_shardByte 26 = .ok (.aload_n 0, 1) := by decide +kernel
theorem d_C_shardByte_27 : decode c_C_shardByte 27 = .ok (.getfield 9, 3) := by decide +kernel
theorem d_C_shardByte_30 : decode c_C_shardByte 30 = .ok (.if_icmp .ge (40), 3) := by decide +kernel
theorem d_C_shardByte_33 : decode c_C_shardByte 33 = .ok (.iload_n 3, 1) := by decide +kernel
theorem d_C_shardByte_34 : decode c_C_shardByte 34 = .ok (.aload_n 0, 1) := by decide +kernel
theorem d_C_shardByte_35 : decode c_C_shardByte 35 = .ok (.getfield 28, 3) := by decide +kernel
theorem d_C_shardByte_38 : decode c_C_shardByte 38 = .ok (.iload_n 1, 1) := by decide +kernel
theorem d_C_shardByte_39 : decode c_C_shardByte 39 = .ok (.aload_n 0, 1) := by decide +kernel
theorem d_C_shardByte_40 : decode c_C_shardByte 40 = .ok (.getfield 9, 3) := by decide +kernel
theorem d_C_shardByte_43 : decode c_C_shardByte 43 = .ok (.imul, 1) := by decide +kernel
theorem d_C_shardByte_44 : decode c_C_shardByte 44 = .ok (.iload 4, 2) := by decide +kernel
theorem d_C_shardByte_46 : decode c_C_shardByte 46 = .ok (.iadd, 1) := by decide +kernel
theorem d_C_shardByte_47 : decode c_C_shardByte 47 = .ok (.iaload, 1) := by decide +kernel
theorem d_C_shardByte_48 : decode c_C_shardByte 48 = .ok (.aload_n 0, 1) := by decide +kernel
theorem d_C_shardByte_49 : decode c_C_shardByte 49 = .ok (.getfield 21, 3) := by decide +kernel
theorem d_C_shardByte_52 : decode c_C_shardByte 52 = .ok (.iload 4, 2) := by decide +kernel
theorem d_C_shardByte_54 : decode c_C_shardByte 54 = .ok (.iconst (4), 1) := by decide +kernel
theorem d_C_shardByte_55 : decode c_C_shardByte 55 = .ok (.imul, 1) := by decide +kernel
theorem d_C_shardByte_56 : decode c_C_shardByte 56 = .ok (.iload_n 2, 1) := by decide +kernel
theorem d_C_shardByte_57 : decode c_C_shardByte 57 = .ok (.iadd, 1) := by decide +kernel
theorem d_C_shardByte_58 : decode c_C_shardByte 58 = .ok (.iaload, 1) := by decide +kernel
theorem d_C_shardByte_59 : decode c_C_shardByte 59 = .ok (.invokestatic 39, 3) := by decide +kernel
theorem d_C_shardByte_62 : decode c_C_shardByte 62 = .ok (.ixor, 1) := by decide +kernel
theorem d_C_shardByte_63 : decode c_C_shardByte 63 = .ok (.istore_n 3, 1) := by decide +kernel
theorem d_C_shardByte_64 : decode c_C_shardByte 64 = .ok (.iinc 4 (1), 3) := by decide +kernel
theorem d_C_shardByte_67 : decode c_C_shardByte 67 = .ok (.goto (-43), 3) := by decide +kernel
theorem d_C_shardByte_70 : decode c_C_shardByte 70 = .ok (.iload_n 3, 1) := by decide +kernel
theorem d_C_shardByte_71 : decode c_C_shardByte 71 = .ok (.ireturn, 1) := by decide +kernel
theorem d_C_setEquation_0 : decode c_C_setEquation 0 = .ok (.aload_n 0, 1) := by decide +kernel
theorem d_C_setEquation_1 : decode c_C_setEquation 1 = .ok (.getfield 28, 3) := by decide +kernel
theorem d_C_setEquation_4 : decode c_C_setEquation 4 = .ok (.iload_n 2, 1) := by decide +kernel
theorem d_C_setEquation_5 : decode c_C_setEquation 5 = .ok (.aload_n 0, 1) := by decide +kernel
theorem d_C_setEquation_6 : decode c_C_setEquation 6 = .ok (.getfield 9, 3) := by decide +kernel
theorem d_C_setEquation_9 : decode c_C_setEquation 9 = .ok (.imul, 1) := by decide +kernel
theorem d_C_setEquation_10 : decode c_C_setEquation 10 = .ok (.aload_n 0, 1) := by decide +kernel
theorem d_C_setEquation_11 : decode c_C_setEquation 11 = .ok (.getfield 25, 3) := by decide +kernel
theorem d_C_setEquation_14 : decode c_C_setEquation 14 = .ok (.iload_n 1, 1) := by decide +kernel
theorem d_C_setEquation_15 : decode c_C_setEquation 15 = .ok (.aload_n 0, 1) := by decide +kernel
theorem d_C_setEquation_16 : decode c_C_setEquation 16 = .ok (.getfield 9, 3) := by decide +kernel
theorem d_C_setEquation_19 : decode c_C_setEquation 19 = .ok (.imul, 1) := by decide +kernel
theorem d_C_setEquation_20 : decode c_C_setEquation 20 = .ok (.aload_n 0, 1) := by decide +kernel
theorem d_C_setEquation_21 : decode c_C_setEquation 21 = .ok (.getfield 9, 3) := by decide +kernel
theorem d_C_setEquation_24 : decode c_C_setEquation 24 = .ok (.invokestatic 43, 3) := by decide +kernel
theorem d_C_setEquation_27 : decode c_C_setEquation 27 = .ok (.return_, 1) := by decide +kernel
theorem d_C_solve_0 : decode c_C_solve 0 = .ok (.iconst (0), 1) := by decide +kernel
theorem d_C_solve_1 : decode c_C_solve 1 = .ok (.istore_n 1, 1) := by decide +kernel
theorem d_C_solve_2 : decode c_C_solve 2 = .ok (.iload_n 1, 1) := by decide +kernel
theorem d_C_solve_3 : decode c_C_solve 3 = .ok (.aload_n 0, 1) := by decide +kernel
theorem d_C_solve_4 : decode c_C_solve 4 = .ok (.getfield 9, 3) := by decide +kernel
theorem d_C_solve_7 : decode c_C_solve 7 = .ok (.if_icmp .ge (76), 3) := by decide +kernel
theorem d_C_solve_10 : decode c_C_solve 10 = .ok (.aload_n 0, 1) := by decide +kernel
theorem d_C_solve_11 : decode c_C_solve 11 = .ok (.iload_n 1, 1) := by decide +kernel
theorem d_C_solve_12 : decode c_C_solve 12 = .ok (.aload_n 0, 1) := by decide +kernel
theorem d_C_solve_13 : decode c_C_solve 13 = .ok (.getfield 25, 3) := by decide +kernel
theorem d_C_solve_16 : decode c_C_solve 16 = .ok (.iload_n 1, 1) := by decide +kernel
theorem d_C_solve_17 : decode c_C_solve 17 = .ok (.aload_n 0, 1) := by decide +kernel
theorem d_C_solve_18 : decode c_C_solve 18 = .ok (.getfield 9, 3) := by decide +kernel
theorem d_C_solve_21 : decode c_C_solve 21 = .ok (.imul, 1) := by decide +kernel
theorem d_C_solve_22 : decode c_C_solve 22 = .ok (.iload_n 1, 1) := by decide +kernel
theorem d_C_solve_23 : decode c_C_solve 23 = .ok (.iadd, 1) := by decide +kernel
theorem d_C_solve_24 : decode c_C_solve 24 = .ok (.iaload, 1) := by decide +kernel
theorem d_C_solve_25 : decode c_C_solve 25 = .ok (.invokestatic 35, 3) := by decide +kernel
theorem d_C_solve_28 : decode c_C_solve 28 = .ok (.invokevirtual 49, 3) := by decide +kernel
theorem d_C_solve_31 : decode c_C_solve 31 = .ok (.iconst (0), 1) := by decide +kernel
theorem d_C_solve_32 : decode c_C_solve 32 = .ok (.istore_n 2, 1) := by decide +kernel
theorem d_C_solve_33 : decode c_C_solve 33 = .ok (.iload_n 2, 1) := by decide +kernel
theorem d_C_solve_34 : decode c_C_solve 34 = .ok (.aload_n 0, 1) := by decide +kernel
theorem d_C_solve_35 : decode c_C_solve 35 = .ok (.getfield 9, 3) := by decide +kernel
theorem d_C_solve_38 : decode c_C_solve 38 = .ok (.if_icmp .ge (39), 3) := by decide +kernel
theorem d_C_solve_41 : decode c_C_solve 41 = .ok (.aload_n 0, 1) := by decide +kernel
theorem d_C_solve_42 : decode c_C_solve 42 = .ok (.getfield 25, 3) := by decide +kernel
theorem d_C_solve_45 : decode c_C_solve 45 = .ok (.iload_n 2, 1) := by decide +kernel
theorem d_C_solve_46 : decode c_C_solve 46 = .ok (.aload_n 0, 1) := by decide +kernel
theorem d_C_solve_47 : decode c_C_solve 47 = .ok (.getfield 9, 3) := by decide +kernel
theorem d_C_solve_50 : decode c_C_solve 50 = .ok (.imul, 1) := by decide +kernel
theorem d_C_solve_51 : decode c_C_solve 51 = .ok (.iload_n 1, 1) := by decide +kernel
theorem d_C_solve_52 : decode c_C_solve 52 = .ok (.iadd, 1) := by decide +kernel
theorem d_C_solve_53 : decode c_C_solve 53 = .ok (.iaload, 1) := by decide +kernel
theorem d_C_solve_54 : decode c_C_solve 54 = .ok (.istore_n 3, 1) := by decide +kernel
theorem d_C_solve_55 : decode c_C_solve 55 = .ok (.iload_n 2, 1) := by decide +kernel
theorem d_C_solve_56 : decode c_C_solve 56 = .ok (.iload_n 1, 1) := by decide +kernel
theorem d_C_solve_57 : decode c_C_solve 57 = .ok (.if_icmp .eq (14), 3) := by decide +kernel
theorem d_C_solve_60 : decode c_C_solve 60 = .ok (.iload_n 3, 1) := by decide +kernel
theorem d_C_solve_61 : decode c_C_solve 61 = .ok (.ifCond .eq (10), 3) := by decide +kernel
theorem d_C_solve_64 : decode c_C_solve 64 = .ok (.aload_n 0, 1) := by decide +kernel
theorem d_C_solve_65 : decode c_C_solve 65 = .ok (.iload_n 2, 1) := by decide +kernel
theorem d_C_solve_66 : decode c_C_solve 66 = .ok (.iload_n 1, 1) := by decide +kernel
theorem d_C_solve_67 : decode c_C_solve 67 = .ok (.iload_n 3, 1) := by decide +kernel
theorem d_C_solve_68 : decode c_C_solve 68 = .ok (.invokevirtual 53, 3) := by decide +kernel
theorem d_C_solve_71 : decode c_C_solve 71 = .ok (.iinc 2 (1), 3) := by decide +kernel
theorem d_C_solve_74 : decode c_C_solve 74 = .ok (.goto (-41), 3) := by decide +kernel
theorem d_C_solve_77 : decode c_C_solve 77 = .ok (.iinc 1 (1), 3) := by decide +kernel
theorem d_C_solve_80 : decode c_C_solve 80 = .ok (.goto (-78), 3) := by decide +kernel
theorem d_C_solve_83 : decode c_C_solve 83 = .ok (.return_, 1) := by decide +kernel
theorem d_C_multiplyLine_0 : decode c_C_multiplyLine 0 = .ok (.iconst (0), 1) := by decide +kernel
theorem d_C_multiplyLine_1 : decode c_C_multiplyLine 1 = .ok (.istore_n 3, 1) := by decide +kernel
theorem d_C_multiplyLine_2 : decode c_C_multiplyLine 2 = .ok (.iload_n 3, 1) := by decide +kernel
theorem d_C_multiplyLine_3 : decode c_C_multiplyLine 3 = .ok (.aload_n 0, 1) := by decide +kernel
theorem d_C_multiplyLine_4 : decode c_C_multiplyLine 4 = .ok (.getfield 9, 3) := by decide +kernel
theorem d_C_multiplyLine_7 : decode c_C_multiplyLine 7 = .ok (.if_icmp .ge (37), 3) := by decide +kernel
theorem d_C_multiplyLine_10 : decode c_C_multiplyLine 10 = .ok (.iload_n 1, 1) := by decide +kernel
theorem d_C_multiplyLine_11 : decode c_C_multiplyLine 11 = .ok (.aload_n 0, 1) := by decide +kernel
theorem d_C_multiplyLine_12 : decode c_C_multiplyLine 12 = .ok (.getfield 9, 3) := by decide +kernel
theorem d_C_multiplyLine_15 : decode c_C_multiplyLine 15 = .ok (.imul, 1) := by decide +kernel
theorem d_C_multiplyLine_16 : decode c_C_multiplyLine 16 = .ok (.iload_n 3, 1) := by decide +kernel
theorem d_C_multiplyLine_17 : decode c_C_multiplyLine 17 = .ok (.iadd, 1) := by decide +kernel
theorem d_C_multiplyLine_18 : decode c_C_multiplyLine 18 = .ok (.istore 4, 2) := by decide +kernel
theorem d_C_multiplyLine_20 : decode c_C_multiplyLine 20 = .ok (.aload_n 0, 1) := by decide +kernel
theorem d_C_multiplyLine_21 : decode c_C_multiplyLine 21 = .ok (.getfield 25, 3) := by decide +kernel
theorem d_C_multiplyLine_24 : decode c_C_multiplyLine 24 = .ok (.iload 4, 2) := by decide +kernel
theorem d_C_multiplyLine_26 : decode c_C_multiplyLine 26 = .ok (.aload_n 0, 1) := by decide +kernel
theorem d_C_multiplyLine_27 : decode c_C_multiplyLine 27 = .ok (.getfield 25, 3) := by decide +kernel
theorem d_C_multiplyLine_30 : decode c_C_multiplyLine 30 = .ok (.iload 4, 2) := by decide +kernel
theorem d_C_multiplyLine_32 : decode c_C_multiplyLine 32 = .ok (.iaload, 1) := by decide +kernel
theorem d_C_multiplyLine_33 : decode c_C_multiplyLine 33 = .ok (.iload_n 2, 1) := by decide +kernel
theorem d_C_multiplyLine_34 : decode c_C_multiplyLine 34 = .ok (.invokestatic 39, 3) := by decide +kernel
theorem d_C_multiplyLine_37 : decode c_C_multiplyLine 37 = .ok (.iastore, 1) := by decide +kernel
theorem d_C_multiplyLine_38 : decode c_C_multiplyLine 38 = .ok (.iinc 3 (1), 3) := by decide +kernel
theorem d_C_multiplyLine_41 : decode c_C_multiplyLine 41 = .ok (.goto (-39), 3) := by decide +kernel
theorem d_C_multiplyLine_44 : decode c_C_multiplyLine 44 = .ok (.iconst (0), 1) := by decide +kernel
theorem d_C_multiplyLine_45 : decode c_C_multiplyLine 45 = .ok (.istore_n 3, 1) := by decide +kernel
theorem d_C_multiplyLine_46 : decode c_C_multiplyLine 46 = .ok (.iload_n 3, 1) := by decide +kernel
theorem d_C_multiplyLine_47 : decode c_C_multiplyLine 47 = .ok (.iconst (4), 1) := by decide +kernel
theorem d_C_multiplyLine_48 : decode c_C_multiplyLine 48 = .ok (.if_icmp .ge (34), 3) := by decide +kernel
theorem d_C_multiplyLine_51 : decode c_C_multiplyLine 51 = .ok (.iload_n 1, 1) := by decide +kernel
theorem d_C_multiplyLine_52 : decode c_C_multiplyLine 52 = .ok (.iconst (4), 1) := by decide +kernel
theorem d_C_multiplyLine_53 : decode c_C_multiplyLine 53 = .ok (.imul, 1) := by decide +kernel
theorem d_C_multiplyLine_54 : decode c_C_multiplyLine 54 = .ok (.iload_n 3, 1) := by decide +kernel
theorem d_C_multiplyLine_55 : decode c_C_multiplyLine 55 = .ok (.iadd, 1) := by decide +kernel
theorem d_C_multiplyLine_56 : decode c_C_multiplyLine 56 = .ok (.istore 4, 2) := by decide +kernel
theorem d_C_multiplyLine_58 : decode c_C_multiplyLine 58 = .ok (.aload_n 0, 1) := by decide +kernel
theorem d_C_multiplyLine_59 : decode c_C_multiplyLine 59 = .ok (.getfield 21, 3) := by decide +kernel
theorem d_C_multiplyLine_62 : decode c_C_multiplyLine 62 = .ok (.iload 4, 2) := by decide +kernel
theorem d_C_multiplyLine_64 : decode c_C_multiplyLine 64 = .ok (.aload_n 0, 1) := by decide +kernel
theorem d_C_multiplyLine_65 : decode c_C_multiplyLine 65 = .ok (.getfield 21, 3) := by decide +kernel
theorem d_C_multiplyLine_68 : decode c_C_multiplyLine 68 = .ok (.iload 4, 2) := by decide +kernel
theorem d_C_multiplyLine_70 : decode c_C_multiplyLine 70 = .ok (.iaload, 1) := by decide +kernel
theorem d_C_multiplyLine_71 : decode c_C_multiplyLine 71 = .ok (.iload_n 2, 1) := by decide +kernel
theorem d_C_multiplyLine_72 : decode c_C_multiplyLine 72 = .ok (.invokestatic 39, 3) := by decide +kernel
theorem d_C_multiplyLine_75 : decode c_C_multiplyLine 75 = .ok (.iastore, 1) := by decide +kernel
theorem d_C_multiplyLine_76 : decode c_C_multiplyLine 76 = .ok (.iinc 3 (1), 3) := by decide +kernel
theorem d_C_multiplyLine_79 : decode c_C_multiplyLine 79 = .ok (.goto (-33), 3) := by decide +kernel
theorem d_C_multiplyLine_82 : decode c_C_multiplyLine 82 = .ok (.return_, 1) := by decide +kernel
theorem d_C_addLine_0 : decode c_C_addLine 0 = .ok (.iconst (0), 1) := by decide +kernel
theorem d_C_addLine_1 : decode c_C_addLine 1 = .ok (.istore 4, 2) := by decide +kernel
theorem d_C_addLine_3 : decode c_C_addLine 3 = .ok (.iload 4, 2) := by decide +kernel
theorem d_C_addLine_5 : decode c_C_addLine 5 = .ok (.aload_n 0, 1) := by decide +kernel
theorem d_C_addLine_6 : decode c_C_addLine 6 = .ok (.getfield 9, 3) := by decide +kernel
theorem d_C_addLine_9 : decode c_C_addLine 9 = .ok (.if_icmp .ge (44), 3) := by decide +kernel
theorem d_C_addLine_12 : decode c_C_addLine 12 = .ok (.aload_n 0, 1) := by decide +kernel
theorem d_C_addLine_13 : decode c_C_addLine 13 = .ok (.getfield 25, 3) := by decide +kernel
theorem d_C_addLine_16 : decode c_C_addLine 16 = .ok (.iload_n 1, 1) := by decide +kernel
theorem d_C_addLine_17 : decode c_C_addLine 17 = .ok (.aload_n 0, 1) := by decide +kernel
theorem d_C_addLine_18 : decode c_C_addLine 18 = .ok (.getfield 9, 3) := by decide +kernel
theorem d_C_addLine_21 : decode c_C_addLine 21 = .ok (.imul, 1) := by decide +kernel
theorem d_C_addLine_22 : decode c_C_addLine 22 = .ok (.iload 4, 2) := by decide +kernel
theorem d_C_addLine_24 : decode c_C_addLine 24 = .ok (.iadd, 1) := by decide +kernel
theorem d_C_addLine_25 : decode c_C_addLine 25 = .ok (.dup2, 1) := by decide +kernel
theorem d_C_addLine_26 : decode c_C_addLine 26 = .ok (.iaload, 1) := by decide +kernel
theorem d_C_addLine_27 : decode c_C_addLine 27 = .ok (.aload_n 0, 1) := by decide +kernel
theorem d_C_addLine_28 : decode c_C_addLine 28 = .ok (.getfield 25, 3) := by decide +kernel
theorem d_C_addLine_31 : decode c_C_addLine 31 = .ok (.iload_n 2, 1) := by decide +kernel
theorem d_C_addLine_32 : decode c_C_addLine 32 = .ok (.aload_n 0, 1) := by decide +kernel
theorem d_C_addLine_33 : decode c_C_addLine 33 = .ok (.getfield 9, 3) := by decide +kernel
theorem d_C_addLine_36 : decode c_C_addLine 36 = .ok (.imul, 1) := by decide +kernel
theorem d_C_addLine_37 : decode c_C_addLine 37 = .ok (.iload 4, 2) := by decide +kernel
theorem d_C_addLine_39 : decode c_C_addLine 39 = .ok (.iadd, 1) := by decide +kernel
theorem d_C_addLine_40 : decode c_C_addLine 40 = .ok (.iaload, 1) := by decide +kernel
theorem d_C_addLine_41 : decode c_C_addLine 41 = .ok (.iload_n 3, 1) := by decide +kernel
theorem d_C_addLine_42 : decode c_C_addLine 42 = .ok (.invokestatic 39, 3) := by decide +kernel
theorem d_C_addLine_45 : decode c_C_addLine 45 = .ok (.ixor, 1) := by decide +kernel
theorem d_C_addLine_46 : decode c_C_addLine 46 = .ok (.iastore, 1) := by decide +kernel
theorem d_C_addLine_47 : decode c_C_addLine 47 = .ok (.iinc 4 (1), 3) := by decide +kernel
theorem d_C_addLine_50 : decode c_C_addLine 50 = .ok (.goto (-47), 3) := by decide +kernel
theorem d_C_addLine_53 : decode c_C_addLine 53 = .ok (.iconst (0), 1) := by decide +kernel
theorem d_C_addLine_54 : decode c_C_addLine 54 = .ok (.istore 4, 2) := by decide +kernel
theorem d_C_addLine_56 : decode c_C_addLine 56 = .ok (.iload 4, 2) := by decide +kernel
theorem d_C_addLine_58 : decode c_C_addLine 58 = .ok (.iconst (4), 1) := by decide +kernel
theorem d_C_addLine_59 : decode c_C_addLine 59 = .ok (.if_icmp .ge (38), 3) := by decide +kernel
theorem d_C_addLine_62 : decode c_C_addLine 62 = .ok (.aload_n 0, 1) := by decide +kernel
theorem d_C_addLine_63 : decode c_C_addLine 63 = .ok (.getfield 21, 3) := by decide +kernel
theorem d_C_addLine_66 : decode c_C_addLine 66 = .ok (.iload_n 1, 1) := by decide +kernel
theorem d_C_addLine_67 : decode c_C_addLine 67 = .ok (.iconst (4), 1) := by decide +kernel
theorem d_C_addLine_68 : decode c_C_addLine 68 = .ok (.imul, 1) := by decide +kernel
theorem d_C_addLine_69 : decode c_C_addLine 69 = .ok (.iload 4, 2) := by decide +kernel
theorem d_C_addLine_71 : decode c_C_addLine 71 = .ok (.iadd, 1) := by decide +kernel
theorem d_C_addLine_72 : decode c_C_addLine 72 = .ok (.dup2, 1) := by decide +kernel
theorem d_C_addLine_73 : decode c_C_addLine 73 = .ok (.iaload, 1) := by decide +kernel
theorem d_C_addLine_74 : decode c_C_addLine 74 = .ok (.aload_n 0, 1) := by decide +kernel
theorem d_C_addLine_75 : decode c_C_addLine 75 = .ok (.getfield 21, 3) := by decide +kernel
theorem d_C_addLine_78 : decode c_C_addLine 78 = .ok (.iload_n 2, 1) := by decide +kernel
theorem d_C_addLine_79 : decode c_C_addLine 79 = .ok (.iconst (4), 1) := by decide +kernel
theorem d_C_addLine_80 : decode c_C_addLine 80 = .ok (.imul, 1) := by decide +kernel
theorem d_C_addLine_81 : decode c_C_addLine 81 = .ok (.iload 4, 2) := by decide +kernel
theorem d_C_addLine_83 : decode c_C_addLine 83 = .ok (.iadd, 1) := by decide +kernel
theorem d_C_addLine_84 : decode c_C_addLine 84 = .ok (.iaload, 1) := by decide +kernel
theorem d_C_addLine_85 : decode c_C_addLine 85 = .ok (.iload_n 3, 1) := by decide +kernel
theorem d_C_addLine_86 : decode c_C_addLine 86 = .ok (.invokestatic 39, 3) := by decide +kernel
theorem d_C_addLine_89 : decode c_C_addLine 89 = .ok (.ixor, 1) := by decide +kernel
theorem d_C_addLine_90 : decode c_C_addLine 90 = .ok (.iastore, 1) := by decide +kernel
theorem d_C_addLine_91 : decode c_C_addLine 91 = .ok (.iinc 4 (1), 3) := by decide +kernel
theorem d_C_addLine_94 : decode c_C_addLine 94 = .ok (.goto (-38), 3) := by decide +kernel
theorem d_C_addLine_97 : decode c_C_addLine 97 = .ok (.return_, 1) := by decide +kernel
theorem d_D_init_0 : decode c_D_init 0 = .ok (.aload_n 0, 1) := by decide +kernel
theorem d_D_init_1 : decode c_D_init 1 = .ok (.invokespecial 3, 3) := by decide +kernel
theorem d_D_init_4 : decode c_D_init 4 = .ok (.aload_n 0, 1) := by decide +kernel
theorem d_D_init_5 : decode c_D_init 5 = .ok (.bipush (8), 2) := by decide +kernel
theorem d_D_init_7 : decode c_D_init 7 = .ok (.newarray .boolean, 2) := by decide +kernel
theorem d_D_init_9 : decode c_D_init 9 = .ok (.putfield 9, 3) := by decide +kernel
theorem d_D_init_12 : decode c_D_init 12 = .ok (.aload_n 0, 1) := by decide +kernel
theorem d_D_init_13 : decode c_D_init 13 = .ok (.bipush (8), 2) := by decide +kernel
theorem d_D_init_15 : decode c_D_init 15 = .ok (.newarray .int, 2) := by decide +kernel
theorem d_D_init_17 : decode c_D_init 17 = .ok (.putfield 15, 3) := by decide +kernel
theorem d_D_init_20 : decode c_D_init 20 = .ok (.aload_n 0, 1) := by decide +kernel
theorem d_D_init_21 : decode c_D_init 21 = .ok (.sipush (128), 3) := by decide +kernel
theorem d_D_init_24 : decode c_D_init 24 = .ok (.newarray .boolean, 2) := by decide +kernel
theorem d_D_init_26 : decode c_D_init 26 = .ok (.putfield 19, 3) := by decide +kernel
theorem d_D_init_29 : decode c_D_init 29 = .ok (.aload_n 0, 1) := by decide +kernel
theorem d_D_init_30 : decode c_D_init 30 = .ok (.sipush (512), 3) := by decide +kernel
theorem d_D_init_33 : decode c_D_init 33 = .ok (.newarray .int, 2) := by decide +kernel
theorem d_D_init_35 : decode c_D_init 35 = .ok (.putfield 22, 3) := by decide +kernel
theorem d_D_init_38 : decode c_D_init 38 = .ok (.iconst (0), 1) := by decide +kernel
theorem d_D_init_39 : decode c_D_init 39 = .ok (.istore_n 1, 1) := by decide +kernel
theorem d_D_init_40 : decode c_D_init 40 = .ok (.iload_n 1, 1) := by decide +kernel
theorem d_D_init_41 : decode c_D_init 41 = .ok (.bipush (8), 2) := by decide +kernel
theorem d_D_init_43 : decode c_D_init 43 = .ok (.if_icmp .ge (24), 3) := by decide +kernel
theorem d_D_init_46 : decode c_D_init 46 = .ok (.aload_n 0, 1) := by decide +kernel
theorem d_D_init_47 : decode c_D_init 47 = .ok (.getfield 9, 3) := by decide +kernel
theorem d_D_init_50 : decode c_D_init 50 = .ok (.iload_n 1, 1) := by decide +kernel
theorem d_D_init_51 : decode c_D_init 51 = .ok (.iconst (1), 1) := by decide +kernel
theorem d_D_init_52 : decode c_D_init 52 = .ok (.bastore, 1) := by decide +kernel
theorem d_D_init_53 : decode c_D_init 53 = .ok (.aload_n 0, 1) := by decide +kernel
theorem d_D_init_54 : decode c_D_init 54 = .ok (.getfield 15, 3) := by decide +kernel
theorem d_D_init_57 : decode c_D_init 57 = .ok (.iload_n 1, 1) := by decide +kernel
theorem d_D_init_58 : decode c_D_init 58 = .ok (.bipush (10), 2) := by decide +kernel
theorem d_D_init_60 : decode c_D_init 60 = .ok (.iastore, 1) := by decide +kernel
theorem d_D_init_61 : decode c_D_init 61 = .ok (.iinc 1 (1), 3) := by decide +kernel
theorem d_D_init_64 : decode c_D_init 64 = .ok (.goto (-24), 3) := by decide +kernel
theorem d_D_init_67 : decode c_D_init 67 = .ok (.return_, 1) := by decide +kernel
theorem d_D_isAlive_0 : decode c_D_isAlive 0 = .ok (.aload_n 0, 1) := by decide +kernel
theorem d_D_isAlive_1 : decode c_D_isAlive 1 = .ok (.getfield 9, 3) := by decide +kernel
theorem d_D_isAlive_4 : decode c_D_isAlive 4 = .ok (.iload_n 1, 1) := by decide +kernel
theorem d_D_isAlive_5 : decode c_D_isAlive 5 = .ok (.baload, 1) := by decide +kernel
theorem d_D_isAlive_6 : decode c_D_isAlive 6 = .ok (.ireturn, 1) := by decide +kernel
theorem d_D_countAlive_0 : decode c_D_countAlive 0 = .ok (.iconst (0), 1) := by decide +kernel
theorem d_D_countAlive_1 : decode c_D_countAlive 1 = .ok (.istore_n 1, 1) := by decide +kernel
theorem d_D_countAlive_2 : decode c_D_countAlive 2 = .ok (.iconst (0), 1) := by decide +kernel
theorem d_D_countAlive_3 : decode c_D_countAlive 3 = .ok (.istore_n 2, 1) := by decide +kernel
theorem d_D_countAlive_4 : decode c_D_countAlive 4 = .ok (.iload_n 2, 1) := by decide +kernel
theorem d_D_countAlive_5 : decode c_D_countAlive 5 = .ok (.bipush (8), 2) := by decide +kernel
theorem d_D_countAlive_7 : decode c_D_countAlive 7 = .ok (.if_icmp .ge (21), 3) := by decide +kernel
theorem d_D_countAlive_10 : decode c_D_countAlive 10 = .ok (.aload_n 0, 1) := by decide +kernel
theorem d_D_countAlive_11 : decode c_D_countAlive 11 = .ok (.getfield 9, 3) := by decide +kernel
theorem d_D_countAlive_14 : decode c_D_countAlive 14 = .ok (.iload_n 2, 1) := by decide +kernel
theorem d_D_countAlive_15 : decode c_D_countAlive 15 = .ok (.baload, 1) := by decide +kernel
theorem d_D_countAlive_16 : decode c_D_countAlive 16 = .ok (.ifCond .eq (6), 3) := by decide +kernel
theorem d_D_countAlive_19 : decode c_D_countAlive 19 = .ok (.iinc 1 (1), 3) := by decide +kernel
theorem d_D_countAlive_22 : decode c_D_countAlive 22 = .ok (.iinc 2 (1), 3) := by decide +kernel
theorem d_D_countAlive_25 : decode c_D_countAlive 25 = .ok (.goto (-21), 3) := by decide +kernel
theorem d_D_countAlive_28 : decode c_D_countAlive 28 = .ok (.iload_n 1, 1) := by decide +kernel
theorem d_D_countAlive_29 : decode c_D_countAlive 29 = .ok (.ireturn, 1) := by decide +kernel
theorem d_D_freeSlotsOf_0 : decode c_D_freeSlotsOf 0 = .ok (.aload_n 0, 1) := by decide +kernel
theorem d_D_freeSlotsOf_1 : decode c_D_freeSlotsOf 1 = .ok (.getfield 15, 3) := by decide +kernel
theorem d_D_freeSlotsOf_4 : decode c_D_freeSlotsOf 4 = .ok (.iload_n 1, 1) := by decide +kernel
theorem d_D_freeSlotsOf_5 : decode c_D_freeSlotsOf 5 = .ok (.iaload, 1) := by decide +kernel
theorem d_D_freeSlotsOf_6 : decode c_D_freeSlotsOf 6 = .ok (.ireturn, 1) := by decide +kernel
theorem d_D_stop_0 : decode c_D_stop 0 = .ok (.aload_n 0, 1) := by decide +kernel
theorem d_D_stop_1 : decode c_D_stop 1 = .ok (.getfield 9, 3) := by decide +kernel
theorem d_D_stop_4 : decode c_D_stop 4 = .ok (.iload_n 1, 1) := by decide +kernel
theorem d_D_stop_5 : decode c_D_stop 5 = .ok (.iconst (0), 1) := by decide +kernel
theorem d_D_stop_6 : decode c_D_stop 6 = .ok (.bastore, 1) := by decide +kernel
theorem d_D_stop_7 : decode c_D_stop 7 = .ok (.aload_n 0, 1) := by decide +kernel
theorem d_D_stop_8 : decode c_D_stop 8 = .ok (.getfield 15, 3) := by decide +kernel
theorem d_D_stop_11 : decode c_D_stop 11 = .ok (.iload_n 1, 1) := by decide +kernel
theorem d_D_stop_12 : decode c_D_stop 12 = .ok (.bipush (10), 2) := by decide +kernel
theorem d_D_stop_14 : decode c_D_stop 14 = .ok (.iastore, 1) := by decide +kernel
theorem d_D_stop_15 : decode c_D_stop 15 = .ok (.iconst (0), 1) := by decide +kernel
theorem d_D_stop_16 : decode c_D_stop 16 = .ok (.istore_n 2, 1) := by decide +kernel
theorem d_D_stop_17 : decode c_D_stop 17 = .ok (.iload_n 2, 1) := by decide +kernel
theorem d_D_stop_18 : decode c_D_stop 18 = .ok (.bipush (10), 2) := by decide +kernel
theorem d_D_stop_20 : decode c_D_stop 20 = .ok (.if_icmp .ge (20), 3) := by decide +kernel
theorem d_D_stop_23 : decode c_D_stop 23 = .ok (.aload_n 0, 1) := by decide +kernel
theorem d_D_stop_24 : decode c_D_stop 24 = .ok (.getfield 19, 3) := by decide +kernel
theorem d_D_stop_27 : decode c_D_stop 27 = .ok (.iload_n 1, 1) := by decide +kernel
theorem d_D_stop_28 : decode c_D_stop 28 = .ok (.iload_n 2, 1) := by decide +kernel
theorem d_D_stop_29 : decode c_D_stop 29 = .ok (.invokestatic 25, 3) := by decide +kernel
theorem d_D_stop_32 : decode c_D_stop 32 = .ok (.iconst (0), 1) := by decide +kernel
theorem d_D_stop_33 : decode c_D_stop 33 = .ok (.bastore, 1) := by decide +kernel
theorem d_D_stop_34 : decode c_D_stop 34 = .ok (.iinc 2 (1), 3) := by decide +kernel
theorem d_D_stop_37 : decode c_D_stop 37 = .ok (.goto (-20), 3) := by decide +kernel
theorem d_D_stop_40 : decode c_D_stop 40 = .ok (.return_, 1) := by decide +kernel
theorem d_D_start_0 : decode c_D_start 0 = .ok (.aload_n 0, 1) := by decide +kernel
theorem d_D_start_1 : decode c_D_start 1 = .ok (.getfield 9, 3) := by decide +kernel
theorem d_D_start_4 : decode c_D_start 4 = .ok (.iload_n 1, 1) := by decide +kernel
theorem d_D_start_5 : decode c_D_start 5 = .ok (.iconst (1), 1) := by decide +kernel
theorem d_D_start_6 : decode c_D_start 6 = .ok (.bastore, 1) := by decide +kernel
theorem d_D_start_7 : decode c_D_start 7 = .ok (.return_, 1) := by decide +kernel
theorem d_D_isTaken_0 : decode c_D_isTaken 0 = .ok (.aload_n 0, 1) := by decide +kernel
theorem d_D_isTaken_1 : decode c_D_isTaken 1 = .ok (.getfield 19, 3) := by decide +kernel
theorem d_D_isTaken_4 : decode c_D_isTaken 4 = .ok (.iload_n 1, 1) := by decide +kernel
theorem d_D_isTaken_5 : decode c_D_isTaken 5 = .ok (.baload, 1) := by decide +kernel
theorem d_D_isTaken_6 : decode c_D_isTaken 6 = .ok (.ireturn, 1) := by decide +kernel
theorem d_D_takeSlot_0 : decode c_D_takeSlot 0 = .ok (.iconst (0), 1) := by decide +kernel
theorem d_D_takeSlot_1 : decode c_D_takeSlot 1 = .ok (.istore_n 2, 1) := by decide +kernel
theorem d_D_takeSlot_2 : decode c_D_takeSlot 2 = .ok (.iload_n 2, 1) := by decide +kernel
theorem d_D_takeSlot_3 : decode c_D_takeSlot 3 = .ok (.bipush (10), 2) := by decide +kernel
theorem d_D_takeSlot_5 : decode c_D_takeSlot 5 = .ok (.if_icmp .ge (43), 3) := by decide +kernel
theorem d_D_takeSlot_8 : decode c_D_takeSlot 8 = .ok (.iload_n 1, 1) := by decide +kernel
theorem d_D_takeSlot_9 : decode c_D_takeSlot 9 = .ok (.iload_n 2, 1) := by decide +kernel
theorem d_D_takeSlot_10 : decode c_D_takeSlot 10 = .ok (.invokestatic 25, 3) := by decide +kernel
theorem d_D_takeSlot_13 : decode c_D_takeSlot 13 = .ok (.istore_n 3, 1) := by decide +kernel
theorem d_D_takeSlot_14 : decode c_D_takeSlot 14 = .ok (.aload_n 0, 1) := by decide +kernel
theorem d_D_takeSlot_15 : decode c_D_takeSlot 15 = .ok (.getfield 19, 3) := by decide +kernel
theorem d_D_takeSlot_18 : decode c_D_takeSlot 18 = .ok (.iload_n 3, 1) := by decide +kernel
theorem d_D_takeSlot_19 : decode c_D_takeSlot 19 = .ok (.baload, 1) := by decide +kernel
theorem d_D_takeSlot_20 : decode c_D_takeSlot 20 = .ok (.ifCond .ne (22), 3) := by decide +kernel
theorem d_D_takeSlot_23 : decode c_D_takeSlot 23 = .ok (.aload_n 0, 1) := by decide +kernel
theorem d_D_takeSlot_24 : decode c_D_takeSlot 24 = .ok (.getfield 19, 3) := by decide +kernel
theorem d_D_takeSlot_27 : decode c_D_takeSlot 27 = .ok (.iload_n 3, 1) := by decide +kernel
theorem d_D_takeSlot_28 : decode c_D_takeSlot 28 = .ok (.iconst (1), 1) := by decide +kernel
theorem d_D_takeSlot_29 : decode c_D_takeSlot 29 = .ok (.bastore, 1) := by decide +kernel
theorem d_D_takeSlot_30 : decode c_D_takeSlot 30 = .ok (.aload_n 0, 1) := by decide +kernel
theorem d_D_takeSlot_31 : decode c_D_takeSlot 31 = .ok (.getfield 15, 3) := by decide +kernel
theorem d_D_takeSlot_34 : decode c_D_takeSlot 34 = .ok (.iload_n 1, 1) := by decide +kernel
theorem d_D_takeSlot_35 : decode c_D_takeSlot 35 = .ok (.dup2, 1) := by decide +kernel
theorem d_D_takeSlot_36 : decode c_D_takeSlot 36 = .ok (.iaload, 1) := by decide +kernel
theorem d_D_takeSlot_37 : decode c_D_takeSlot 37 = .ok (.iconst (1), 1) := by decide +kernel
theorem d_D_takeSlot_38 : decode c_D_takeSlot 38 = .ok (.isub, 1) := by decide +kernel
theorem d_D_takeSlot_39 : decode c_D_takeSlot 39 = .ok (.iastore, 1) := by decide +kernel
theorem d_D_takeSlot_40 : decode c_D_takeSlot 40 = .ok (.iload_n 3, 1) := by decide +kernel
theorem d_D_takeSlot_41 : decode c_D_takeSlot 41 = .ok (.ireturn, 1) := by decide +kernel
theorem d_D_takeSlot_42 : decode c_D_takeSlot 42 = .ok (.iinc 2 (1), 3) := by decide +kernel
theorem d_D_takeSlot_45 : decode c_D_takeSlot 45 = .ok (.goto (-43), 3) := by decide +kernel
theorem d_D_takeSlot_48 : decode c_D_takeSlot 48 = .ok (.iconst (-1), 1) := by decide +kernel
theorem d_D_takeSlot_49 : decode c_D_takeSlot 49 = .ok (.ireturn, 1) := by decide +kernel
theorem d_D_releaseSlot_0 : decode c_D_releaseSlot 0 = .ok (.aload_n 0, 1) := by decide +kernel
theorem d_D_releaseSlot_1 : decode c_D_releaseSlot 1 = .ok (.getfield 19, 3) := by decide +kernel
theorem d_D_releaseSlot_4 : decode c_D_releaseSlot 4 = .ok (.iload_n 1, 1) := by decide +kernel
theorem d_D_releaseSlot_5 : decode c_D_releaseSlot 5 = .ok (.iconst (0), 1) := by decide +kernel
theorem d_D_releaseSlot_6 : decode c_D_releaseSlot 6 = .ok (.bastore, 1) := by decide +kernel
theorem d_D_releaseSlot_7 : decode c_D_releaseSlot 7 = .ok (.aload_n 0, 1) := by decide +kernel
theorem d_D_releaseSlot_8 : decode c_D_releaseSlot 8 = .ok (.getfield 15, 3) := by decide +kernel
theorem d_D_releaseSlot_11 : decode c_D_releaseSlot 11 = .ok (.iload_n 1, 1) := by decide +kernel
theorem d_D_releaseSlot_12 : decode c_D_releaseSlot 12 = .ok (.bipush (16), 2) := by decide +kernel
theorem d_D_releaseSlot_14 : decode c_D_releaseSlot 14 = .ok (.idiv, 1) := by decide +kernel
theorem d_D_releaseSlot_15 : decode c_D_releaseSlot 15 = .ok (.dup2, 1) := by decide +kernel
theorem d_D_releaseSlot_16 : decode c_D_releaseSlot 16 = .ok (.iaload, 1) := by decide +kernel
theorem d_D_releaseSlot_17 : decode c_D_releaseSlot 17 = .ok (.iconst (1), 1) := by decide +kernel
theorem d_D_releaseSlot_18 : decode c_D_releaseSlot 18 = .ok (.iadd, 1) := by decide +kernel
theorem d_D_releaseSlot_19 : decode c_D_releaseSlot 19 = .ok (.iastore, 1) := by decide +kernel
theorem d_D_releaseSlot_20 : decode c_D_releaseSlot 20 = .ok (.return_, 1) := by decide +kernel
theorem d_D_byteAt_0 : decode c_D_byteAt 0 = .ok (.aload_n 0, 1) := by decide +kernel
theorem d_D_byteAt_1 : decode c_D_byteAt 1 = .ok (.getfield 22, 3) := by decide +kernel
theorem d_D_byteAt_4 : decode c_D_byteAt 4 = .ok (.iload_n 1, 1) := by decide +kernel
theorem d_D_byteAt_5 : decode c_D_byteAt 5 = .ok (.iconst (4), 1) := by decide +kernel
theorem d_D_byteAt_6 : decode c_D_byteAt 6 = .ok (.imul, 1) := by decide +kernel
theorem d_D_byteAt_7 : decode c_D_byteAt 7 = .ok (.iload_n 2, 1) := by decide +kernel
theorem d_D_byteAt_8 : decode c_D_byteAt 8 = .ok (.iadd, 1) := by decide +kernel
theorem d_D_byteAt_9 : decode c_D_byteAt 9 = .ok (.iaload, 1) := by decide +kernel
theorem d_D_byteAt_10 : decode c_D_byteAt 10 = .ok (.ireturn, 1) := by decide +kernel
theorem d_D_setByte_0 : decode c_D_setByte 0 = .ok (.aload_n 0, 1) := by decide +kernel
theorem d_D_setByte_1 : decode c_D_setByte 1 = .ok (.getfield 22, 3) := by decide +kernel
theorem d_D_setByte_4 : decode c_D_setByte 4 = .ok (.iload_n 1, 1) := by decide +kernel
theorem d_D_setByte_5 : decode c_D_setByte 5 = .ok (.iconst (4), 1) := by decide +kernel
theorem d_D_setByte_6 : decode c_D_setByte 6 = .ok (.imul, 1) := by decide +kernel
theorem d_D_setByte_7 : decode c_D_setByte 7 = .ok (.iload_n 2, 1) := by decide +kernel
theorem d_D_setByte_8 : decode c_D_setByte 8 = .ok (.iadd, 1) := by decide +kernel
theorem d_D_setByte_9 : decode c_D_setByte 9 = .ok (.iload_n 3, 1) := by decide +kernel
theorem d_D_setByte_10 : decode c_D_setByte 10 = .ok (.iastore, 1) := by decide +kernel
theorem d_D_setByte_11 : decode c_D_setByte 11 = .ok (.return_, 1) := by decide +kernel
theorem d_L_cell_0 : decode c_L_cell 0 = .ok (.iload_n 1, 1) := by decide +kernel
theorem d_L_cell_1 : decode c_L_cell 1 = .ok (.aload_n 0, 1) := by decide +kernel
theorem d_L_cell_2 : decode c_L_cell 2 = .ok (.arraylength, 1) := by decide +kernel
theorem d_L_cell_3 : decode c_L_cell 3 = .ok (.if_icmp .ge (9), 3) := by decide +kernel
theorem d_L_cell_6 : decode c_L_cell 6 = .ok (.aload_n 0, 1) := by decide +kernel
theorem d_L_cell_7 : decode c_L_cell 7 = .ok (.iload_n 1, 1) := by decide +kernel
theorem d_L_cell_8 : decode c_L_cell 8 = .ok (.iaload, 1) := by decide +kernel
theorem d_L_cell_9 : decode c_L_cell 9 = .ok (.goto (4), 3) := by decide +kernel
theorem d_L_cell_12 : decode c_L_cell 12 = .ok (.iconst (0), 1) := by decide +kernel
theorem d_L_cell_13 : decode c_L_cell 13 = .ok (.ireturn, 1) := by decide +kernel
theorem d_L_store_0 : decode c_L_store 0 = .ok (.aload_n 2, 1) := by decide +kernel
theorem d_L_store_1 : decode c_L_store 1 = .ok (.iconst (0), 1) := by decide +kernel
theorem d_L_store_2 : decode c_L_store 2 = .ok (.aload_n 0, 1) := by decide +kernel
theorem d_L_store_3 : decode c_L_store 3 = .ok (.iload_n 1, 1) := by decide +kernel
theorem d_L_store_4 : decode c_L_store 4 = .ok (.invokevirtual 7, 3) := by decide +kernel
theorem d_L_store_7 : decode c_L_store 7 = .ok (.i2l, 1) := by decide +kernel
theorem d_L_store_8 : decode c_L_store 8 = .ok (.lastore, 1) := by decide +kernel
theorem d_L_store_9 : decode c_L_store 9 = .ok (.goto (9), 3) := by decide +kernel
theorem d_L_store_12 : decode c_L_store 12 = .ok (.astore_n 3, 1) := by decide +kernel
theorem d_L_store_13 : decode c_L_store 13 = .ok (.iconst (1), 1) := by decide +kernel
theorem d_L_store_14 : decode c_L_store 14 = .ok (.ireturn, 1) := by decide +kernel
theorem d_L_store_15 : decode c_L_store 15 = .ok (.astore_n 3, 1) := by decide +kernel
theorem d_L_store_16 : decode c_L_store 16 = .ok (.iconst (2), 1) := by decide +kernel
theorem d_L_store_17 : decode c_L_store 17 = .ok (.ireturn, 1) := by decide +kernel
theorem d_L_store_18 : decode c_L_store 18 = .ok (.iconst (0), 1) := by decide +kernel
theorem d_L_store_19 : decode c_L_store 19 = .ok (.ireturn, 1) := by decide +kernel
theorem d_L_drop_0 : decode c_L_drop 0 = .ok (.aload_n 2, 1) := by decide +kernel
theorem d_L_drop_1 : decode c_L_drop 1 = .ok (.iconst (0), 1) := by decide +kernel
theorem d_L_drop_2 : decode c_L_drop 2 = .ok (.aload_n 0, 1) := by decide +kernel
theorem d_L_drop_3 : decode c_L_drop 3 = .ok (.iload_n 1, 1) := by decide +kernel
theorem d_L_drop_4 : decode c_L_drop 4 = .ok (.invokevirtual 17, 3) := by decide +kernel
theorem d_L_drop_7 : decode c_L_drop 7 = .ok (.i2l, 1) := by decide +kernel
theorem d_L_drop_8 : decode c_L_drop 8 = .ok (.lastore, 1) := by decide +kernel
theorem d_L_drop_9 : decode c_L_drop 9 = .ok (.goto (6), 3) := by decide +kernel
theorem d_L_drop_12 : decode c_L_drop 12 = .ok (.astore_n 3, 1) := by decide +kernel
theorem d_L_drop_13 : decode c_L_drop 13 = .ok (.iconst (1), 1) := by decide +kernel
theorem d_L_drop_14 : decode c_L_drop 14 = .ok (.ireturn, 1) := by decide +kernel
theorem d_L_drop_15 : decode c_L_drop 15 = .ok (.iconst (0), 1) := by decide +kernel
theorem d_L_drop_16 : decode c_L_drop 16 = .ok (.ireturn, 1) := by decide +kernel
theorem d_L_get_0 : decode c_L_get 0 = .ok (.aload_n 2, 1) := by decide +kernel
theorem d_L_get_1 : decode c_L_get 1 = .ok (.iconst (0), 1) := by decide +kernel
theorem d_L_get_2 : decode c_L_get 2 = .ok (.aload_n 0, 1) := by decide +kernel
theorem d_L_get_3 : decode c_L_get 3 = .ok (.iload_n 1, 1) := by decide +kernel
theorem d_L_get_4 : decode c_L_get 4 = .ok (.invokevirtual 22, 3) := by decide +kernel
theorem d_L_get_7 : decode c_L_get 7 = .ok (.i2l, 1) := by decide +kernel
theorem d_L_get_8 : decode c_L_get 8 = .ok (.lastore, 1) := by decide +kernel
theorem d_L_get_9 : decode c_L_get 9 = .ok (.goto (9), 3) := by decide +kernel
theorem d_L_get_12 : decode c_L_get 12 = .ok (.astore_n 3, 1) := by decide +kernel
theorem d_L_get_13 : decode c_L_get 13 = .ok (.iconst (1), 1) := by decide +kernel
theorem d_L_get_14 : decode c_L_get 14 = .ok (.ireturn, 1) := by decide +kernel
theorem d_L_get_15 : decode c_L_get 15 = .ok (.astore_n 3, 1) := by decide +kernel
theorem d_L_get_16 : decode c_L_get 16 = .ok (.iconst (2), 1) := by decide +kernel
theorem d_L_get_17 : decode c_L_get 17 = .ok (.ireturn, 1) := by decide +kernel
theorem d_L_get_18 : decode c_L_get 18 = .ok (.iconst (0), 1) := by decide +kernel
theorem d_L_get_19 : decode c_L_get 19 = .ok (.ireturn, 1) := by decide +kernel
theorem d_L_at_0 : decode c_L_at 0 = .ok (.aload_n 2, 1) := by decide +kernel
theorem d_L_at_1 : decode c_L_at 1 = .ok (.iconst (0), 1) := by decide +kernel
theorem d_L_at_2 : decode c_L_at 2 = .ok (.aload_n 0, 1) := by decide +kernel
theorem d_L_at_3 : decode c_L_at 3 = .ok (.iload_n 1, 1) := by decide +kernel
theorem d_L_at_4 : decode c_L_at 4 = .ok (.invokevirtual 25, 3) := by decide +kernel
theorem d_L_at_7 : decode c_L_at 7 = .ok (.i2l, 1) := by decide +kernel
theorem d_L_at_8 : decode c_L_at 8 = .ok (.lastore, 1) := by decide +kernel
theorem d_L_at_9 : decode c_L_at 9 = .ok (.goto (6), 3) := by decide +kernel
theorem d_L_at_12 : decode c_L_at 12 = .ok (.astore_n 3, 1) := by decide +kernel
theorem d_L_at_13 : decode c_L_at 13 = .ok (.iconst (1), 1) := by decide +kernel
theorem d_L_at_14 : decode c_L_at 14 = .ok (.ireturn, 1) := by decide +kernel
theorem d_L_at_15 : decode c_L_at 15 = .ok (.iconst (0), 1) := by decide +kernel
theorem d_L_at_16 : decode c_L_at 16 = .ok (.ireturn, 1) := by decide +kernel
theorem d_L_fail_0 : decode c_L_fail 0 = .ok (.aload_n 2, 1) := by decide +kernel
theorem d_L_fail_1 : decode c_L_fail 1 = .ok (.iconst (0), 1) := by decide +kernel
theorem d_L_fail_2 : decode c_L_fail 2 = .ok (.aload_n 0, 1) := by decide +kernel
theorem d_L_fail_3 : decode c_L_fail 3 = .ok (.iload_n 1, 1) := by decide +kernel
theorem d_L_fail_4 : decode c_L_fail 4 = .ok (.invokevirtual 30, 3) := by decide +kernel
theorem d_L_fail_7 : decode c_L_fail 7 = .ok (.i2l, 1) := by decide +kernel
theorem d_L_fail_8 : decode c_L_fail 8 = .ok (.lastore, 1) := by decide +kernel
theorem d_L_fail_9 : decode c_L_fail 9 = .ok (.goto (9), 3) := by decide +kernel
theorem d_L_fail_12 : decode c_L_fail 12 = .ok (.astore_n 3, 1) := by decide +kernel
theorem d_L_fail_13 : decode c_L_fail 13 = .ok (.iconst (1), 1) := by decide +kernel
theorem d_L_fail_14 : decode c_L_fail 14 = .ok (.ireturn, 1) := by decide +kernel
theorem d_L_fail_15 : decode c_L_fail 15 = .ok (.astore_n 3, 1) := by decide +kernel
theorem d_L_fail_16 : decode c_L_fail 16 = .ok (.iconst (2), 1) := by decide +kernel
theorem d_L_fail_17 : decode c_L_fail 17 = .ok (.ireturn, 1) := by decide +kernel
theorem d_L_fail_18 : decode c_L_fail 18 = .ok (.iconst (0), 1) := by decide +kernel
theorem d_L_fail_19 : decode c_L_fail 19 = .ok (.ireturn, 1) := by decide +kernel
theorem d_L_renew_0 : decode c_L_renew 0 = .ok (.aload_n 2, 1) := by decide +kernel
theorem d_L_renew_1 : decode c_L_renew 1 = .ok (.iconst (0), 1) := by decide +kernel
theorem d_L_renew_2 : decode c_L_renew 2 = .ok (.aload_n 0, 1) := by decide +kernel
theorem d_L_renew_3 : decode c_L_renew 3 = .ok (.iload_n 1, 1) := by decide +kernel
theorem d_L_renew_4 : decode c_L_renew 4 = .ok (.invokevirtual 33, 3) := by decide +kernel
theorem d_L_renew_7 : decode c_L_renew 7 = .ok (.i2l, 1) := by decide +kernel
theorem d_L_renew_8 : decode c_L_renew 8 = .ok (.lastore, 1) := by decide +kernel
theorem d_L_renew_9 : decode c_L_renew 9 = .ok (.goto (9), 3) := by decide +kernel
theorem d_L_renew_12 : decode c_L_renew 12 = .ok (.astore_n 3, 1) := by decide +kernel
theorem d_L_renew_13 : decode c_L_renew 13 = .ok (.iconst (1), 1) := by decide +kernel
theorem d_L_renew_14 : decode c_L_renew 14 = .ok (.ireturn, 1) := by decide +kernel
theorem d_L_renew_15 : decode c_L_renew 15 = .ok (.astore_n 3, 1) := by decide +kernel
theorem d_L_renew_16 : decode c_L_renew 16 = .ok (.iconst (2), 1) := by decide +kernel
theorem d_L_renew_17 : decode c_L_renew 17 = .ok (.ireturn, 1) := by decide +kernel
theorem d_L_renew_18 : decode c_L_renew 18 = .ok (.iconst (0), 1) := by decide +kernel
theorem d_L_renew_19 : decode c_L_renew 19 = .ok (.ireturn, 1) := by decide +kernel
theorem d_L_check_0 : decode c_L_check 0 = .ok (.aload_n 2, 1) := by decide +kernel
theorem d_L_check_1 : decode c_L_check 1 = .ok (.iconst (0), 1) := by decide +kernel
theorem d_L_check_2 : decode c_L_check 2 = .ok (.aload_n 0, 1) := by decide +kernel
theorem d_L_check_3 : decode c_L_check 3 = .ok (.iload_n 1, 1) := by decide +kernel
theorem d_L_check_4 : decode c_L_check 4 = .ok (.invokevirtual 36, 3) := by decide +kernel
theorem d_L_check_7 : decode c_L_check 7 = .ok (.i2l, 1) := by decide +kernel
theorem d_L_check_8 : decode c_L_check 8 = .ok (.lastore, 1) := by decide +kernel
theorem d_L_check_9 : decode c_L_check 9 = .ok (.goto (6), 3) := by decide +kernel
theorem d_L_check_12 : decode c_L_check 12 = .ok (.astore_n 3, 1) := by decide +kernel
theorem d_L_check_13 : decode c_L_check 13 = .ok (.iconst (1), 1) := by decide +kernel
theorem d_L_check_14 : decode c_L_check 14 = .ok (.ireturn, 1) := by decide +kernel
theorem d_L_check_15 : decode c_L_check 15 = .ok (.iconst (0), 1) := by decide +kernel
theorem d_L_check_16 : decode c_L_check 16 = .ok (.ireturn, 1) := by decide +kernel
theorem d_L_harm_0 : decode c_L_harm 0 = .ok (.aload 5, 2) := by decide +kernel
theorem d_L_harm_2 : decode c_L_harm 2 = .ok (.iconst (0), 1) := by decide +kernel
theorem d_L_harm_3 : decode c_L_harm 3 = .ok (.aload_n 0, 1) := by decide +kernel
theorem d_L_harm_4 : decode c_L_harm 4 = .ok (.iload_n 1, 1) := by decide +kernel
theorem d_L_harm_5 : decode c_L_harm 5 = .ok (.iload_n 2, 1) := by decide +kernel
theorem d_L_harm_6 : decode c_L_harm 6 = .ok (.iload_n 3, 1) := by decide +kernel
theorem d_L_harm_7 : decode c_L_harm 7 = .ok (.iload 4, 2) := by decide +kernel
theorem d_L_harm_9 : decode c_L_harm 9 = .ok (.invokevirtual 39, 3) := by decide +kernel
theorem d_L_harm_12 : decode c_L_harm 12 = .ok (.i2l, 1) := by decide +kernel
theorem d_L_harm_13 : decode c_L_harm 13 = .ok (.lastore, 1) := by decide +kernel
theorem d_L_harm_14 : decode c_L_harm 14 = .ok (.goto (11), 3) := by decide +kernel
theorem d_L_harm_17 : decode c_L_harm 17 = .ok (.astore 6, 2) := by decide +kernel
theorem d_L_harm_19 : decode c_L_harm 19 = .ok (.iconst (1), 1) := by decide +kernel
theorem d_L_harm_20 : decode c_L_harm 20 = .ok (.ireturn, 1) := by decide +kernel
theorem d_L_harm_21 : decode c_L_harm 21 = .ok (.astore 6, 2) := by decide +kernel
theorem d_L_harm_23 : decode c_L_harm 23 = .ok (.iconst (2), 1) := by decide +kernel
theorem d_L_harm_24 : decode c_L_harm 24 = .ok (.ireturn, 1) := by decide +kernel
theorem d_L_harm_25 : decode c_L_harm 25 = .ok (.iconst (0), 1) := by decide +kernel
theorem d_L_harm_26 : decode c_L_harm 26 = .ok (.ireturn, 1) := by decide +kernel
theorem d_L_stored_0 : decode c_L_stored 0 = .ok (.aload 4, 2) := by decide +kernel
theorem d_L_stored_2 : decode c_L_stored 2 = .ok (.iconst (0), 1) := by decide +kernel
theorem d_L_stored_3 : decode c_L_stored 3 = .ok (.aload_n 0, 1) := by decide +kernel
theorem d_L_stored_4 : decode c_L_stored 4 = .ok (.iload_n 1, 1) := by decide +kernel
theorem d_L_stored_5 : decode c_L_stored 5 = .ok (.iload_n 2, 1) := by decide +kernel
theorem d_L_stored_6 : decode c_L_stored 6 = .ok (.iload_n 3, 1) := by decide +kernel
theorem d_L_stored_7 : decode c_L_stored 7 = .ok (.invokevirtual 43, 3) := by decide +kernel
theorem d_L_stored_10 : decode c_L_stored 10 = .ok (.i2l, 1) := by decide +kernel
theorem d_L_stored_11 : decode c_L_stored 11 = .ok (.lastore, 1) := by decide +kernel
theorem d_L_stored_12 : decode c_L_stored 12 = .ok (.goto (11), 3) := by decide +kernel
theorem d_L_stored_15 : decode c_L_stored 15 = .ok (.astore 5, 2) := by decide +kernel
theorem d_L_stored_17 : decode c_L_stored 17 = .ok (.iconst (1), 1) := by decide +kernel
theorem d_L_stored_18 : decode c_L_stored 18 = .ok (.ireturn, 1) := by decide +kernel
theorem d_L_stored_19 : decode c_L_stored 19 = .ok (.astore 5, 2) := by decide +kernel
theorem d_L_stored_21 : decode c_L_stored 21 = .ok (.iconst (2), 1) := by decide +kernel
theorem d_L_stored_22 : decode c_L_stored 22 = .ok (.ireturn, 1) := by decide +kernel
theorem d_L_stored_23 : decode c_L_stored 23 = .ok (.iconst (0), 1) := by decide +kernel
theorem d_L_stored_24 : decode c_L_stored 24 = .ok (.ireturn, 1) := by decide +kernel
theorem d_L_where_0 : decode c_L_where 0 = .ok (.aload 4, 2) := by decide +kernel
theorem d_L_where_2 : decode c_L_where 2 = .ok (.iconst (0), 1) := by decide +kernel
theorem d_L_where_3 : decode c_L_where 3 = .ok (.aload_n 0, 1) := by decide +kernel
theorem d_L_where_4 : decode c_L_where 4 = .ok (.iload_n 1, 1) := by decide +kernel
theorem d_L_where_5 : decode c_L_where 5 = .ok (.iload_n 2, 1) := by decide +kernel
theorem d_L_where_6 : decode c_L_where 6 = .ok (.iload_n 3, 1) := by decide +kernel
theorem d_L_where_7 : decode c_L_where 7 = .ok (.invokevirtual 47, 3) := by decide +kernel
theorem d_L_where_10 : decode c_L_where 10 = .ok (.i2l, 1) := by decide +kernel
theorem d_L_where_11 : decode c_L_where 11 = .ok (.lastore, 1) := by decide +kernel
theorem d_L_where_12 : decode c_L_where 12 = .ok (.goto (11), 3) := by decide +kernel
theorem d_L_where_15 : decode c_L_where 15 = .ok (.astore 5, 2) := by decide +kernel
theorem d_L_where_17 : decode c_L_where 17 = .ok (.iconst (1), 1) := by decide +kernel
theorem d_L_where_18 : decode c_L_where 18 = .ok (.ireturn, 1) := by decide +kernel
theorem d_L_where_19 : decode c_L_where 19 = .ok (.astore 5, 2) := by decide +kernel
theorem d_L_where_21 : decode c_L_where 21 = .ok (.iconst (2), 1) := by decide +kernel
theorem d_L_where_22 : decode c_L_where 22 = .ok (.ireturn, 1) := by decide +kernel
theorem d_L_where_23 : decode c_L_where 23 = .ok (.iconst (0), 1) := by decide +kernel
theorem d_L_where_24 : decode c_L_where 24 = .ok (.ireturn, 1) := by decide +kernel
theorem d_L_product_0 : decode c_L_product 0 = .ok (.aload_n 3, 1) := by decide +kernel
theorem d_L_product_1 : decode c_L_product 1 = .ok (.iconst (0), 1) := by decide +kernel
theorem d_L_product_2 : decode c_L_product 2 = .ok (.aload_n 0, 1) := by decide +kernel
theorem d_L_product_3 : decode c_L_product 3 = .ok (.iload_n 1, 1) := by decide +kernel
theorem d_L_product_4 : decode c_L_product 4 = .ok (.iload_n 2, 1) := by decide +kernel
theorem d_L_product_5 : decode c_L_product 5 = .ok (.invokevirtual 50, 3) := by decide +kernel
theorem d_L_product_8 : decode c_L_product 8 = .ok (.i2l, 1) := by decide +kernel
theorem d_L_product_9 : decode c_L_product 9 = .ok (.lastore, 1) := by decide +kernel
theorem d_L_product_10 : decode c_L_product 10 = .ok (.goto (11), 3) := by decide +kernel
theorem d_L_product_13 : decode c_L_product 13 = .ok (.astore 4, 2) := by decide +kernel
theorem d_L_product_15 : decode c_L_product 15 = .ok (.iconst (1), 1) := by decide +kernel
theorem d_L_product_16 : decode c_L_product 16 = .ok (.ireturn, 1) := by decide +kernel
theorem d_L_product_17 : decode c_L_product 17 = .ok (.astore 4, 2) := by decide +kernel
theorem d_L_product_19 : decode c_L_product 19 = .ok (.iconst (2), 1) := by decide +kernel
theorem d_L_product_20 : decode c_L_product 20 = .ok (.ireturn, 1) := by decide +kernel
theorem d_L_product_21 : decode c_L_product 21 = .ok (.iconst (0), 1) := by decide +kernel
theorem d_L_product_22 : decode c_L_product 22 = .ok (.ireturn, 1) := by decide +kernel
theorem d_A_fill_0 : decode c_A_fill 0 = .ok (.iconst (0), 1) := by decide +kernel
theorem d_A_fill_1 : decode c_A_fill 1 = .ok (.istore_n 2, 1) := by decide +kernel
theorem d_A_fill_2 : decode c_A_fill 2 = .ok (.aload_n 0, 1) := by decide +kernel
theorem d_A_fill_3 : decode c_A_fill 3 = .ok (.arraylength, 1) := by decide +kernel
theorem d_A_fill_4 : decode c_A_fill 4 = .ok (.istore_n 3, 1) := by decide +kernel
theorem d_A_fill_5 : decode c_A_fill 5 = .ok (.iload_n 2, 1) := by decide +kernel
theorem d_A_fill_6 : decode c_A_fill 6 = .ok (.iload_n 3, 1) := by decide +kernel
theorem d_A_fill_7 : decode c_A_fill 7 = .ok (.if_icmp .ge (13), 3) := by decide +kernel
theorem d_A_fill_10 : decode c_A_fill 10 = .ok (.aload_n 0, 1) := by decide +kernel
theorem d_A_fill_11 : decode c_A_fill 11 = .ok (.iload_n 2, 1) := by decide +kernel
theorem d_A_fill_12 : decode c_A_fill 12 = .ok (.iload_n 1, 1) := by decide +kernel
theorem d_A_fill_13 : decode c_A_fill 13 = .ok (.iastore, 1) := by decide +kernel
theorem d_A_fill_14 : decode c_A_fill 14 = .ok (.iinc 2 (1), 3) := by decide +kernel
theorem d_A_fill_17 : decode c_A_fill 17 = .ok (.goto (-12), 3) := by decide +kernel
theorem d_A_fill_20 : decode c_A_fill 20 = .ok (.return_, 1) := by decide +kernel
