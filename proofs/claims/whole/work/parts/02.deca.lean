theorem dX0_init_0 : decode cX0_init 0 = .ok (.aload_n 0, 1) := by decide +kernel
theorem dX0_init_1 : decode cX0_init 1 = .ok (.invokespecial 3, 3) := by decide +kernel
theorem dX0_init_4 : decode cX0_init 4 = .ok (.aload_n 0, 1) := by decide +kernel
theorem dX0_init_5 : decode cX0_init 5 = .ok (.iconst 0, 1) := by decide +kernel
theorem dX0_init_6 : decode cX0_init 6 = .ok (.putfield 9, 3) := by decide +kernel
theorem dX0_init_9 : decode cX0_init 9 = .ok (.aload_n 0, 1) := by decide +kernel
theorem dX0_init_10 : decode cX0_init 10 = .ok (.sipush 200, 3) := by decide +kernel
theorem dX0_init_13 : decode cX0_init 13 = .ok (.newarray .int, 2) := by decide +kernel
theorem dX0_init_15 : decode cX0_init 15 = .ok (.putfield 15, 3) := by decide +kernel
theorem dX0_init_18 : decode cX0_init 18 = .ok (.aload_n 0, 1) := by decide +kernel
theorem dX0_init_19 : decode cX0_init 19 = .ok (.sipush 200, 3) := by decide +kernel
theorem dX0_init_22 : decode cX0_init 22 = .ok (.newarray .int, 2) := by decide +kernel
theorem dX0_init_24 : decode cX0_init 24 = .ok (.putfield 19, 3) := by decide +kernel
theorem dX0_init_27 : decode cX0_init 27 = .ok (.aload_n 0, 1) := by decide +kernel
theorem dX0_init_28 : decode cX0_init 28 = .ok (.sipush 200, 3) := by decide +kernel
theorem dX0_init_31 : decode cX0_init 31 = .ok (.newarray .int, 2) := by decide +kernel
theorem dX0_init_33 : decode cX0_init 33 = .ok (.putfield 22, 3) := by decide +kernel
theorem dX0_init_36 : decode cX0_init 36 = .ok (.aload_n 0, 1) := by decide +kernel
theorem dX0_init_37 : decode cX0_init 37 = .ok (.sipush 200, 3) := by decide +kernel
theorem dX0_init_40 : decode cX0_init 40 = .ok (.newarray .boolean, 2) := by decide +kernel
theorem dX0_init_42 : decode cX0_init 42 = .ok (.putfield 25, 3) := by decide +kernel
theorem dX0_init_45 : decode cX0_init 45 = .ok (.aload_n 0, 1) := by decide +kernel
theorem dX0_init_46 : decode cX0_init 46 = .ok (.sipush 200, 3) := by decide +kernel
theorem dX0_init_49 : decode cX0_init 49 = .ok (.newarray .int, 2) := by decide +kernel
theorem dX0_init_51 : decode cX0_init 51 = .ok (.putfield 29, 3) := by decide +kernel
theorem dX0_init_54 : decode cX0_init 54 = .ok (.aload_n 0, 1) := by decide +kernel
theorem dX0_init_55 : decode cX0_init 55 = .ok (.sipush 200, 3) := by decide +kernel
theorem dX0_init_58 : decode cX0_init 58 = .ok (.newarray .int, 2) := by decide +kernel
theorem dX0_init_60 : decode cX0_init 60 = .ok (.putfield 32, 3) := by decide +kernel
theorem dX0_init_63 : decode cX0_init 63 = .ok (.aload_n 0, 1) := by decide +kernel
theorem dX0_init_64 : decode cX0_init 64 = .ok (.sipush 200, 3) := by decide +kernel
theorem dX0_init_67 : decode cX0_init 67 = .ok (.newarray .int, 2) := by decide +kernel
theorem dX0_init_69 : decode cX0_init 69 = .ok (.putfield 35, 3) := by decide +kernel
theorem dX0_init_72 : decode cX0_init 72 = .ok (.aload_n 0, 1) := by decide +kernel
theorem dX0_init_73 : decode cX0_init 73 = .ok (.sipush 200, 3) := by decide +kernel
theorem dX0_init_76 : decode cX0_init 76 = .ok (.newarray .int, 2) := by decide +kernel
theorem dX0_init_78 : decode cX0_init 78 = .ok (.putfield 38, 3) := by decide +kernel
theorem dX0_init_81 : decode cX0_init 81 = .ok (.aload_n 0, 1) := by decide +kernel
theorem dX0_init_82 : decode cX0_init 82 = .ok (.bipush 32, 2) := by decide +kernel
theorem dX0_init_84 : decode cX0_init 84 = .ok (.newarray .int, 2) := by decide +kernel
theorem dX0_init_86 : decode cX0_init 86 = .ok (.putfield 41, 3) := by decide +kernel
theorem dX0_init_89 : decode cX0_init 89 = .ok (.aload_n 0, 1) := by decide +kernel
theorem dX0_init_90 : decode cX0_init 90 = .ok (.iconst 0, 1) := by decide +kernel
theorem dX0_init_91 : decode cX0_init 91 = .ok (.putfield 44, 3) := by decide +kernel
theorem dX0_init_94 : decode cX0_init 94 = .ok (.return_, 1) := by decide +kernel
theorem dX0_has_0 : decode cX0_has 0 = .ok (.iload_n 1, 1) := by decide +kernel
theorem dX0_has_1 : decode cX0_has 1 = .ok (.ifCond .lt 15, 3) := by decide +kernel
theorem dX0_has_4 : decode cX0_has 4 = .ok (.iload_n 1, 1) := by decide +kernel
theorem dX0_has_5 : decode cX0_has 5 = .ok (.aload_n 0, 1) := by decide +kernel
theorem dX0_has_6 : decode cX0_has 6 = .ok (.getfield 9, 3) := by decide +kernel
theorem dX0_has_9 : decode cX0_has 9 = .ok (.if_icmp .ge 7, 3) := by decide +kernel
theorem dX0_has_12 : decode cX0_has 12 = .ok (.iconst 1, 1) := by decide +kernel
theorem dX0_has_13 : decode cX0_has 13 = .ok (.goto 4, 3) := by decide +kernel
theorem dX0_has_16 : decode cX0_has 16 = .ok (.iconst 0, 1) := by decide +kernel
theorem dX0_has_17 : decode cX0_has 17 = .ok (.ireturn, 1) := by decide +kernel
theorem dX0_clear_0 : decode cX0_clear 0 = .ok (.aload_n 0, 1) := by decide +kernel
theorem dX0_clear_1 : decode cX0_clear 1 = .ok (.iconst 0, 1) := by decide +kernel
theorem dX0_clear_2 : decode cX0_clear 2 = .ok (.putfield 9, 3) := by decide +kernel
theorem dX0_clear_5 : decode cX0_clear 5 = .ok (.aload_n 0, 1) := by decide +kernel
theorem dX0_clear_6 : decode cX0_clear 6 = .ok (.iconst 0, 1) := by decide +kernel
theorem dX0_clear_7 : decode cX0_clear 7 = .ok (.putfield 44, 3) := by decide +kernel
theorem dX0_clear_10 : decode cX0_clear 10 = .ok (.return_, 1) := by decide +kernel
theorem dX0_isFull_0 : decode cX0_isFull 0 = .ok (.aload_n 0, 1) := by decide +kernel
theorem dX0_isFull_1 : decode cX0_isFull 1 = .ok (.getfield 9, 3) := by decide +kernel
theorem dX0_isFull_4 : decode cX0_isFull 4 = .ok (.sipush 200, 3) := by decide +kernel
theorem dX0_isFull_7 : decode cX0_isFull 7 = .ok (.if_icmp .ge 12, 3) := by decide +kernel
theorem dX0_isFull_10 : decode cX0_isFull 10 = .ok (.aload_n 0, 1) := by decide +kernel
theorem dX0_isFull_11 : decode cX0_isFull 11 = .ok (.getfield 44, 3) := by decide +kernel
theorem dX0_isFull_14 : decode cX0_isFull 14 = .ok (.bipush 32, 2) := by decide +kernel
theorem dX0_isFull_16 : decode cX0_isFull 16 = .ok (.if_icmp .lt 7, 3) := by decide +kernel
theorem dX0_isFull_19 : decode cX0_isFull 19 = .ok (.iconst 1, 1) := by decide +kernel
theorem dX0_isFull_20 : decode cX0_isFull 20 = .ok (.goto 4, 3) := by decide +kernel
theorem dX0_isFull_23 : decode cX0_isFull 23 = .ok (.iconst 0, 1) := by decide +kernel
theorem dX0_isFull_24 : decode cX0_isFull 24 = .ok (.ireturn, 1) := by decide +kernel
theorem dX0_add_0 : decode cX0_add 0 = .ok (.aload_n 0, 1) := by decide +kernel
theorem dX0_add_1 : decode cX0_add 1 = .ok (.invokevirtual 47, 3) := by decide +kernel
theorem dX0_add_4 : decode cX0_add 4 = .ok (.ifCond .eq 4, 3) := by decide +kernel
theorem dX0_add_7 : decode cX0_add 7 = .ok (.return_, 1) := by decide +kernel
theorem dX0_add_8 : decode cX0_add 8 = .ok (.aload_n 0, 1) := by decide +kernel
theorem dX0_add_9 : decode cX0_add 9 = .ok (.getfield 9, 3) := by decide +kernel
theorem dX0_add_12 : decode cX0_add 12 = .ok (.istore 4, 2) := by decide +kernel
theorem dX0_add_14 : decode cX0_add 14 = .ok (.aload_n 0, 1) := by decide +kernel
theorem dX0_add_15 : decode cX0_add 15 = .ok (.dup, 1) := by decide +kernel
theorem dX0_add_16 : decode cX0_add 16 = .ok (.getfield 9, 3) := by decide +kernel
theorem dX0_add_19 : decode cX0_add 19 = .ok (.iconst 1, 1) := by decide +kernel
theorem dX0_add_20 : decode cX0_add 20 = .ok (.iadd, 1) := by decide +kernel
theorem dX0_add_21 : decode cX0_add 21 = .ok (.putfield 9, 3) := by decide +kernel
theorem dX0_add_24 : decode cX0_add 24 = .ok (.aload_n 0, 1) := by decide +kernel
theorem dX0_add_25 : decode cX0_add 25 = .ok (.getfield 15, 3) := by decide +kernel
theorem dX0_add_28 : decode cX0_add 28 = .ok (.iload 4, 2) := by decide +kernel
theorem dX0_add_30 : decode cX0_add 30 = .ok (.iload_n 1, 1) := by decide +kernel
theorem dX0_add_31 : decode cX0_add 31 = .ok (.iastore, 1) := by decide +kernel
theorem dX0_add_32 : decode cX0_add 32 = .ok (.aload_n 0, 1) := by decide +kernel
theorem dX0_add_33 : decode cX0_add 33 = .ok (.getfield 19, 3) := by decide +kernel
theorem dX0_add_36 : decode cX0_add 36 = .ok (.iload 4, 2) := by decide +kernel
theorem dX0_add_38 : decode cX0_add 38 = .ok (.iload_n 2, 1) := by decide +kernel
theorem dX0_add_39 : decode cX0_add 39 = .ok (.iastore, 1) := by decide +kernel
theorem dX0_add_40 : decode cX0_add 40 = .ok (.aload_n 0, 1) := by decide +kernel
theorem dX0_add_41 : decode cX0_add 41 = .ok (.getfield 22, 3) := by decide +kernel
theorem dX0_add_44 : decode cX0_add 44 = .ok (.iload 4, 2) := by decide +kernel
theorem dX0_add_46 : decode cX0_add 46 = .ok (.iconst 1, 1) := by decide +kernel
theorem dX0_add_47 : decode cX0_add 47 = .ok (.iastore, 1) := by decide +kernel
theorem dX0_add_48 : decode cX0_add 48 = .ok (.aload_n 0, 1) := by decide +kernel
theorem dX0_add_49 : decode cX0_add 49 = .ok (.getfield 25, 3) := by decide +kernel
theorem dX0_add_52 : decode cX0_add 52 = .ok (.iload 4, 2) := by decide +kernel
theorem dX0_add_54 : decode cX0_add 54 = .ok (.iload_n 3, 1) := by decide +kernel
theorem dX0_add_55 : decode cX0_add 55 = .ok (.bastore, 1) := by decide +kernel
theorem dX0_add_56 : decode cX0_add 56 = .ok (.aload_n 0, 1) := by decide +kernel
theorem dX0_add_57 : decode cX0_add 57 = .ok (.getfield 29, 3) := by decide +kernel
theorem dX0_add_60 : decode cX0_add 60 = .ok (.iload 4, 2) := by decide +kernel
theorem dX0_add_62 : decode cX0_add 62 = .ok (.iconst 0, 1) := by decide +kernel
theorem dX0_add_63 : decode cX0_add 63 = .ok (.iastore, 1) := by decide +kernel
theorem dX0_add_64 : decode cX0_add 64 = .ok (.aload_n 0, 1) := by decide +kernel
theorem dX0_add_65 : decode cX0_add 65 = .ok (.getfield 32, 3) := by decide +kernel
theorem dX0_add_68 : decode cX0_add 68 = .ok (.iload 4, 2) := by decide +kernel
theorem dX0_add_70 : decode cX0_add 70 = .ok (.iconst 0, 1) := by decide +kernel
theorem dX0_add_71 : decode cX0_add 71 = .ok (.iastore, 1) := by decide +kernel
theorem dX0_add_72 : decode cX0_add 72 = .ok (.aload_n 0, 1) := by decide +kernel
theorem dX0_add_73 : decode cX0_add 73 = .ok (.getfield 35, 3) := by decide +kernel
theorem dX0_add_76 : decode cX0_add 76 = .ok (.iload 4, 2) := by decide +kernel
theorem dX0_add_78 : decode cX0_add 78 = .ok (.iconst 0, 1) := by decide +kernel
theorem dX0_add_79 : decode cX0_add 79 = .ok (.iastore, 1) := by decide +kernel
theorem dX0_add_80 : decode cX0_add 80 = .ok (.aload_n 0, 1) := by decide +kernel
theorem dX0_add_81 : decode cX0_add 81 = .ok (.getfield 38, 3) := by decide +kernel
theorem dX0_add_84 : decode cX0_add 84 = .ok (.iload 4, 2) := by decide +kernel
theorem dX0_add_86 : decode cX0_add 86 = .ok (.iconst 0, 1) := by decide +kernel
theorem dX0_add_87 : decode cX0_add 87 = .ok (.iastore, 1) := by decide +kernel
theorem dX0_add_88 : decode cX0_add 88 = .ok (.aload_n 0, 1) := by decide +kernel
theorem dX0_add_89 : decode cX0_add 89 = .ok (.getfield 41, 3) := by decide +kernel
theorem dX0_add_92 : decode cX0_add 92 = .ok (.aload_n 0, 1) := by decide +kernel
theorem dX0_add_93 : decode cX0_add 93 = .ok (.getfield 44, 3) := by decide +kernel
theorem dX0_add_96 : decode cX0_add 96 = .ok (.iload 4, 2) := by decide +kernel
theorem dX0_add_98 : decode cX0_add 98 = .ok (.iastore, 1) := by decide +kernel
theorem dX0_add_99 : decode cX0_add 99 = .ok (.aload_n 0, 1) := by decide +kernel
theorem dX0_add_100 : decode cX0_add 100 = .ok (.dup, 1) := by decide +kernel
theorem dX0_add_101 : decode cX0_add 101 = .ok (.getfield 44, 3) := by decide +kernel
theorem dX0_add_104 : decode cX0_add 104 = .ok (.iconst 1, 1) := by decide +kernel
theorem dX0_add_105 : decode cX0_add 105 = .ok (.iadd, 1) := by decide +kernel
theorem dX0_add_106 : decode cX0_add 106 = .ok (.putfield 44, 3) := by decide +kernel
theorem dX0_add_109 : decode cX0_add 109 = .ok (.return_, 1) := by decide +kernel
theorem dX0_grow_0 : decode cX0_grow 0 = .ok (.aload_n 0, 1) := by decide +kernel
theorem dX0_grow_1 : decode cX0_grow 1 = .ok (.getfield 29, 3) := by decide +kernel
theorem dX0_grow_4 : decode cX0_grow 4 = .ok (.iload_n 1, 1) := by decide +kernel
theorem dX0_grow_5 : decode cX0_grow 5 = .ok (.dup2, 1) := by decide +kernel
theorem dX0_grow_6 : decode cX0_grow 6 = .ok (.iaload, 1) := by decide +kernel
theorem dX0_grow_7 : decode cX0_grow 7 = .ok (.iconst 1, 1) := by decide +kernel
theorem dX0_grow_8 : decode cX0_grow 8 = .ok (.iadd, 1) := by decide +kernel
theorem dX0_grow_9 : decode cX0_grow 9 = .ok (.iastore, 1) := by decide +kernel
theorem dX0_grow_10 : decode cX0_grow 10 = .ok (.aload_n 0, 1) := by decide +kernel
theorem dX0_grow_11 : decode cX0_grow 11 = .ok (.getfield 32, 3) := by decide +kernel
theorem dX0_grow_14 : decode cX0_grow 14 = .ok (.iload_n 1, 1) := by decide +kernel
theorem dX0_grow_15 : decode cX0_grow 15 = .ok (.dup2, 1) := by decide +kernel
theorem dX0_grow_16 : decode cX0_grow 16 = .ok (.iaload, 1) := by decide +kernel
theorem dX0_grow_17 : decode cX0_grow 17 = .ok (.iload_n 2, 1) := by decide +kernel
theorem dX0_grow_18 : decode cX0_grow 18 = .ok (.iadd, 1) := by decide +kernel
theorem dX0_grow_19 : decode cX0_grow 19 = .ok (.iastore, 1) := by decide +kernel
theorem dX0_grow_20 : decode cX0_grow 20 = .ok (.iload_n 3, 1) := by decide +kernel
theorem dX0_grow_21 : decode cX0_grow 21 = .ok (.ifCond .le 18, 3) := by decide +kernel
theorem dX0_grow_24 : decode cX0_grow 24 = .ok (.aload_n 0, 1) := by decide +kernel
theorem dX0_grow_25 : decode cX0_grow 25 = .ok (.getfield 32, 3) := by decide +kernel
theorem dX0_grow_28 : decode cX0_grow 28 = .ok (.iload_n 1, 1) := by decide +kernel
theorem dX0_grow_29 : decode cX0_grow 29 = .ok (.iaload, 1) := by decide +kernel
theorem dX0_grow_30 : decode cX0_grow 30 = .ok (.sipush 1000, 3) := by decide +kernel
theorem dX0_grow_33 : decode cX0_grow 33 = .ok (.imul, 1) := by decide +kernel
theorem dX0_grow_34 : decode cX0_grow 34 = .ok (.iload_n 3, 1) := by decide +kernel
theorem dX0_grow_35 : decode cX0_grow 35 = .ok (.idiv, 1) := by decide +kernel
theorem dX0_grow_36 : decode cX0_grow 36 = .ok (.goto 4, 3) := by decide +kernel
theorem dX0_grow_39 : decode cX0_grow 39 = .ok (.iconst 0, 1) := by decide +kernel
theorem dX0_grow_40 : decode cX0_grow 40 = .ok (.istore 4, 2) := by decide +kernel
theorem dX0_grow_42 : decode cX0_grow 42 = .ok (.aload_n 0, 1) := by decide +kernel
theorem dX0_grow_43 : decode cX0_grow 43 = .ok (.getfield 35, 3) := by decide +kernel
theorem dX0_grow_46 : decode cX0_grow 46 = .ok (.iload_n 1, 1) := by decide +kernel
theorem dX0_grow_47 : decode cX0_grow 47 = .ok (.sipush 1000, 3) := by decide +kernel
theorem dX0_grow_50 : decode cX0_grow 50 = .ok (.iload 4, 2) := by decide +kernel
theorem dX0_grow_52 : decode cX0_grow 52 = .ok (.invokestatic 51, 3) := by decide +kernel
theorem dX0_grow_55 : decode cX0_grow 55 = .ok (.iastore, 1) := by decide +kernel
theorem dX0_grow_56 : decode cX0_grow 56 = .ok (.aload_n 0, 1) := by decide +kernel
theorem dX0_grow_57 : decode cX0_grow 57 = .ok (.getfield 38, 3) := by decide +kernel
theorem dX0_grow_60 : decode cX0_grow 60 = .ok (.iload_n 1, 1) := by decide +kernel
theorem dX0_grow_61 : decode cX0_grow 61 = .ok (.aload_n 0, 1) := by decide +kernel
theorem dX0_grow_62 : decode cX0_grow 62 = .ok (.getfield 29, 3) := by decide +kernel
theorem dX0_grow_65 : decode cX0_grow 65 = .ok (.iload_n 1, 1) := by decide +kernel
theorem dX0_grow_66 : decode cX0_grow 66 = .ok (.iaload, 1) := by decide +kernel
theorem dX0_grow_67 : decode cX0_grow 67 = .ok (.ifCond .le 19, 3) := by decide +kernel
theorem dX0_grow_70 : decode cX0_grow 70 = .ok (.aload_n 0, 1) := by decide +kernel
theorem dX0_grow_71 : decode cX0_grow 71 = .ok (.getfield 35, 3) := by decide +kernel
theorem dX0_grow_74 : decode cX0_grow 74 = .ok (.iload_n 1, 1) := by decide +kernel
theorem dX0_grow_75 : decode cX0_grow 75 = .ok (.iaload, 1) := by decide +kernel
theorem dX0_grow_76 : decode cX0_grow 76 = .ok (.aload_n 0, 1) := by decide +kernel
theorem dX0_grow_77 : decode cX0_grow 77 = .ok (.getfield 29, 3) := by decide +kernel
theorem dX0_grow_80 : decode cX0_grow 80 = .ok (.iload_n 1, 1) := by decide +kernel
theorem dX0_grow_81 : decode cX0_grow 81 = .ok (.iaload, 1) := by decide +kernel
theorem dX0_grow_82 : decode cX0_grow 82 = .ok (.idiv, 1) := by decide +kernel
theorem dX0_grow_83 : decode cX0_grow 83 = .ok (.goto 4, 3) := by decide +kernel
theorem dX0_grow_86 : decode cX0_grow 86 = .ok (.iconst 0, 1) := by decide +kernel
theorem dX0_grow_87 : decode cX0_grow 87 = .ok (.iastore, 1) := by decide +kernel
theorem dX0_grow_88 : decode cX0_grow 88 = .ok (.return_, 1) := by decide +kernel
theorem dX0_dropEnded_0 : decode cX0_dropEnded 0 = .ok (.iconst 0, 1) := by decide +kernel
theorem dX0_dropEnded_1 : decode cX0_dropEnded 1 = .ok (.istore_n 1, 1) := by decide +kernel
theorem dX0_dropEnded_2 : decode cX0_dropEnded 2 = .ok (.iconst 0, 1) := by decide +kernel
theorem dX0_dropEnded_3 : decode cX0_dropEnded 3 = .ok (.istore_n 2, 1) := by decide +kernel
theorem dX0_dropEnded_4 : decode cX0_dropEnded 4 = .ok (.iload_n 2, 1) := by decide +kernel
theorem dX0_dropEnded_5 : decode cX0_dropEnded 5 = .ok (.aload_n 0, 1) := by decide +kernel
theorem dX0_dropEnded_6 : decode cX0_dropEnded 6 = .ok (.getfield 44, 3) := by decide +kernel
theorem dX0_dropEnded_9 : decode cX0_dropEnded 9 = .ok (.if_icmp .ge 36, 3) := by decide +kernel
theorem dX0_dropEnded_12 : decode cX0_dropEnded 12 = .ok (.aload_n 0, 1) := by decide +kernel
theorem dX0_dropEnded_13 : decode cX0_dropEnded 13 = .ok (.getfield 41, 3) := by decide +kernel
theorem dX0_dropEnded_16 : decode cX0_dropEnded 16 = .ok (.iload_n 2, 1) := by decide +kernel
theorem dX0_dropEnded_17 : decode cX0_dropEnded 17 = .ok (.iaload, 1) := by decide +kernel
theorem dX0_dropEnded_18 : decode cX0_dropEnded 18 = .ok (.istore_n 3, 1) := by decide +kernel
theorem dX0_dropEnded_19 : decode cX0_dropEnded 19 = .ok (.aload_n 0, 1) := by decide +kernel
theorem dX0_dropEnded_20 : decode cX0_dropEnded 20 = .ok (.getfield 22, 3) := by decide +kernel
theorem dX0_dropEnded_23 : decode cX0_dropEnded 23 = .ok (.iload_n 3, 1) := by decide +kernel
theorem dX0_dropEnded_24 : decode cX0_dropEnded 24 = .ok (.iaload, 1) := by decide +kernel
theorem dX0_dropEnded_25 : decode cX0_dropEnded 25 = .ok (.iconst 1, 1) := by decide +kernel
theorem dX0_dropEnded_26 : decode cX0_dropEnded 26 = .ok (.if_icmp .ne 13, 3) := by decide +kernel
theorem dX0_dropEnded_29 : decode cX0_dropEnded 29 = .ok (.aload_n 0, 1) := by decide +kernel
theorem dX0_dropEnded_30 : decode cX0_dropEnded 30 = .ok (.getfield 41, 3) := by decide +kernel
theorem dX0_dropEnded_33 : decode cX0_dropEnded 33 = .ok (.iload_n 1, 1) := by decide +kernel
theorem dX0_dropEnded_34 : decode cX0_dropEnded 34 = .ok (.iload_n 3, 1) := by decide +kernel
theorem dX0_dropEnded_35 : decode cX0_dropEnded 35 = .ok (.iastore, 1) := by decide +kernel
theorem dX0_dropEnded_36 : decode cX0_dropEnded 36 = .ok (.iinc 1 1, 3) := by decide +kernel
theorem dX0_dropEnded_39 : decode cX0_dropEnded 39 = .ok (.iinc 2 1, 3) := by decide +kernel
theorem dX0_dropEnded_42 : decode cX0_dropEnded 42 = .ok (.goto (-38), 3) := by decide +kernel
theorem dX0_dropEnded_45 : decode cX0_dropEnded 45 = .ok (.aload_n 0, 1) := by decide +kernel
theorem dX0_dropEnded_46 : decode cX0_dropEnded 46 = .ok (.iload_n 1, 1) := by decide +kernel
theorem dX0_dropEnded_47 : decode cX0_dropEnded 47 = .ok (.putfield 44, 3) := by decide +kernel
theorem dX0_dropEnded_50 : decode cX0_dropEnded 50 = .ok (.return_, 1) := by decide +kernel
theorem dX0_remaining_0 : decode cX0_remaining 0 = .ok (.aload_n 0, 1) := by decide +kernel
theorem dX0_remaining_1 : decode cX0_remaining 1 = .ok (.getfield 35, 3) := by decide +kernel
theorem dX0_remaining_4 : decode cX0_remaining 4 = .ok (.iload_n 1, 1) := by decide +kernel
theorem dX0_remaining_5 : decode cX0_remaining 5 = .ok (.iaload, 1) := by decide +kernel
theorem dX0_remaining_6 : decode cX0_remaining 6 = .ok (.istore_n 2, 1) := by decide +kernel
theorem dX0_remaining_7 : decode cX0_remaining 7 = .ok (.iload_n 2, 1) := by decide +kernel
theorem dX0_remaining_8 : decode cX0_remaining 8 = .ok (.ifCond .ne 6, 3) := by decide +kernel
theorem dX0_remaining_11 : decode cX0_remaining 11 = .ok (.ldc 57, 2) := by decide +kernel
theorem dX0_remaining_13 : decode cX0_remaining 13 = .ok (.ireturn, 1) := by decide +kernel
theorem dX0_remaining_14 : decode cX0_remaining 14 = .ok (.sipush 1000, 3) := by decide +kernel
theorem dX0_remaining_17 : decode cX0_remaining 17 = .ok (.iload_n 2, 1) := by decide +kernel
theorem dX0_remaining_18 : decode cX0_remaining 18 = .ok (.isub, 1) := by decide +kernel
theorem dX0_remaining_19 : decode cX0_remaining 19 = .ok (.aload_n 0, 1) := by decide +kernel
theorem dX0_remaining_20 : decode cX0_remaining 20 = .ok (.getfield 29, 3) := by decide +kernel
theorem dX0_remaining_23 : decode cX0_remaining 23 = .ok (.iload_n 1, 1) := by decide +kernel
theorem dX0_remaining_24 : decode cX0_remaining 24 = .ok (.iaload, 1) := by decide +kernel
theorem dX0_remaining_25 : decode cX0_remaining 25 = .ok (.imul, 1) := by decide +kernel
theorem dX0_remaining_26 : decode cX0_remaining 26 = .ok (.iload_n 2, 1) := by decide +kernel
theorem dX0_remaining_27 : decode cX0_remaining 27 = .ok (.idiv, 1) := by decide +kernel
theorem dX0_remaining_28 : decode cX0_remaining 28 = .ok (.ireturn, 1) := by decide +kernel
theorem dX0_meanOfRunning_0 : decode cX0_meanOfRunning 0 = .ok (.iconst 0, 1) := by decide +kernel
theorem dX0_meanOfRunning_1 : decode cX0_meanOfRunning 1 = .ok (.istore_n 2, 1) := by decide +kernel
theorem dX0_meanOfRunning_2 : decode cX0_meanOfRunning 2 = .ok (.iconst 0, 1) := by decide +kernel
theorem dX0_meanOfRunning_3 : decode cX0_meanOfRunning 3 = .ok (.istore_n 3, 1) := by decide +kernel
theorem dX0_meanOfRunning_4 : decode cX0_meanOfRunning 4 = .ok (.iload_n 3, 1) := by decide +kernel
theorem dX0_meanOfRunning_5 : decode cX0_meanOfRunning 5 = .ok (.aload_n 0, 1) := by decide +kernel
theorem dX0_meanOfRunning_6 : decode cX0_meanOfRunning 6 = .ok (.getfield 44, 3) := by decide +kernel
theorem dX0_meanOfRunning_9 : decode cX0_meanOfRunning 9 = .ok (.if_icmp .ge 20, 3) := by decide +kernel
theorem dX0_meanOfRunning_12 : decode cX0_meanOfRunning 12 = .ok (.iload_n 2, 1) := by decide +kernel
theorem dX0_meanOfRunning_13 : decode cX0_meanOfRunning 13 = .ok (.aload_n 1, 1) := by decide +kernel
theorem dX0_meanOfRunning_14 : decode cX0_meanOfRunning 14 = .ok (.aload_n 0, 1) := by decide +kernel
theorem dX0_meanOfRunning_15 : decode cX0_meanOfRunning 15 = .ok (.getfield 41, 3) := by decide +kernel
theorem dX0_meanOfRunning_18 : decode cX0_meanOfRunning 18 = .ok (.iload_n 3, 1) := by decide +kernel
theorem dX0_meanOfRunning_19 : decode cX0_meanOfRunning 19 = .ok (.iaload, 1) := by decide +kernel
theorem dX0_meanOfRunning_20 : decode cX0_meanOfRunning 20 = .ok (.iaload, 1) := by decide +kernel
theorem dX0_meanOfRunning_21 : decode cX0_meanOfRunning 21 = .ok (.iadd, 1) := by decide +kernel
theorem dX0_meanOfRunning_22 : decode cX0_meanOfRunning 22 = .ok (.istore_n 2, 1) := by decide +kernel
theorem dX0_meanOfRunning_23 : decode cX0_meanOfRunning 23 = .ok (.iinc 3 1, 3) := by decide +kernel
theorem dX0_meanOfRunning_26 : decode cX0_meanOfRunning 26 = .ok (.goto (-22), 3) := by decide +kernel
theorem dX0_meanOfRunning_29 : decode cX0_meanOfRunning 29 = .ok (.aload_n 0, 1) := by decide +kernel
theorem dX0_meanOfRunning_30 : decode cX0_meanOfRunning 30 = .ok (.getfield 44, 3) := by decide +kernel
theorem dX0_meanOfRunning_33 : decode cX0_meanOfRunning 33 = .ok (.ifCond .le 12, 3) := by decide +kernel
theorem dX0_meanOfRunning_36 : decode cX0_meanOfRunning 36 = .ok (.iload_n 2, 1) := by decide +kernel
theorem dX0_meanOfRunning_37 : decode cX0_meanOfRunning 37 = .ok (.aload_n 0, 1) := by decide +kernel
theorem dX0_meanOfRunning_38 : decode cX0_meanOfRunning 38 = .ok (.getfield 44, 3) := by decide +kernel
theorem dX0_meanOfRunning_41 : decode cX0_meanOfRunning 41 = .ok (.idiv, 1) := by decide +kernel
theorem dX0_meanOfRunning_42 : decode cX0_meanOfRunning 42 = .ok (.goto 4, 3) := by decide +kernel
theorem dX0_meanOfRunning_45 : decode cX0_meanOfRunning 45 = .ok (.iconst 0, 1) := by decide +kernel
theorem dX0_meanOfRunning_46 : decode cX0_meanOfRunning 46 = .ok (.ireturn, 1) := by decide +kernel
theorem dX0_countSpeculative_0 : decode cX0_countSpeculative 0 = .ok (.iconst 0, 1) := by decide +kernel
theorem dX0_countSpeculative_1 : decode cX0_countSpeculative 1 = .ok (.istore_n 1, 1) := by decide +kernel
theorem dX0_countSpeculative_2 : decode cX0_countSpeculative 2 = .ok (.iconst 0, 1) := by decide +kernel
theorem dX0_countSpeculative_3 : decode cX0_countSpeculative 3 = .ok (.istore_n 2, 1) := by decide +kernel
theorem dX0_countSpeculative_4 : decode cX0_countSpeculative 4 = .ok (.iload_n 2, 1) := by decide +kernel
theorem dX0_countSpeculative_5 : decode cX0_countSpeculative 5 = .ok (.aload_n 0, 1) := by decide +kernel
theorem dX0_countSpeculative_6 : decode cX0_countSpeculative 6 = .ok (.getfield 44, 3) := by decide +kernel
theorem dX0_countSpeculative_9 : decode cX0_countSpeculative 9 = .ok (.if_icmp .ge 26, 3) := by decide +kernel
theorem dX0_countSpeculative_12 : decode cX0_countSpeculative 12 = .ok (.aload_n 0, 1) := by decide +kernel
theorem dX0_countSpeculative_13 : decode cX0_countSpeculative 13 = .ok (.getfield 25, 3) := by decide +kernel
theorem dX0_countSpeculative_16 : decode cX0_countSpeculative 16 = .ok (.aload_n 0, 1) := by decide +kernel
theorem dX0_countSpeculative_17 : decode cX0_countSpeculative 17 = .ok (.getfield 41, 3) := by decide +kernel
theorem dX0_countSpeculative_20 : decode cX0_countSpeculative 20 = .ok (.iload_n 2, 1) := by decide +kernel
theorem dX0_countSpeculative_21 : decode cX0_countSpeculative 21 = .ok (.iaload, 1) := by decide +kernel
theorem dX0_countSpeculative_22 : decode cX0_countSpeculative 22 = .ok (.baload, 1) := by decide +kernel
theorem dX0_countSpeculative_23 : decode cX0_countSpeculative 23 = .ok (.ifCond .eq 6, 3) := by decide +kernel
theorem dX0_countSpeculative_26 : decode cX0_countSpeculative 26 = .ok (.iinc 1 1, 3) := by decide +kernel
theorem dX0_countSpeculative_29 : decode cX0_countSpeculative 29 = .ok (.iinc 2 1, 3) := by decide +kernel
theorem dX0_countSpeculative_32 : decode cX0_countSpeculative 32 = .ok (.goto (-28), 3) := by decide +kernel
theorem dX0_countSpeculative_35 : decode cX0_countSpeculative 35 = .ok (.iload_n 1, 1) := by decide +kernel
theorem dX0_countSpeculative_36 : decode cX0_countSpeculative 36 = .ok (.ireturn, 1) := by decide +kernel
theorem dX0_wasted_0 : decode cX0_wasted 0 = .ok (.iconst 0, 1) := by decide +kernel
theorem dX0_wasted_1 : decode cX0_wasted 1 = .ok (.istore_n 1, 1) := by decide +kernel
theorem dX0_wasted_2 : decode cX0_wasted 2 = .ok (.iconst 0, 1) := by decide +kernel
theorem dX0_wasted_3 : decode cX0_wasted 3 = .ok (.istore_n 2, 1) := by decide +kernel
theorem dX0_wasted_4 : decode cX0_wasted 4 = .ok (.iload_n 2, 1) := by decide +kernel
theorem dX0_wasted_5 : decode cX0_wasted 5 = .ok (.aload_n 0, 1) := by decide +kernel
theorem dX0_wasted_6 : decode cX0_wasted 6 = .ok (.getfield 9, 3) := by decide +kernel
theorem dX0_wasted_9 : decode cX0_wasted 9 = .ok (.if_icmp .ge 38, 3) := by decide +kernel
theorem dX0_wasted_12 : decode cX0_wasted 12 = .ok (.aload_n 0, 1) := by decide +kernel
theorem dX0_wasted_13 : decode cX0_wasted 13 = .ok (.getfield 22, 3) := by decide +kernel
theorem dX0_wasted_16 : decode cX0_wasted 16 = .ok (.iload_n 2, 1) := by decide +kernel
theorem dX0_wasted_17 : decode cX0_wasted 17 = .ok (.iaload, 1) := by decide +kernel
theorem dX0_wasted_18 : decode cX0_wasted 18 = .ok (.iconst 3, 1) := by decide +kernel
theorem dX0_wasted_19 : decode cX0_wasted 19 = .ok (.if_icmp .eq 13, 3) := by decide +kernel
theorem dX0_wasted_22 : decode cX0_wasted 22 = .ok (.aload_n 0, 1) := by decide +kernel
theorem dX0_wasted_23 : decode cX0_wasted 23 = .ok (.getfield 22, 3) := by decide +kernel
theorem dX0_wasted_26 : decode cX0_wasted 26 = .ok (.iload_n 2, 1) := by decide +kernel
theorem dX0_wasted_27 : decode cX0_wasted 27 = .ok (.iaload, 1) := by decide +kernel
theorem dX0_wasted_28 : decode cX0_wasted 28 = .ok (.iconst 4, 1) := by decide +kernel
theorem dX0_wasted_29 : decode cX0_wasted 29 = .ok (.if_icmp .ne 12, 3) := by decide +kernel
theorem dX0_wasted_32 : decode cX0_wasted 32 = .ok (.iload_n 1, 1) := by decide +kernel
theorem dX0_wasted_33 : decode cX0_wasted 33 = .ok (.aload_n 0, 1) := by decide +kernel
theorem dX0_wasted_34 : decode cX0_wasted 34 = .ok (.getfield 32, 3) := by decide +kernel
theorem dX0_wasted_37 : decode cX0_wasted 37 = .ok (.iload_n 2, 1) := by decide +kernel
theorem dX0_wasted_38 : decode cX0_wasted 38 = .ok (.iaload, 1) := by decide +kernel
theorem dX0_wasted_39 : decode cX0_wasted 39 = .ok (.iadd, 1) := by decide +kernel
theorem dX0_wasted_40 : decode cX0_wasted 40 = .ok (.istore_n 1, 1) := by decide +kernel
theorem dX0_wasted_41 : decode cX0_wasted 41 = .ok (.iinc 2 1, 3) := by decide +kernel
theorem dX0_wasted_44 : decode cX0_wasted 44 = .ok (.goto (-40), 3) := by decide +kernel
theorem dX0_wasted_47 : decode cX0_wasted 47 = .ok (.iload_n 1, 1) := by decide +kernel
theorem dX0_wasted_48 : decode cX0_wasted 48 = .ok (.ireturn, 1) := by decide +kernel
theorem dX1_init_0 : decode cX1_init 0 = .ok (.aload_n 0, 1) := by decide +kernel
theorem dX1_init_1 : decode cX1_init 1 = .ok (.invokespecial 3, 3) := by decide +kernel
theorem dX1_init_4 : decode cX1_init 4 = .ok (.aload_n 0, 1) := by decide +kernel
theorem dX1_init_5 : decode cX1_init 5 = .ok (.new 9, 3) := by decide +kernel
theorem dX1_init_8 : decode cX1_init 8 = .ok (.dup, 1) := by decide +kernel
theorem dX1_init_9 : decode cX1_init 9 = .ok (.invokespecial 11, 3) := by decide +kernel
theorem dX1_init_12 : decode cX1_init 12 = .ok (.putfield 12, 3) := by decide +kernel
theorem dX1_init_15 : decode cX1_init 15 = .ok (.aload_n 0, 1) := by decide +kernel
theorem dX1_init_16 : decode cX1_init 16 = .ok (.new 18, 3) := by decide +kernel
theorem dX1_init_19 : decode cX1_init 19 = .ok (.dup, 1) := by decide +kernel
theorem dX1_init_20 : decode cX1_init 20 = .ok (.invokespecial 20, 3) := by decide +kernel
theorem dX1_init_23 : decode cX1_init 23 = .ok (.putfield 21, 3) := by decide +kernel
theorem dX1_init_26 : decode cX1_init 26 = .ok (.aload_n 0, 1) := by decide +kernel
theorem dX1_init_27 : decode cX1_init 27 = .ok (.new 25, 3) := by decide +kernel
theorem dX1_init_30 : decode cX1_init 30 = .ok (.dup, 1) := by decide +kernel
theorem dX1_init_31 : decode cX1_init 31 = .ok (.invokespecial 27, 3) := by decide +kernel
theorem dX1_init_34 : decode cX1_init 34 = .ok (.putfield 28, 3) := by decide +kernel
theorem dX1_init_37 : decode cX1_init 37 = .ok (.aload_n 0, 1) := by decide +kernel
theorem dX1_init_38 : decode cX1_init 38 = .ok (.new 32, 3) := by decide +kernel
theorem dX1_init_41 : decode cX1_init 41 = .ok (.dup, 1) := by decide +kernel
theorem dX1_init_42 : decode cX1_init 42 = .ok (.invokespecial 34, 3) := by decide +kernel
theorem dX1_init_45 : decode cX1_init 45 = .ok (.putfield 35, 3) := by decide +kernel
theorem dX1_init_48 : decode cX1_init 48 = .ok (.aload_n 0, 1) := by decide +kernel
theorem dX1_init_49 : decode cX1_init 49 = .ok (.iconst 0, 1) := by decide +kernel
theorem dX1_init_50 : decode cX1_init 50 = .ok (.putfield 39, 3) := by decide +kernel
theorem dX1_init_53 : decode cX1_init 53 = .ok (.return_, 1) := by decide +kernel
theorem dX1_startAfresh_0 : decode cX1_startAfresh 0 = .ok (.aload_n 0, 1) := by decide +kernel
theorem dX1_startAfresh_1 : decode cX1_startAfresh 1 = .ok (.getfield 12, 3) := by decide +kernel
theorem dX1_startAfresh_4 : decode cX1_startAfresh 4 = .ok (.aload_n 1, 1) := by decide +kernel
theorem dX1_startAfresh_5 : decode cX1_startAfresh 5 = .ok (.getfield 12, 3) := by decide +kernel
theorem dX1_startAfresh_8 : decode cX1_startAfresh 8 = .ok (.iload_n 2, 1) := by decide +kernel
theorem dX1_startAfresh_9 : decode cX1_startAfresh 9 = .ok (.invokevirtual 43, 3) := by decide +kernel
theorem dX1_startAfresh_12 : decode cX1_startAfresh 12 = .ok (.aload_n 0, 1) := by decide +kernel
theorem dX1_startAfresh_13 : decode cX1_startAfresh 13 = .ok (.getfield 21, 3) := by decide +kernel
theorem dX1_startAfresh_16 : decode cX1_startAfresh 16 = .ok (.aload_n 1, 1) := by decide +kernel
theorem dX1_startAfresh_17 : decode cX1_startAfresh 17 = .ok (.getfield 21, 3) := by decide +kernel
theorem dX1_startAfresh_20 : decode cX1_startAfresh 20 = .ok (.invokevirtual 47, 3) := by decide +kernel
theorem dX1_startAfresh_23 : decode cX1_startAfresh 23 = .ok (.aload_n 0, 1) := by decide +kernel
theorem dX1_startAfresh_24 : decode cX1_startAfresh 24 = .ok (.getfield 28, 3) := by decide +kernel
theorem dX1_startAfresh_27 : decode cX1_startAfresh 27 = .ok (.aload_n 1, 1) := by decide +kernel
theorem dX1_startAfresh_28 : decode cX1_startAfresh 28 = .ok (.getfield 28, 3) := by decide +kernel
theorem dX1_startAfresh_31 : decode cX1_startAfresh 31 = .ok (.invokevirtual 51, 3) := by decide +kernel
theorem dX1_startAfresh_34 : decode cX1_startAfresh 34 = .ok (.aload_n 0, 1) := by decide +kernel
theorem dX1_startAfresh_35 : decode cX1_startAfresh 35 = .ok (.getfield 35, 3) := by decide +kernel
theorem dX1_startAfresh_38 : decode cX1_startAfresh 38 = .ok (.invokevirtual 54, 3) := by decide +kernel
theorem dX1_startAfresh_41 : decode cX1_startAfresh 41 = .ok (.aload_n 0, 1) := by decide +kernel
theorem dX1_startAfresh_42 : decode cX1_startAfresh 42 = .ok (.iconst 0, 1) := by decide +kernel
theorem dX1_startAfresh_43 : decode cX1_startAfresh 43 = .ok (.putfield 39, 3) := by decide +kernel
theorem dX1_startAfresh_46 : decode cX1_startAfresh 46 = .ok (.return_, 1) := by decide +kernel
theorem dX1_runOneTick_0 : decode cX1_runOneTick 0 = .ok (.aload_n 0, 1) := by decide +kernel
theorem dX1_runOneTick_1 : decode cX1_runOneTick 1 = .ok (.invokevirtual 57, 3) := by decide +kernel
theorem dX1_runOneTick_4 : decode cX1_runOneTick 4 = .ok (.aload_n 0, 1) := by decide +kernel
theorem dX1_runOneTick_5 : decode cX1_runOneTick 5 = .ok (.invokevirtual 60, 3) := by decide +kernel
theorem dX1_runOneTick_8 : decode cX1_runOneTick 8 = .ok (.aload_n 0, 1) := by decide +kernel
theorem dX1_runOneTick_9 : decode cX1_runOneTick 9 = .ok (.invokevirtual 63, 3) := by decide +kernel
theorem dX1_runOneTick_12 : decode cX1_runOneTick 12 = .ok (.istore_n 1, 1) := by decide +kernel
theorem dX1_runOneTick_13 : decode cX1_runOneTick 13 = .ok (.aload_n 0, 1) := by decide +kernel
theorem dX1_runOneTick_14 : decode cX1_runOneTick 14 = .ok (.dup, 1) := by decide +kernel
theorem dX1_runOneTick_15 : decode cX1_runOneTick 15 = .ok (.getfield 39, 3) := by decide +kernel
theorem dX1_runOneTick_18 : decode cX1_runOneTick 18 = .ok (.iconst 1, 1) := by decide +kernel
theorem dX1_runOneTick_19 : decode cX1_runOneTick 19 = .ok (.iadd, 1) := by decide +kernel
theorem dX1_runOneTick_20 : decode cX1_runOneTick 20 = .ok (.putfield 39, 3) := by decide +kernel
theorem dX1_runOneTick_23 : decode cX1_runOneTick 23 = .ok (.iload_n 1, 1) := by decide +kernel
theorem dX1_runOneTick_24 : decode cX1_runOneTick 24 = .ok (.ireturn, 1) := by decide +kernel
theorem dX1_startAttempts_0 : decode cX1_startAttempts 0 = .ok (.iconst 0, 1) := by decide +kernel
theorem dX1_startAttempts_1 : decode cX1_startAttempts 1 = .ok (.istore_n 1, 1) := by decide +kernel
theorem dX1_startAttempts_2 : decode cX1_startAttempts 2 = .ok (.iload_n 1, 1) := by decide +kernel
theorem dX1_startAttempts_3 : decode cX1_startAttempts 3 = .ok (.aload_n 0, 1) := by decide +kernel
theorem dX1_startAttempts_4 : decode cX1_startAttempts 4 = .ok (.getfield 21, 3) := by decide +kernel
theorem dX1_startAttempts_7 : decode cX1_startAttempts 7 = .ok (.getfield 67, 3) := by decide +kernel
theorem dX1_startAttempts_10 : decode cX1_startAttempts 10 = .ok (.if_icmp .ge 81, 3) := by decide +kernel
theorem dX1_startAttempts_13 : decode cX1_startAttempts 13 = .ok (.iconst 0, 1) := by decide +kernel
theorem dX1_startAttempts_14 : decode cX1_startAttempts 14 = .ok (.istore_n 2, 1) := by decide +kernel
theorem dX1_startAttempts_15 : decode cX1_startAttempts 15 = .ok (.iload_n 2, 1) := by decide +kernel
theorem dX1_startAttempts_16 : decode cX1_startAttempts 16 = .ok (.iconst 4, 1) := by decide +kernel
theorem dX1_startAttempts_17 : decode cX1_startAttempts 17 = .ok (.if_icmp .ge 68, 3) := by decide +kernel
theorem dX1_startAttempts_20 : decode cX1_startAttempts 20 = .ok (.aload_n 0, 1) := by decide +kernel
theorem dX1_startAttempts_21 : decode cX1_startAttempts 21 = .ok (.getfield 21, 3) := by decide +kernel
theorem dX1_startAttempts_24 : decode cX1_startAttempts 24 = .ok (.iload_n 1, 1) := by decide +kernel
theorem dX1_startAttempts_25 : decode cX1_startAttempts 25 = .ok (.invokevirtual 70, 3) := by decide +kernel
theorem dX1_startAttempts_28 : decode cX1_startAttempts 28 = .ok (.ifCond .eq 57, 3) := by decide +kernel
theorem dX1_startAttempts_31 : decode cX1_startAttempts 31 = .ok (.aload_n 0, 1) := by decide +kernel
theorem dX1_startAttempts_32 : decode cX1_startAttempts 32 = .ok (.getfield 35, 3) := by decide +kernel
theorem dX1_startAttempts_35 : decode cX1_startAttempts 35 = .ok (.invokevirtual 74, 3) := by decide +kernel
theorem dX1_startAttempts_38 : decode cX1_startAttempts 38 = .ok (.ifCond .eq 6, 3) := by decide +kernel
theorem dX1_startAttempts_41 : decode cX1_startAttempts 41 = .ok (.goto 44, 3) := by decide +kernel
theorem dX1_startAttempts_44 : decode cX1_startAttempts 44 = .ok (.aload_n 0, 1) := by decide +kernel
theorem dX1_startAttempts_45 : decode cX1_startAttempts 45 = .ok (.getfield 28, 3) := by decide +kernel
theorem dX1_startAttempts_48 : decode cX1_startAttempts 48 = .ok (.invokevirtual 78, 3) := by decide +kernel
theorem dX1_startAttempts_51 : decode cX1_startAttempts 51 = .ok (.istore_n 3, 1) := by decide +kernel
theorem dX1_startAttempts_52 : decode cX1_startAttempts 52 = .ok (.iload_n 3, 1) := by decide +kernel
theorem dX1_startAttempts_53 : decode cX1_startAttempts 53 = .ok (.bipush (-6), 2) := by decide +kernel
theorem dX1_startAttempts_55 : decode cX1_startAttempts 55 = .ok (.if_icmp .ne 9, 3) := by decide +kernel
theorem dX1_startAttempts_58 : decode cX1_startAttempts 58 = .ok (.aload_n 0, 1) := by decide +kernel
theorem dX1_startAttempts_59 : decode cX1_startAttempts 59 = .ok (.iload_n 1, 1) := by decide +kernel
theorem dX1_startAttempts_60 : decode cX1_startAttempts 60 = .ok (.invokevirtual 81, 3) := by decide +kernel
theorem dX1_startAttempts_63 : decode cX1_startAttempts 63 = .ok (.istore_n 3, 1) := by decide +kernel
theorem dX1_startAttempts_64 : decode cX1_startAttempts 64 = .ok (.iload_n 3, 1) := by decide +kernel
theorem dX1_startAttempts_65 : decode cX1_startAttempts 65 = .ok (.bipush (-6), 2) := by decide +kernel
theorem dX1_startAttempts_67 : decode cX1_startAttempts 67 = .ok (.if_icmp .ne 6, 3) := by decide +kernel
theorem dX1_startAttempts_70 : decode cX1_startAttempts 70 = .ok (.goto 15, 3) := by decide +kernel
theorem dX1_startAttempts_73 : decode cX1_startAttempts 73 = .ok (.aload_n 0, 1) := by decide +kernel
theorem dX1_startAttempts_74 : decode cX1_startAttempts 74 = .ok (.iload_n 3, 1) := by decide +kernel
theorem dX1_startAttempts_75 : decode cX1_startAttempts 75 = .ok (.iload_n 1, 1) := by decide +kernel
theorem dX1_startAttempts_76 : decode cX1_startAttempts 76 = .ok (.invokevirtual 85, 3) := by decide +kernel
theorem dX1_startAttempts_79 : decode cX1_startAttempts 79 = .ok (.iinc 2 1, 3) := by decide +kernel
theorem dX1_startAttempts_82 : decode cX1_startAttempts 82 = .ok (.goto (-67), 3) := by decide +kernel
theorem dX1_startAttempts_85 : decode cX1_startAttempts 85 = .ok (.iinc 1 1, 3) := by decide +kernel
theorem dX1_startAttempts_88 : decode cX1_startAttempts 88 = .ok (.goto (-86), 3) := by decide +kernel
theorem dX1_startAttempts_91 : decode cX1_startAttempts 91 = .ok (.return_, 1) := by decide +kernel
theorem dX1_taskToSpeculate_0 : decode cX1_taskToSpeculate 0 = .ok (.aload_n 0, 1) := by decide +kernel
theorem dX1_taskToSpeculate_1 : decode cX1_taskToSpeculate 1 = .ok (.getfield 35, 3) := by decide +kernel
theorem dX1_taskToSpeculate_4 : decode cX1_taskToSpeculate 4 = .ok (.invokevirtual 89, 3) := by decide +kernel
theorem dX1_taskToSpeculate_7 : decode cX1_taskToSpeculate 7 = .ok (.aload_n 0, 1) := by decide +kernel
theorem dX1_taskToSpeculate_8 : decode cX1_taskToSpeculate 8 = .ok (.getfield 12, 3) := by decide +kernel
theorem dX1_taskToSpeculate_11 : decode cX1_taskToSpeculate 11 = .ok (.getfield 92, 3) := by decide +kernel
theorem dX1_taskToSpeculate_14 : decode cX1_taskToSpeculate 14 = .ok (.if_icmp .lt 6, 3) := by decide +kernel
theorem dX1_taskToSpeculate_17 : decode cX1_taskToSpeculate 17 = .ok (.bipush (-6), 2) := by decide +kernel
theorem dX1_taskToSpeculate_19 : decode cX1_taskToSpeculate 19 = .ok (.ireturn, 1) := by decide +kernel
theorem dX1_taskToSpeculate_20 : decode cX1_taskToSpeculate 20 = .ok (.aload_n 0, 1) := by decide +kernel
theorem dX1_taskToSpeculate_21 : decode cX1_taskToSpeculate 21 = .ok (.getfield 12, 3) := by decide +kernel
theorem dX1_taskToSpeculate_24 : decode cX1_taskToSpeculate 24 = .ok (.getfield 95, 3) := by decide +kernel
theorem dX1_taskToSpeculate_27 : decode cX1_taskToSpeculate 27 = .ok (.iconst 2, 1) := by decide +kernel
theorem dX1_taskToSpeculate_28 : decode cX1_taskToSpeculate 28 = .ok (.if_icmp .ne 24, 3) := by decide +kernel
theorem dX1_taskToSpeculate_31 : decode cX1_taskToSpeculate 31 = .ok (.aload_n 0, 1) := by decide +kernel
theorem dX1_taskToSpeculate_32 : decode cX1_taskToSpeculate 32 = .ok (.getfield 21, 3) := by decide +kernel
theorem dX1_taskToSpeculate_35 : decode cX1_taskToSpeculate 35 = .ok (.iload_n 1, 1) := by decide +kernel
theorem dX1_taskToSpeculate_36 : decode cX1_taskToSpeculate 36 = .ok (.aload_n 0, 1) := by decide +kernel
theorem dX1_taskToSpeculate_37 : decode cX1_taskToSpeculate 37 = .ok (.getfield 12, 3) := by decide +kernel
theorem dX1_taskToSpeculate_40 : decode cX1_taskToSpeculate 40 = .ok (.getfield 98, 3) := by decide +kernel
theorem dX1_taskToSpeculate_43 : decode cX1_taskToSpeculate 43 = .ok (.invokevirtual 101, 3) := by decide +kernel
theorem dX1_taskToSpeculate_46 : decode cX1_taskToSpeculate 46 = .ok (.ifCond .eq 6, 3) := by decide +kernel
theorem dX1_taskToSpeculate_49 : decode cX1_taskToSpeculate 49 = .ok (.bipush (-6), 2) := by decide +kernel
theorem dX1_taskToSpeculate_51 : decode cX1_taskToSpeculate 51 = .ok (.ireturn, 1) := by decide +kernel
theorem dX1_taskToSpeculate_52 : decode cX1_taskToSpeculate 52 = .ok (.aload_n 0, 1) := by decide +kernel
theorem dX1_taskToSpeculate_53 : decode cX1_taskToSpeculate 53 = .ok (.invokevirtual 105, 3) := by decide +kernel
theorem dX1_taskToSpeculate_56 : decode cX1_taskToSpeculate 56 = .ok (.istore_n 2, 1) := by decide +kernel
theorem dX1_taskToSpeculate_57 : decode cX1_taskToSpeculate 57 = .ok (.iload_n 2, 1) := by decide +kernel
theorem dX1_taskToSpeculate_58 : decode cX1_taskToSpeculate 58 = .ok (.bipush (-6), 2) := by decide +kernel
theorem dX1_taskToSpeculate_60 : decode cX1_taskToSpeculate 60 = .ok (.if_icmp .eq 16, 3) := by decide +kernel
theorem dX1_taskToSpeculate_63 : decode cX1_taskToSpeculate 63 = .ok (.aload_n 0, 1) := by decide +kernel
theorem dX1_taskToSpeculate_64 : decode cX1_taskToSpeculate 64 = .ok (.getfield 35, 3) := by decide +kernel
theorem dX1_taskToSpeculate_67 : decode cX1_taskToSpeculate 67 = .ok (.getfield 108, 3) := by decide +kernel
theorem dX1_taskToSpeculate_70 : decode cX1_taskToSpeculate 70 = .ok (.iload_n 2, 1) := by decide +kernel
theorem dX1_taskToSpeculate_71 : decode cX1_taskToSpeculate 71 = .ok (.iaload, 1) := by decide +kernel
theorem dX1_taskToSpeculate_72 : decode cX1_taskToSpeculate 72 = .ok (.iload_n 1, 1) := by decide +kernel
theorem dX1_taskToSpeculate_73 : decode cX1_taskToSpeculate 73 = .ok (.if_icmp .ne 6, 3) := by decide +kernel
theorem dX1_taskToSpeculate_76 : decode cX1_taskToSpeculate 76 = .ok (.bipush (-6), 2) := by decide +kernel
theorem dX1_taskToSpeculate_78 : decode cX1_taskToSpeculate 78 = .ok (.ireturn, 1) := by decide +kernel
theorem dX1_taskToSpeculate_79 : decode cX1_taskToSpeculate 79 = .ok (.aload_n 0, 1) := by decide +kernel
theorem dX1_taskToSpeculate_80 : decode cX1_taskToSpeculate 80 = .ok (.getfield 35, 3) := by decide +kernel
theorem dX1_taskToSpeculate_83 : decode cX1_taskToSpeculate 83 = .ok (.getfield 112, 3) := by decide +kernel
theorem dX1_taskToSpeculate_86 : decode cX1_taskToSpeculate 86 = .ok (.iload_n 2, 1) := by decide +kernel
theorem dX1_taskToSpeculate_87 : decode cX1_taskToSpeculate 87 = .ok (.iaload, 1) := by decide +kernel
theorem dX1_taskToSpeculate_88 : decode cX1_taskToSpeculate 88 = .ok (.ireturn, 1) := by decide +kernel
theorem dX1_start_0 : decode cX1_start 0 = .ok (.aload_n 0, 1) := by decide +kernel
theorem dX1_start_1 : decode cX1_start 1 = .ok (.getfield 35, 3) := by decide +kernel
theorem dX1_start_4 : decode cX1_start 4 = .ok (.iload_n 1, 1) := by decide +kernel
theorem dX1_start_5 : decode cX1_start 5 = .ok (.iload_n 2, 1) := by decide +kernel
theorem dX1_start_6 : decode cX1_start 6 = .ok (.aload_n 0, 1) := by decide +kernel
theorem dX1_start_7 : decode cX1_start 7 = .ok (.getfield 28, 3) := by decide +kernel
theorem dX1_start_10 : decode cX1_start 10 = .ok (.getfield 115, 3) := by decide +kernel
theorem dX1_start_13 : decode cX1_start 13 = .ok (.iload_n 1, 1) := by decide +kernel
theorem dX1_start_14 : decode cX1_start 14 = .ok (.iaload, 1) := by decide +kernel
theorem dX1_start_15 : decode cX1_start 15 = .ok (.ifCond .le 7, 3) := by decide +kernel
theorem dX1_start_18 : decode cX1_start 18 = .ok (.iconst 1, 1) := by decide +kernel
theorem dX1_start_19 : decode cX1_start 19 = .ok (.goto 4, 3) := by decide +kernel
theorem dX1_start_22 : decode cX1_start 22 = .ok (.iconst 0, 1) := by decide +kernel
theorem dX1_start_23 : decode cX1_start 23 = .ok (.invokevirtual 118, 3) := by decide +kernel
theorem dX1_start_26 : decode cX1_start 26 = .ok (.aload_n 0, 1) := by decide +kernel
theorem dX1_start_27 : decode cX1_start 27 = .ok (.getfield 28, 3) := by decide +kernel
theorem dX1_start_30 : decode cX1_start 30 = .ok (.getfield 115, 3) := by decide +kernel
theorem dX1_start_33 : decode cX1_start 33 = .ok (.iload_n 1, 1) := by decide +kernel
theorem dX1_start_34 : decode cX1_start 34 = .ok (.dup2, 1) := by decide +kernel
theorem dX1_start_35 : decode cX1_start 35 = .ok (.iaload, 1) := by decide +kernel
theorem dX1_start_36 : decode cX1_start 36 = .ok (.iconst 1, 1) := by decide +kernel
theorem dX1_start_37 : decode cX1_start 37 = .ok (.iadd, 1) := by decide +kernel
theorem dX1_start_38 : decode cX1_start 38 = .ok (.iastore, 1) := by decide +kernel
theorem dX1_start_39 : decode cX1_start 39 = .ok (.aload_n 0, 1) := by decide +kernel
theorem dX1_start_40 : decode cX1_start 40 = .ok (.getfield 21, 3) := by decide +kernel
theorem dX1_start_43 : decode cX1_start 43 = .ok (.getfield 122, 3) := by decide +kernel
theorem dX1_start_46 : decode cX1_start 46 = .ok (.iload_n 2, 1) := by decide +kernel
theorem dX1_start_47 : decode cX1_start 47 = .ok (.dup2, 1) := by decide +kernel
theorem dX1_start_48 : decode cX1_start 48 = .ok (.iaload, 1) := by decide +kernel
theorem dX1_start_49 : decode cX1_start 49 = .ok (.iconst 1, 1) := by decide +kernel
theorem dX1_start_50 : decode cX1_start 50 = .ok (.iadd, 1) := by decide +kernel
theorem dX1_start_51 : decode cX1_start 51 = .ok (.iastore, 1) := by decide +kernel
theorem dX1_start_52 : decode cX1_start 52 = .ok (.return_, 1) := by decide +kernel
theorem dX1_doWork_0 : decode cX1_doWork 0 = .ok (.iconst 0, 1) := by decide +kernel
theorem dX1_doWork_1 : decode cX1_doWork 1 = .ok (.istore_n 1, 1) := by decide +kernel
theorem dX1_doWork_2 : decode cX1_doWork 2 = .ok (.iload_n 1, 1) := by decide +kernel
theorem dX1_doWork_3 : decode cX1_doWork 3 = .ok (.aload_n 0, 1) := by decide +kernel
theorem dX1_doWork_4 : decode cX1_doWork 4 = .ok (.getfield 35, 3) := by decide +kernel
theorem dX1_doWork_7 : decode cX1_doWork 7 = .ok (.getfield 125, 3) := by decide +kernel
theorem dX1_doWork_10 : decode cX1_doWork 10 = .ok (.if_icmp .ge 97, 3) := by decide +kernel
theorem dX1_doWork_13 : decode cX1_doWork 13 = .ok (.aload_n 0, 1) := by decide +kernel
theorem dX1_doWork_14 : decode cX1_doWork 14 = .ok (.getfield 35, 3) := by decide +kernel
theorem dX1_doWork_17 : decode cX1_doWork 17 = .ok (.getfield 128, 3) := by decide +kernel
theorem dX1_doWork_20 : decode cX1_doWork 20 = .ok (.iload_n 1, 1) := by decide +kernel
theorem dX1_doWork_21 : decode cX1_doWork 21 = .ok (.iaload, 1) := by decide +kernel
theorem dX1_doWork_22 : decode cX1_doWork 22 = .ok (.istore_n 2, 1) := by decide +kernel
theorem dX1_doWork_23 : decode cX1_doWork 23 = .ok (.aload_n 0, 1) := by decide +kernel
theorem dX1_doWork_24 : decode cX1_doWork 24 = .ok (.getfield 35, 3) := by decide +kernel
theorem dX1_doWork_27 : decode cX1_doWork 27 = .ok (.getfield 108, 3) := by decide +kernel
theorem dX1_doWork_30 : decode cX1_doWork 30 = .ok (.iload_n 2, 1) := by decide +kernel
theorem dX1_doWork_31 : decode cX1_doWork 31 = .ok (.iaload, 1) := by decide +kernel
theorem dX1_doWork_32 : decode cX1_doWork 32 = .ok (.istore_n 3, 1) := by decide +kernel
theorem dX1_doWork_33 : decode cX1_doWork 33 = .ok (.aload_n 0, 1) := by decide +kernel
theorem dX1_doWork_34 : decode cX1_doWork 34 = .ok (.getfield 35, 3) := by decide +kernel
theorem dX1_doWork_37 : decode cX1_doWork 37 = .ok (.iload_n 2, 1) := by decide +kernel
theorem dX1_doWork_38 : decode cX1_doWork 38 = .ok (.aload_n 0, 1) := by decide +kernel
theorem dX1_doWork_39 : decode cX1_doWork 39 = .ok (.getfield 21, 3) := by decide +kernel
theorem dX1_doWork_42 : decode cX1_doWork 42 = .ok (.getfield 131, 3) := by decide +kernel
theorem dX1_doWork_45 : decode cX1_doWork 45 = .ok (.iload_n 3, 1) := by decide +kernel
theorem dX1_doWork_46 : decode cX1_doWork 46 = .ok (.iaload, 1) := by decide +kernel
theorem dX1_doWork_47 : decode cX1_doWork 47 = .ok (.aload_n 0, 1) := by decide +kernel
theorem dX1_doWork_48 : decode cX1_doWork 48 = .ok (.getfield 28, 3) := by decide +kernel
theorem dX1_doWork_51 : decode cX1_doWork 51 = .ok (.getfield 134, 3) := by decide +kernel
theorem dX1_doWork_54 : decode cX1_doWork 54 = .ok (.aload_n 0, 1) := by decide +kernel
theorem dX1_doWork_55 : decode cX1_doWork 55 = .ok (.getfield 35, 3) := by decide +kernel
theorem dX1_doWork_58 : decode cX1_doWork 58 = .ok (.getfield 112, 3) := by decide +kernel
theorem dX1_doWork_61 : decode cX1_doWork 61 = .ok (.iload_n 2, 1) := by decide +kernel
theorem dX1_doWork_62 : decode cX1_doWork 62 = .ok (.iaload, 1) := by decide +kernel
theorem dX1_doWork_63 : decode cX1_doWork 63 = .ok (.iaload, 1) := by decide +kernel
theorem dX1_doWork_64 : decode cX1_doWork 64 = .ok (.invokevirtual 137, 3) := by decide +kernel
theorem dX1_doWork_67 : decode cX1_doWork 67 = .ok (.aload_n 0, 1) := by decide +kernel
theorem dX1_doWork_68 : decode cX1_doWork 68 = .ok (.getfield 21, 3) := by decide +kernel
theorem dX1_doWork_71 : decode cX1_doWork 71 = .ok (.getfield 141, 3) := by decide +kernel
theorem dX1_doWork_74 : decode cX1_doWork 74 = .ok (.iload_n 3, 1) := by decide +kernel
theorem dX1_doWork_75 : decode cX1_doWork 75 = .ok (.dup2, 1) := by decide +kernel
theorem dX1_doWork_76 : decode cX1_doWork 76 = .ok (.iaload, 1) := by decide +kernel
theorem dX1_doWork_77 : decode cX1_doWork 77 = .ok (.iconst 1, 1) := by decide +kernel
theorem dX1_doWork_78 : decode cX1_doWork 78 = .ok (.iadd, 1) := by decide +kernel
theorem dX1_doWork_79 : decode cX1_doWork 79 = .ok (.iastore, 1) := by decide +kernel
theorem dX1_doWork_80 : decode cX1_doWork 80 = .ok (.aload_n 0, 1) := by decide +kernel
theorem dX1_doWork_81 : decode cX1_doWork 81 = .ok (.getfield 21, 3) := by decide +kernel
theorem dX1_doWork_84 : decode cX1_doWork 84 = .ok (.getfield 144, 3) := by decide +kernel
theorem dX1_doWork_87 : decode cX1_doWork 87 = .ok (.iload_n 3, 1) := by decide +kernel
theorem dX1_doWork_88 : decode cX1_doWork 88 = .ok (.dup2, 1) := by decide +kernel
theorem dX1_doWork_89 : decode cX1_doWork 89 = .ok (.iaload, 1) := by decide +kernel
theorem dX1_doWork_90 : decode cX1_doWork 90 = .ok (.aload_n 0, 1) := by decide +kernel
theorem dX1_doWork_91 : decode cX1_doWork 91 = .ok (.getfield 21, 3) := by decide +kernel
theorem dX1_doWork_94 : decode cX1_doWork 94 = .ok (.getfield 131, 3) := by decide +kernel
theorem dX1_doWork_97 : decode cX1_doWork 97 = .ok (.iload_n 3, 1) := by decide +kernel
theorem dX1_doWork_98 : decode cX1_doWork 98 = .ok (.iaload, 1) := by decide +kernel
theorem dX1_doWork_99 : decode cX1_doWork 99 = .ok (.iadd, 1) := by decide +kernel
theorem dX1_doWork_100 : decode cX1_doWork 100 = .ok (.iastore, 1) := by decide +kernel
theorem dX1_doWork_101 : decode cX1_doWork 101 = .ok (.iinc 1 1, 3) := by decide +kernel
theorem dX1_doWork_104 : decode cX1_doWork 104 = .ok (.goto (-102), 3) := by decide +kernel
theorem dX1_doWork_107 : decode cX1_doWork 107 = .ok (.return_, 1) := by decide +kernel
theorem dX1_commitFinished_0 : decode cX1_commitFinished 0 = .ok (.iconst 0, 1) := by decide +kernel
theorem dX1_commitFinished_1 : decode cX1_commitFinished 1 = .ok (.istore_n 1, 1) := by decide +kernel
theorem dX1_commitFinished_2 : decode cX1_commitFinished 2 = .ok (.iconst 0, 1) := by decide +kernel
theorem dX1_commitFinished_3 : decode cX1_commitFinished 3 = .ok (.istore_n 2, 1) := by decide +kernel
theorem dX1_commitFinished_4 : decode cX1_commitFinished 4 = .ok (.iload_n 2, 1) := by decide +kernel
theorem dX1_commitFinished_5 : decode cX1_commitFinished 5 = .ok (.aload_n 0, 1) := by decide +kernel
theorem dX1_commitFinished_6 : decode cX1_commitFinished 6 = .ok (.getfield 35, 3) := by decide +kernel
theorem dX1_commitFinished_9 : decode cX1_commitFinished 9 = .ok (.getfield 125, 3) := by decide +kernel
theorem dX1_commitFinished_12 : decode cX1_commitFinished 12 = .ok (.if_icmp .ge 87, 3) := by decide +kernel
theorem dX1_commitFinished_15 : decode cX1_commitFinished 15 = .ok (.aload_n 0, 1) := by decide +kernel
theorem dX1_commitFinished_16 : decode cX1_commitFinished 16 = .ok (.getfield 35, 3) := by decide +kernel
theorem dX1_commitFinished_19 : decode cX1_commitFinished 19 = .ok (.getfield 128, 3) := by decide +kernel
theorem dX1_commitFinished_22 : decode cX1_commitFinished 22 = .ok (.iload_n 2, 1) := by decide +kernel
theorem dX1_commitFinished_23 : decode cX1_commitFinished 23 = .ok (.iaload, 1) := by decide +kernel
theorem dX1_commitFinished_24 : decode cX1_commitFinished 24 = .ok (.istore_n 3, 1) := by decide +kernel
theorem dX1_commitFinished_25 : decode cX1_commitFinished 25 = .ok (.aload_n 0, 1) := by decide +kernel
theorem dX1_commitFinished_26 : decode cX1_commitFinished 26 = .ok (.getfield 35, 3) := by decide +kernel
theorem dX1_commitFinished_29 : decode cX1_commitFinished 29 = .ok (.getfield 112, 3) := by decide +kernel
theorem dX1_commitFinished_32 : decode cX1_commitFinished 32 = .ok (.iload_n 3, 1) := by decide +kernel
theorem dX1_commitFinished_33 : decode cX1_commitFinished 33 = .ok (.iaload, 1) := by decide +kernel
theorem dX1_commitFinished_34 : decode cX1_commitFinished 34 = .ok (.istore 4, 2) := by decide +kernel
theorem dX1_commitFinished_36 : decode cX1_commitFinished 36 = .ok (.aload_n 0, 1) := by decide +kernel
theorem dX1_commitFinished_37 : decode cX1_commitFinished 37 = .ok (.getfield 35, 3) := by decide +kernel
theorem dX1_commitFinished_40 : decode cX1_commitFinished 40 = .ok (.getfield 147, 3) := by decide +kernel
theorem dX1_commitFinished_43 : decode cX1_commitFinished 43 = .ok (.iload_n 3, 1) := by decide +kernel
theorem dX1_commitFinished_44 : decode cX1_commitFinished 44 = .ok (.iaload, 1) := by decide +kernel
theorem dX1_commitFinished_45 : decode cX1_commitFinished 45 = .ok (.iconst 1, 1) := by decide +kernel
theorem dX1_commitFinished_46 : decode cX1_commitFinished 46 = .ok (.if_icmp .ne 7, 3) := by decide +kernel
theorem dX1_commitFinished_49 : decode cX1_commitFinished 49 = .ok (.iconst 1, 1) := by decide +kernel
theorem dX1_commitFinished_50 : decode cX1_commitFinished 50 = .ok (.goto 4, 3) := by decide +kernel
theorem dX1_commitFinished_53 : decode cX1_commitFinished 53 = .ok (.iconst 0, 1) := by decide +kernel
theorem dX1_commitFinished_54 : decode cX1_commitFinished 54 = .ok (.istore 5, 2) := by decide +kernel
theorem dX1_commitFinished_56 : decode cX1_commitFinished 56 = .ok (.iload 5, 2) := by decide +kernel
theorem dX1_commitFinished_58 : decode cX1_commitFinished 58 = .ok (.ifCond .eq 35, 3) := by decide +kernel
theorem dX1_commitFinished_61 : decode cX1_commitFinished 61 = .ok (.aload_n 0, 1) := by decide +kernel
theorem dX1_commitFinished_62 : decode cX1_commitFinished 62 = .ok (.getfield 35, 3) := by decide +kernel
theorem dX1_commitFinished_65 : decode cX1_commitFinished 65 = .ok (.getfield 150, 3) := by decide +kernel
theorem dX1_commitFinished_68 : decode cX1_commitFinished 68 = .ok (.iload_n 3, 1) := by decide +kernel
theorem dX1_commitFinished_69 : decode cX1_commitFinished 69 = .ok (.iaload, 1) := by decide +kernel
theorem dX1_commitFinished_70 : decode cX1_commitFinished 70 = .ok (.aload_n 0, 1) := by decide +kernel
theorem dX1_commitFinished_71 : decode cX1_commitFinished 71 = .ok (.getfield 28, 3) := by decide +kernel
theorem dX1_commitFinished_74 : decode cX1_commitFinished 74 = .ok (.getfield 134, 3) := by decide +kernel
theorem dX1_commitFinished_77 : decode cX1_commitFinished 77 = .ok (.iload 4, 2) := by decide +kernel
theorem dX1_commitFinished_79 : decode cX1_commitFinished 79 = .ok (.iaload, 1) := by decide +kernel
theorem dX1_commitFinished_80 : decode cX1_commitFinished 80 = .ok (.if_icmp .lt 13, 3) := by decide +kernel
theorem dX1_commitFinished_83 : decode cX1_commitFinished 83 = .ok (.aload_n 0, 1) := by decide +kernel
theorem dX1_commitFinished_84 : decode cX1_commitFinished 84 = .ok (.iload_n 3, 1) := by decide +kernel
theorem dX1_commitFinished_85 : decode cX1_commitFinished 85 = .ok (.iload 4, 2) := by decide +kernel
theorem dX1_commitFinished_87 : decode cX1_commitFinished 87 = .ok (.invokevirtual 153, 3) := by decide +kernel
theorem dX1_commitFinished_90 : decode cX1_commitFinished 90 = .ok (.iinc 1 1, 3) := by decide +kernel
theorem dX1_commitFinished_93 : decode cX1_commitFinished 93 = .ok (.iinc 2 1, 3) := by decide +kernel
theorem dX1_commitFinished_96 : decode cX1_commitFinished 96 = .ok (.goto (-92), 3) := by decide +kernel
theorem dX1_commitFinished_99 : decode cX1_commitFinished 99 = .ok (.aload_n 0, 1) := by decide +kernel
theorem dX1_commitFinished_100 : decode cX1_commitFinished 100 = .ok (.getfield 35, 3) := by decide +kernel
theorem dX1_commitFinished_103 : decode cX1_commitFinished 103 = .ok (.invokevirtual 156, 3) := by decide +kernel
theorem dX1_commitFinished_106 : decode cX1_commitFinished 106 = .ok (.iload_n 1, 1) := by decide +kernel
theorem dX1_commitFinished_107 : decode cX1_commitFinished 107 = .ok (.ireturn, 1) := by decide +kernel
theorem dX1_commit_0 : decode cX1_commit 0 = .ok (.aload_n 0, 1) := by decide +kernel
theorem dX1_commit_1 : decode cX1_commit 1 = .ok (.iload_n 1, 1) := by decide +kernel
theorem dX1_commit_2 : decode cX1_commit 2 = .ok (.iconst 2, 1) := by decide +kernel
theorem dX1_commit_3 : decode cX1_commit 3 = .ok (.invokevirtual 159, 3) := by decide +kernel
theorem dX1_commit_6 : decode cX1_commit 6 = .ok (.aload_n 0, 1) := by decide +kernel
theorem dX1_commit_7 : decode cX1_commit 7 = .ok (.getfield 28, 3) := by decide +kernel
theorem dX1_commit_10 : decode cX1_commit 10 = .ok (.getfield 162, 3) := by decide +kernel
theorem dX1_commit_13 : decode cX1_commit 13 = .ok (.iload_n 2, 1) := by decide +kernel
theorem dX1_commit_14 : decode cX1_commit 14 = .ok (.iload_n 1, 1) := by decide +kernel
theorem dX1_commit_15 : decode cX1_commit 15 = .ok (.iastore, 1) := by decide +kernel
theorem dX1_commit_16 : decode cX1_commit 16 = .ok (.aload_n 0, 1) := by decide +kernel
theorem dX1_commit_17 : decode cX1_commit 17 = .ok (.getfield 28, 3) := by decide +kernel
theorem dX1_commit_20 : decode cX1_commit 20 = .ok (.getfield 165, 3) := by decide +kernel
theorem dX1_commit_23 : decode cX1_commit 23 = .ok (.iload_n 2, 1) := by decide +kernel
theorem dX1_commit_24 : decode cX1_commit 24 = .ok (.aload_n 0, 1) := by decide +kernel
theorem dX1_commit_25 : decode cX1_commit 25 = .ok (.getfield 39, 3) := by decide +kernel
theorem dX1_commit_28 : decode cX1_commit 28 = .ok (.iconst 1, 1) := by decide +kernel
theorem dX1_commit_29 : decode cX1_commit 29 = .ok (.iadd, 1) := by decide +kernel
theorem dX1_commit_30 : decode cX1_commit 30 = .ok (.iastore, 1) := by decide +kernel
theorem dX1_commit_31 : decode cX1_commit 31 = .ok (.iconst 0, 1) := by decide +kernel
theorem dX1_commit_32 : decode cX1_commit 32 = .ok (.istore_n 3, 1) := by decide +kernel
theorem dX1_commit_33 : decode cX1_commit 33 = .ok (.iload_n 3, 1) := by decide +kernel
theorem dX1_commit_34 : decode cX1_commit 34 = .ok (.aload_n 0, 1) := by decide +kernel
theorem dX1_commit_35 : decode cX1_commit 35 = .ok (.getfield 35, 3) := by decide +kernel
theorem dX1_commit_38 : decode cX1_commit 38 = .ok (.getfield 125, 3) := by decide +kernel
theorem dX1_commit_41 : decode cX1_commit 41 = .ok (.if_icmp .ge 55, 3) := by decide +kernel
theorem dX1_commit_44 : decode cX1_commit 44 = .ok (.aload_n 0, 1) := by decide +kernel
theorem dX1_commit_45 : decode cX1_commit 45 = .ok (.getfield 35, 3) := by decide +kernel
theorem dX1_commit_48 : decode cX1_commit 48 = .ok (.getfield 128, 3) := by decide +kernel
theorem dX1_commit_51 : decode cX1_commit 51 = .ok (.iload_n 3, 1) := by decide +kernel
theorem dX1_commit_52 : decode cX1_commit 52 = .ok (.iaload, 1) := by decide +kernel
theorem dX1_commit_53 : decode cX1_commit 53 = .ok (.istore 4, 2) := by decide +kernel
theorem dX1_commit_55 : decode cX1_commit 55 = .ok (.aload_n 0, 1) := by decide +kernel
theorem dX1_commit_56 : decode cX1_commit 56 = .ok (.getfield 35, 3) := by decide +kernel
theorem dX1_commit_59 : decode cX1_commit 59 = .ok (.getfield 112, 3) := by decide +kernel
theorem dX1_commit_62 : decode cX1_commit 62 = .ok (.iload 4, 2) := by decide +kernel
theorem dX1_commit_64 : decode cX1_commit 64 = .ok (.iaload, 1) := by decide +kernel
theorem dX1_commit_65 : decode cX1_commit 65 = .ok (.iload_n 2, 1) := by decide +kernel
theorem dX1_commit_66 : decode cX1_commit 66 = .ok (.if_icmp .ne 24, 3) := by decide +kernel
theorem dX1_commit_69 : decode cX1_commit 69 = .ok (.aload_n 0, 1) := by decide +kernel
theorem dX1_commit_70 : decode cX1_commit 70 = .ok (.getfield 35, 3) := by decide +kernel
theorem dX1_commit_73 : decode cX1_commit 73 = .ok (.getfield 147, 3) := by decide +kernel
theorem dX1_commit_76 : decode cX1_commit 76 = .ok (.iload 4, 2) := by decide +kernel
theorem dX1_commit_78 : decode cX1_commit 78 = .ok (.iaload, 1) := by decide +kernel
theorem dX1_commit_79 : decode cX1_commit 79 = .ok (.iconst 1, 1) := by decide +kernel
theorem dX1_commit_80 : decode cX1_commit 80 = .ok (.if_icmp .ne 10, 3) := by decide +kernel
theorem dX1_commit_83 : decode cX1_commit 83 = .ok (.aload_n 0, 1) := by decide +kernel
theorem dX1_commit_84 : decode cX1_commit 84 = .ok (.iload 4, 2) := by decide +kernel
theorem dX1_commit_86 : decode cX1_commit 86 = .ok (.iconst 3, 1) := by decide +kernel
theorem dX1_commit_87 : decode cX1_commit 87 = .ok (.invokevirtual 159, 3) := by decide +kernel
theorem dX1_commit_90 : decode cX1_commit 90 = .ok (.iinc 3 1, 3) := by decide +kernel
theorem dX1_commit_93 : decode cX1_commit 93 = .ok (.goto (-60), 3) := by decide +kernel
theorem dX1_commit_96 : decode cX1_commit 96 = .ok (.return_, 1) := by decide +kernel
theorem dX1_loseAttemptsOn_0 : decode cX1_loseAttemptsOn 0 = .ok (.iconst 0, 1) := by decide +kernel
theorem dX1_loseAttemptsOn_1 : decode cX1_loseAttemptsOn 1 = .ok (.istore_n 2, 1) := by decide +kernel
theorem dX1_loseAttemptsOn_2 : decode cX1_loseAttemptsOn 2 = .ok (.iconst 0, 1) := by decide +kernel
theorem dX1_loseAttemptsOn_3 : decode cX1_loseAttemptsOn 3 = .ok (.istore_n 3, 1) := by decide +kernel
theorem dX1_loseAttemptsOn_4 : decode cX1_loseAttemptsOn 4 = .ok (.iload_n 3, 1) := by decide +kernel
theorem dX1_loseAttemptsOn_5 : decode cX1_loseAttemptsOn 5 = .ok (.aload_n 0, 1) := by decide +kernel
theorem dX1_loseAttemptsOn_6 : decode cX1_loseAttemptsOn 6 = .ok (.getfield 35, 3) := by decide +kernel
theorem dX1_loseAttemptsOn_9 : decode cX1_loseAttemptsOn 9 = .ok (.getfield 125, 3) := by decide +kernel
theorem dX1_loseAttemptsOn_12 : decode cX1_loseAttemptsOn 12 = .ok (.if_icmp .ge 44, 3) := by decide +kernel
theorem dX1_loseAttemptsOn_15 : decode cX1_loseAttemptsOn 15 = .ok (.aload_n 0, 1) := by decide +kernel
theorem dX1_loseAttemptsOn_16 : decode cX1_loseAttemptsOn 16 = .ok (.getfield 35, 3) := by decide +kernel
theorem dX1_loseAttemptsOn_19 : decode cX1_loseAttemptsOn 19 = .ok (.getfield 128, 3) := by decide +kernel
theorem dX1_loseAttemptsOn_22 : decode cX1_loseAttemptsOn 22 = .ok (.iload_n 3, 1) := by decide +kernel
theorem dX1_loseAttemptsOn_23 : decode cX1_loseAttemptsOn 23 = .ok (.iaload, 1) := by decide +kernel
theorem dX1_loseAttemptsOn_24 : decode cX1_loseAttemptsOn 24 = .ok (.istore 4, 2) := by decide +kernel
theorem dX1_loseAttemptsOn_26 : decode cX1_loseAttemptsOn 26 = .ok (.aload_n 0, 1) := by decide +kernel
theorem dX1_loseAttemptsOn_27 : decode cX1_loseAttemptsOn 27 = .ok (.getfield 35, 3) := by decide +kernel
theorem dX1_loseAttemptsOn_30 : decode cX1_loseAttemptsOn 30 = .ok (.getfield 108, 3) := by decide +kernel
theorem dX1_loseAttemptsOn_33 : decode cX1_loseAttemptsOn 33 = .ok (.iload 4, 2) := by decide +kernel
theorem dX1_loseAttemptsOn_35 : decode cX1_loseAttemptsOn 35 = .ok (.iaload, 1) := by decide +kernel
theorem dX1_loseAttemptsOn_36 : decode cX1_loseAttemptsOn 36 = .ok (.iload_n 1, 1) := by decide +kernel
theorem dX1_loseAttemptsOn_37 : decode cX1_loseAttemptsOn 37 = .ok (.if_icmp .ne 13, 3) := by decide +kernel
theorem dX1_loseAttemptsOn_40 : decode cX1_loseAttemptsOn 40 = .ok (.aload_n 0, 1) := by decide +kernel
theorem dX1_loseAttemptsOn_41 : decode cX1_loseAttemptsOn 41 = .ok (.iload 4, 2) := by decide +kernel
theorem dX1_loseAttemptsOn_43 : decode cX1_loseAttemptsOn 43 = .ok (.iconst 4, 1) := by decide +kernel
theorem dX1_loseAttemptsOn_44 : decode cX1_loseAttemptsOn 44 = .ok (.invokevirtual 159, 3) := by decide +kernel
theorem dX1_loseAttemptsOn_47 : decode cX1_loseAttemptsOn 47 = .ok (.iinc 2 1, 3) := by decide +kernel
theorem dX1_loseAttemptsOn_50 : decode cX1_loseAttemptsOn 50 = .ok (.iinc 3 1, 3) := by decide +kernel
theorem dX1_loseAttemptsOn_53 : decode cX1_loseAttemptsOn 53 = .ok (.goto (-49), 3) := by decide +kernel
theorem dX1_loseAttemptsOn_56 : decode cX1_loseAttemptsOn 56 = .ok (.aload_n 0, 1) := by decide +kernel
theorem dX1_loseAttemptsOn_57 : decode cX1_loseAttemptsOn 57 = .ok (.getfield 35, 3) := by decide +kernel
theorem dX1_loseAttemptsOn_60 : decode cX1_loseAttemptsOn 60 = .ok (.invokevirtual 156, 3) := by decide +kernel
theorem dX1_loseAttemptsOn_63 : decode cX1_loseAttemptsOn 63 = .ok (.iload_n 2, 1) := by decide +kernel
theorem dX1_loseAttemptsOn_64 : decode cX1_loseAttemptsOn 64 = .ok (.ireturn, 1) := by decide +kernel
theorem dX1_end_0 : decode cX1_end 0 = .ok (.aload_n 0, 1) := by decide +kernel
theorem dX1_end_1 : decode cX1_end 1 = .ok (.getfield 35, 3) := by decide +kernel
theorem dX1_end_4 : decode cX1_end 4 = .ok (.getfield 147, 3) := by decide +kernel
theorem dX1_end_7 : decode cX1_end 7 = .ok (.iload_n 1, 1) := by decide +kernel
theorem dX1_end_8 : decode cX1_end 8 = .ok (.iload_n 2, 1) := by decide +kernel
theorem dX1_end_9 : decode cX1_end 9 = .ok (.iastore, 1) := by decide +kernel
theorem dX1_end_10 : decode cX1_end 10 = .ok (.aload_n 0, 1) := by decide +kernel
theorem dX1_end_11 : decode cX1_end 11 = .ok (.getfield 28, 3) := by decide +kernel
theorem dX1_end_14 : decode cX1_end 14 = .ok (.getfield 115, 3) := by decide +kernel
theorem dX1_end_17 : decode cX1_end 17 = .ok (.aload_n 0, 1) := by decide +kernel
theorem dX1_end_18 : decode cX1_end 18 = .ok (.getfield 35, 3) := by decide +kernel
theorem dX1_end_21 : decode cX1_end 21 = .ok (.getfield 112, 3) := by decide +kernel
theorem dX1_end_24 : decode cX1_end 24 = .ok (.iload_n 1, 1) := by decide +kernel
theorem dX1_end_25 : decode cX1_end 25 = .ok (.iaload, 1) := by decide +kernel
theorem dX1_end_26 : decode cX1_end 26 = .ok (.dup2, 1) := by decide +kernel
theorem dX1_end_27 : decode cX1_end 27 = .ok (.iaload, 1) := by decide +kernel
theorem dX1_end_28 : decode cX1_end 28 = .ok (.iconst 1, 1) := by decide +kernel
theorem dX1_end_29 : decode cX1_end 29 = .ok (.isub, 1) := by decide +kernel
theorem dX1_end_30 : decode cX1_end 30 = .ok (.iastore, 1) := by decide +kernel
theorem dX1_end_31 : decode cX1_end 31 = .ok (.aload_n 0, 1) := by decide +kernel
theorem dX1_end_32 : decode cX1_end 32 = .ok (.getfield 21, 3) := by decide +kernel
theorem dX1_end_35 : decode cX1_end 35 = .ok (.getfield 122, 3) := by decide +kernel
theorem dX1_end_38 : decode cX1_end 38 = .ok (.aload_n 0, 1) := by decide +kernel
theorem dX1_end_39 : decode cX1_end 39 = .ok (.getfield 35, 3) := by decide +kernel
theorem dX1_end_42 : decode cX1_end 42 = .ok (.getfield 108, 3) := by decide +kernel
theorem dX1_end_45 : decode cX1_end 45 = .ok (.iload_n 1, 1) := by decide +kernel
theorem dX1_end_46 : decode cX1_end 46 = .ok (.iaload, 1) := by decide +kernel
theorem dX1_end_47 : decode cX1_end 47 = .ok (.dup2, 1) := by decide +kernel
theorem dX1_end_48 : decode cX1_end 48 = .ok (.iaload, 1) := by decide +kernel
theorem dX1_end_49 : decode cX1_end 49 = .ok (.iconst 1, 1) := by decide +kernel
theorem dX1_end_50 : decode cX1_end 50 = .ok (.isub, 1) := by decide +kernel
theorem dX1_end_51 : decode cX1_end 51 = .ok (.iastore, 1) := by decide +kernel
theorem dX1_end_52 : decode cX1_end 52 = .ok (.return_, 1) := by decide +kernel
theorem dX1_findStraggler_0 : decode cX1_findStraggler 0 = .ok (.aload_n 0, 1) := by decide +kernel
theorem dX1_findStraggler_1 : decode cX1_findStraggler 1 = .ok (.getfield 12, 3) := by decide +kernel
theorem dX1_findStraggler_4 : decode cX1_findStraggler 4 = .ok (.getfield 95, 3) := by decide +kernel
theorem dX1_findStraggler_7 : decode cX1_findStraggler 7 = .ok (.iconst 1, 1) := by decide +kernel
theorem dX1_findStraggler_8 : decode cX1_findStraggler 8 = .ok (.if_icmp .ne 8, 3) := by decide +kernel
theorem dX1_findStraggler_11 : decode cX1_findStraggler 11 = .ok (.aload_n 0, 1) := by decide +kernel
theorem dX1_findStraggler_12 : decode cX1_findStraggler 12 = .ok (.invokevirtual 168, 3) := by decide +kernel
theorem dX1_findStraggler_15 : decode cX1_findStraggler 15 = .ok (.ireturn, 1) := by decide +kernel
theorem dX1_findStraggler_16 : decode cX1_findStraggler 16 = .ok (.aload_n 0, 1) := by decide +kernel
theorem dX1_findStraggler_17 : decode cX1_findStraggler 17 = .ok (.getfield 12, 3) := by decide +kernel
theorem dX1_findStraggler_20 : decode cX1_findStraggler 20 = .ok (.getfield 95, 3) := by decide +kernel
theorem dX1_findStraggler_23 : decode cX1_findStraggler 23 = .ok (.iconst 2, 1) := by decide +kernel
theorem dX1_findStraggler_24 : decode cX1_findStraggler 24 = .ok (.if_icmp .ne 10, 3) := by decide +kernel
theorem dX1_findStraggler_27 : decode cX1_findStraggler 27 = .ok (.aload_n 0, 1) := by decide +kernel
theorem dX1_findStraggler_28 : decode cX1_findStraggler 28 = .ok (.invokevirtual 171, 3) := by decide +kernel
theorem dX1_findStraggler_31 : decode cX1_findStraggler 31 = .ok (.goto 5, 3) := by decide +kernel
theorem dX1_findStraggler_34 : decode cX1_findStraggler 34 = .ok (.bipush (-6), 2) := by decide +kernel
theorem dX1_findStraggler_36 : decode cX1_findStraggler 36 = .ok (.ireturn, 1) := by decide +kernel
theorem dX1_isCandidate_0 : decode cX1_isCandidate 0 = .ok (.aload_n 0, 1) := by decide +kernel
theorem dX1_isCandidate_1 : decode cX1_isCandidate 1 = .ok (.getfield 28, 3) := by decide +kernel
theorem dX1_isCandidate_4 : decode cX1_isCandidate 4 = .ok (.getfield 115, 3) := by decide +kernel
theorem dX1_isCandidate_7 : decode cX1_isCandidate 7 = .ok (.aload_n 0, 1) := by decide +kernel
theorem dX1_isCandidate_8 : decode cX1_isCandidate 8 = .ok (.getfield 35, 3) := by decide +kernel
theorem dX1_isCandidate_11 : decode cX1_isCandidate 11 = .ok (.getfield 112, 3) := by decide +kernel
theorem dX1_isCandidate_14 : decode cX1_isCandidate 14 = .ok (.iload_n 1, 1) := by decide +kernel
theorem dX1_isCandidate_15 : decode cX1_isCandidate 15 = .ok (.iaload, 1) := by decide +kernel
theorem dX1_isCandidate_16 : decode cX1_isCandidate 16 = .ok (.iaload, 1) := by decide +kernel
theorem dX1_isCandidate_17 : decode cX1_isCandidate 17 = .ok (.iconst 1, 1) := by decide +kernel
theorem dX1_isCandidate_18 : decode cX1_isCandidate 18 = .ok (.if_icmp .ne 26, 3) := by decide +kernel
theorem dX1_isCandidate_21 : decode cX1_isCandidate 21 = .ok (.aload_n 0, 1) := by decide +kernel
theorem dX1_isCandidate_22 : decode cX1_isCandidate 22 = .ok (.getfield 35, 3) := by decide +kernel
theorem dX1_isCandidate_25 : decode cX1_isCandidate 25 = .ok (.getfield 174, 3) := by decide +kernel
theorem dX1_isCandidate_28 : decode cX1_isCandidate 28 = .ok (.iload_n 1, 1) := by decide +kernel
theorem dX1_isCandidate_29 : decode cX1_isCandidate 29 = .ok (.iaload, 1) := by decide +kernel
theorem dX1_isCandidate_30 : decode cX1_isCandidate 30 = .ok (.aload_n 0, 1) := by decide +kernel
theorem dX1_isCandidate_31 : decode cX1_isCandidate 31 = .ok (.getfield 12, 3) := by decide +kernel
theorem dX1_isCandidate_34 : decode cX1_isCandidate 34 = .ok (.getfield 177, 3) := by decide +kernel
theorem dX1_isCandidate_37 : decode cX1_isCandidate 37 = .ok (.if_icmp .lt 7, 3) := by decide +kernel
theorem dX1_isCandidate_40 : decode cX1_isCandidate 40 = .ok (.iconst 1, 1) := by decide +kernel
theorem dX1_isCandidate_41 : decode cX1_isCandidate 41 = .ok (.goto 4, 3) := by decide +kernel
theorem dX1_isCandidate_44 : decode cX1_isCandidate 44 = .ok (.iconst 0, 1) := by decide +kernel
theorem dX1_isCandidate_45 : decode cX1_isCandidate 45 = .ok (.ireturn, 1) := by decide +kernel
theorem dX1_leastAdvanced_0 : decode cX1_leastAdvanced 0 = .ok (.bipush (-6), 2) := by decide +kernel
theorem dX1_leastAdvanced_2 : decode cX1_leastAdvanced 2 = .ok (.istore_n 1, 1) := by decide +kernel
theorem dX1_leastAdvanced_3 : decode cX1_leastAdvanced 3 = .ok (.iconst 0, 1) := by decide +kernel
theorem dX1_leastAdvanced_4 : decode cX1_leastAdvanced 4 = .ok (.istore_n 2, 1) := by decide +kernel
theorem dX1_leastAdvanced_5 : decode cX1_leastAdvanced 5 = .ok (.iload_n 2, 1) := by decide +kernel
theorem dX1_leastAdvanced_6 : decode cX1_leastAdvanced 6 = .ok (.aload_n 0, 1) := by decide +kernel
theorem dX1_leastAdvanced_7 : decode cX1_leastAdvanced 7 = .ok (.getfield 35, 3) := by decide +kernel
theorem dX1_leastAdvanced_10 : decode cX1_leastAdvanced 10 = .ok (.getfield 125, 3) := by decide +kernel
theorem dX1_leastAdvanced_13 : decode cX1_leastAdvanced 13 = .ok (.if_icmp .ge 56, 3) := by decide +kernel
theorem dX1_leastAdvanced_16 : decode cX1_leastAdvanced 16 = .ok (.aload_n 0, 1) := by decide +kernel
theorem dX1_leastAdvanced_17 : decode cX1_leastAdvanced 17 = .ok (.getfield 35, 3) := by decide +kernel
theorem dX1_leastAdvanced_20 : decode cX1_leastAdvanced 20 = .ok (.getfield 128, 3) := by decide +kernel
theorem dX1_leastAdvanced_23 : decode cX1_leastAdvanced 23 = .ok (.iload_n 2, 1) := by decide +kernel
theorem dX1_leastAdvanced_24 : decode cX1_leastAdvanced 24 = .ok (.iaload, 1) := by decide +kernel
theorem dX1_leastAdvanced_25 : decode cX1_leastAdvanced 25 = .ok (.istore_n 3, 1) := by decide +kernel
theorem dX1_leastAdvanced_26 : decode cX1_leastAdvanced 26 = .ok (.aload_n 0, 1) := by decide +kernel
theorem dX1_leastAdvanced_27 : decode cX1_leastAdvanced 27 = .ok (.iload_n 3, 1) := by decide +kernel
theorem dX1_leastAdvanced_28 : decode cX1_leastAdvanced 28 = .ok (.invokevirtual 180, 3) := by decide +kernel
theorem dX1_leastAdvanced_31 : decode cX1_leastAdvanced 31 = .ok (.ifCond .eq 32, 3) := by decide +kernel
theorem dX1_leastAdvanced_34 : decode cX1_leastAdvanced 34 = .ok (.iload_n 1, 1) := by decide +kernel
theorem dX1_leastAdvanced_35 : decode cX1_leastAdvanced 35 = .ok (.bipush (-6), 2) := by decide +kernel
theorem dX1_leastAdvanced_37 : decode cX1_leastAdvanced 37 = .ok (.if_icmp .eq 24, 3) := by decide +kernel
theorem dX1_leastAdvanced_40 : decode cX1_leastAdvanced 40 = .ok (.aload_n 0, 1) := by decide +kernel
theorem dX1_leastAdvanced_41 : decode cX1_leastAdvanced 41 = .ok (.getfield 35, 3) := by decide +kernel
theorem dX1_leastAdvanced_44 : decode cX1_leastAdvanced 44 = .ok (.getfield 183, 3) := by decide +kernel
theorem dX1_leastAdvanced_47 : decode cX1_leastAdvanced 47 = .ok (.iload_n 3, 1) := by decide +kernel
theorem dX1_leastAdvanced_48 : decode cX1_leastAdvanced 48 = .ok (.iaload, 1) := by decide +kernel
theorem dX1_leastAdvanced_49 : decode cX1_leastAdvanced 49 = .ok (.aload_n 0, 1) := by decide +kernel
theorem dX1_leastAdvanced_50 : decode cX1_leastAdvanced 50 = .ok (.getfield 35, 3) := by decide +kernel
theorem dX1_leastAdvanced_53 : decode cX1_leastAdvanced 53 = .ok (.getfield 183, 3) := by decide +kernel
theorem dX1_leastAdvanced_56 : decode cX1_leastAdvanced 56 = .ok (.iload_n 1, 1) := by decide +kernel
theorem dX1_leastAdvanced_57 : decode cX1_leastAdvanced 57 = .ok (.iaload, 1) := by decide +kernel
theorem dX1_leastAdvanced_58 : decode cX1_leastAdvanced 58 = .ok (.if_icmp .ge 5, 3) := by decide +kernel
theorem dX1_leastAdvanced_61 : decode cX1_leastAdvanced 61 = .ok (.iload_n 3, 1) := by decide +kernel
theorem dX1_leastAdvanced_62 : decode cX1_leastAdvanced 62 = .ok (.istore_n 1, 1) := by decide +kernel
theorem dX1_leastAdvanced_63 : decode cX1_leastAdvanced 63 = .ok (.iinc 2 1, 3) := by decide +kernel
theorem dX1_leastAdvanced_66 : decode cX1_leastAdvanced 66 = .ok (.goto (-61), 3) := by decide +kernel
theorem dX1_leastAdvanced_69 : decode cX1_leastAdvanced 69 = .ok (.iload_n 1, 1) := by decide +kernel
theorem dX1_leastAdvanced_70 : decode cX1_leastAdvanced 70 = .ok (.bipush (-6), 2) := by decide +kernel
theorem dX1_leastAdvanced_72 : decode cX1_leastAdvanced 72 = .ok (.if_icmp .ne 6, 3) := by decide +kernel
theorem dX1_leastAdvanced_75 : decode cX1_leastAdvanced 75 = .ok (.bipush (-6), 2) := by decide +kernel
theorem dX1_leastAdvanced_77 : decode cX1_leastAdvanced 77 = .ok (.ireturn, 1) := by decide +kernel
theorem dX1_leastAdvanced_78 : decode cX1_leastAdvanced 78 = .ok (.aload_n 0, 1) := by decide +kernel
theorem dX1_leastAdvanced_79 : decode cX1_leastAdvanced 79 = .ok (.getfield 35, 3) := by decide +kernel
theorem dX1_leastAdvanced_82 : decode cX1_leastAdvanced 82 = .ok (.aload_n 0, 1) := by decide +kernel
theorem dX1_leastAdvanced_83 : decode cX1_leastAdvanced 83 = .ok (.getfield 35, 3) := by decide +kernel
theorem dX1_leastAdvanced_86 : decode cX1_leastAdvanced 86 = .ok (.getfield 183, 3) := by decide +kernel
theorem dX1_leastAdvanced_89 : decode cX1_leastAdvanced 89 = .ok (.invokevirtual 186, 3) := by decide +kernel
theorem dX1_leastAdvanced_92 : decode cX1_leastAdvanced 92 = .ok (.istore_n 2, 1) := by decide +kernel
theorem dX1_leastAdvanced_93 : decode cX1_leastAdvanced 93 = .ok (.aload_n 0, 1) := by decide +kernel
theorem dX1_leastAdvanced_94 : decode cX1_leastAdvanced 94 = .ok (.getfield 35, 3) := by decide +kernel
theorem dX1_leastAdvanced_97 : decode cX1_leastAdvanced 97 = .ok (.getfield 183, 3) := by decide +kernel
theorem dX1_leastAdvanced_100 : decode cX1_leastAdvanced 100 = .ok (.iload_n 1, 1) := by decide +kernel
theorem dX1_leastAdvanced_101 : decode cX1_leastAdvanced 101 = .ok (.iaload, 1) := by decide +kernel
theorem dX1_leastAdvanced_102 : decode cX1_leastAdvanced 102 = .ok (.sipush 200, 3) := by decide +kernel
theorem dX1_leastAdvanced_105 : decode cX1_leastAdvanced 105 = .ok (.iadd, 1) := by decide +kernel
theorem dX1_leastAdvanced_106 : decode cX1_leastAdvanced 106 = .ok (.iload_n 2, 1) := by decide +kernel
theorem dX1_leastAdvanced_107 : decode cX1_leastAdvanced 107 = .ok (.if_icmp .ge 7, 3) := by decide +kernel
theorem dX1_leastAdvanced_110 : decode cX1_leastAdvanced 110 = .ok (.iload_n 1, 1) := by decide +kernel
theorem dX1_leastAdvanced_111 : decode cX1_leastAdvanced 111 = .ok (.goto 5, 3) := by decide +kernel
theorem dX1_leastAdvanced_114 : decode cX1_leastAdvanced 114 = .ok (.bipush (-6), 2) := by decide +kernel
theorem dX1_leastAdvanced_116 : decode cX1_leastAdvanced 116 = .ok (.ireturn, 1) := by decide +kernel
theorem dX1_longestToRun_0 : decode cX1_longestToRun 0 = .ok (.aload_n 0, 1) := by decide +kernel
theorem dX1_longestToRun_1 : decode cX1_longestToRun 1 = .ok (.getfield 35, 3) := by decide +kernel
theorem dX1_longestToRun_4 : decode cX1_longestToRun 4 = .ok (.aload_n 0, 1) := by decide +kernel
theorem dX1_longestToRun_5 : decode cX1_longestToRun 5 = .ok (.getfield 35, 3) := by decide +kernel
theorem dX1_longestToRun_8 : decode cX1_longestToRun 8 = .ok (.getfield 190, 3) := by decide +kernel
theorem dX1_longestToRun_11 : decode cX1_longestToRun 11 = .ok (.invokevirtual 186, 3) := by decide +kernel
theorem dX1_longestToRun_14 : decode cX1_longestToRun 14 = .ok (.aload_n 0, 1) := by decide +kernel
theorem dX1_longestToRun_15 : decode cX1_longestToRun 15 = .ok (.getfield 12, 3) := by decide +kernel
theorem dX1_longestToRun_18 : decode cX1_longestToRun 18 = .ok (.getfield 193, 3) := by decide +kernel
theorem dX1_longestToRun_21 : decode cX1_longestToRun 21 = .ok (.imul, 1) := by decide +kernel
theorem dX1_longestToRun_22 : decode cX1_longestToRun 22 = .ok (.istore_n 1, 1) := by decide +kernel
theorem dX1_longestToRun_23 : decode cX1_longestToRun 23 = .ok (.bipush (-6), 2) := by decide +kernel
theorem dX1_longestToRun_25 : decode cX1_longestToRun 25 = .ok (.istore_n 2, 1) := by decide +kernel
theorem dX1_longestToRun_26 : decode cX1_longestToRun 26 = .ok (.iconst 0, 1) := by decide +kernel
theorem dX1_longestToRun_27 : decode cX1_longestToRun 27 = .ok (.istore_n 3, 1) := by decide +kernel
theorem dX1_longestToRun_28 : decode cX1_longestToRun 28 = .ok (.iload_n 3, 1) := by decide +kernel
theorem dX1_longestToRun_29 : decode cX1_longestToRun 29 = .ok (.aload_n 0, 1) := by decide +kernel
theorem dX1_longestToRun_30 : decode cX1_longestToRun 30 = .ok (.getfield 35, 3) := by decide +kernel
theorem dX1_longestToRun_33 : decode cX1_longestToRun 33 = .ok (.getfield 125, 3) := by decide +kernel
theorem dX1_longestToRun_36 : decode cX1_longestToRun 36 = .ok (.if_icmp .ge 87, 3) := by decide +kernel
theorem dX1_longestToRun_39 : decode cX1_longestToRun 39 = .ok (.aload_n 0, 1) := by decide +kernel
theorem dX1_longestToRun_40 : decode cX1_longestToRun 40 = .ok (.getfield 35, 3) := by decide +kernel
theorem dX1_longestToRun_43 : decode cX1_longestToRun 43 = .ok (.getfield 128, 3) := by decide +kernel
theorem dX1_longestToRun_46 : decode cX1_longestToRun 46 = .ok (.iload_n 3, 1) := by decide +kernel
theorem dX1_longestToRun_47 : decode cX1_longestToRun 47 = .ok (.iaload, 1) := by decide +kernel
theorem dX1_longestToRun_48 : decode cX1_longestToRun 48 = .ok (.istore 4, 2) := by decide +kernel
theorem dX1_longestToRun_50 : decode cX1_longestToRun 50 = .ok (.aload_n 0, 1) := by decide +kernel
theorem dX1_longestToRun_51 : decode cX1_longestToRun 51 = .ok (.getfield 35, 3) := by decide +kernel
theorem dX1_longestToRun_54 : decode cX1_longestToRun 54 = .ok (.getfield 190, 3) := by decide +kernel
theorem dX1_longestToRun_57 : decode cX1_longestToRun 57 = .ok (.iload 4, 2) := by decide +kernel
theorem dX1_longestToRun_59 : decode cX1_longestToRun 59 = .ok (.iaload, 1) := by decide +kernel
theorem dX1_longestToRun_60 : decode cX1_longestToRun 60 = .ok (.bipush 100, 2) := by decide +kernel
theorem dX1_longestToRun_62 : decode cX1_longestToRun 62 = .ok (.imul, 1) := by decide +kernel
theorem dX1_longestToRun_63 : decode cX1_longestToRun 63 = .ok (.iload_n 1, 1) := by decide +kernel
theorem dX1_longestToRun_64 : decode cX1_longestToRun 64 = .ok (.if_icmp .ge 7, 3) := by decide +kernel
theorem dX1_longestToRun_67 : decode cX1_longestToRun 67 = .ok (.iconst 1, 1) := by decide +kernel
theorem dX1_longestToRun_68 : decode cX1_longestToRun 68 = .ok (.goto 4, 3) := by decide +kernel
theorem dX1_longestToRun_71 : decode cX1_longestToRun 71 = .ok (.iconst 0, 1) := by decide +kernel
theorem dX1_longestToRun_72 : decode cX1_longestToRun 72 = .ok (.istore 5, 2) := by decide +kernel
theorem dX1_longestToRun_74 : decode cX1_longestToRun 74 = .ok (.iload 5, 2) := by decide +kernel
theorem dX1_longestToRun_76 : decode cX1_longestToRun 76 = .ok (.ifCond .eq 41, 3) := by decide +kernel
theorem dX1_longestToRun_79 : decode cX1_longestToRun 79 = .ok (.aload_n 0, 1) := by decide +kernel
theorem dX1_longestToRun_80 : decode cX1_longestToRun 80 = .ok (.iload 4, 2) := by decide +kernel
theorem dX1_longestToRun_82 : decode cX1_longestToRun 82 = .ok (.invokevirtual 180, 3) := by decide +kernel
theorem dX1_longestToRun_85 : decode cX1_longestToRun 85 = .ok (.ifCond .eq 32, 3) := by decide +kernel
theorem dX1_longestToRun_88 : decode cX1_longestToRun 88 = .ok (.iload_n 2, 1) := by decide +kernel
theorem dX1_longestToRun_89 : decode cX1_longestToRun 89 = .ok (.bipush (-6), 2) := by decide +kernel
theorem dX1_longestToRun_91 : decode cX1_longestToRun 91 = .ok (.if_icmp .eq 23, 3) := by decide +kernel
theorem dX1_longestToRun_94 : decode cX1_longestToRun 94 = .ok (.aload_n 0, 1) := by decide +kernel
theorem dX1_longestToRun_95 : decode cX1_longestToRun 95 = .ok (.getfield 35, 3) := by decide +kernel
theorem dX1_longestToRun_98 : decode cX1_longestToRun 98 = .ok (.iload 4, 2) := by decide +kernel
theorem dX1_longestToRun_100 : decode cX1_longestToRun 100 = .ok (.invokevirtual 196, 3) := by decide +kernel
theorem dX1_longestToRun_103 : decode cX1_longestToRun 103 = .ok (.aload_n 0, 1) := by decide +kernel
theorem dX1_longestToRun_104 : decode cX1_longestToRun 104 = .ok (.getfield 35, 3) := by decide +kernel
theorem dX1_longestToRun_107 : decode cX1_longestToRun 107 = .ok (.iload_n 2, 1) := by decide +kernel
theorem dX1_longestToRun_108 : decode cX1_longestToRun 108 = .ok (.invokevirtual 196, 3) := by decide +kernel
theorem dX1_longestToRun_111 : decode cX1_longestToRun 111 = .ok (.if_icmp .le 6, 3) := by decide +kernel
theorem dX1_longestToRun_114 : decode cX1_longestToRun 114 = .ok (.iload 4, 2) := by decide +kernel
theorem dX1_longestToRun_116 : decode cX1_longestToRun 116 = .ok (.istore_n 2, 1) := by decide +kernel
theorem dX1_longestToRun_117 : decode cX1_longestToRun 117 = .ok (.iinc 3 1, 3) := by decide +kernel
theorem dX1_longestToRun_120 : decode cX1_longestToRun 120 = .ok (.goto (-92), 3) := by decide +kernel
theorem dX1_longestToRun_123 : decode cX1_longestToRun 123 = .ok (.iload_n 2, 1) := by decide +kernel
theorem dX1_longestToRun_124 : decode cX1_longestToRun 124 = .ok (.ireturn, 1) := by decide +kernel
theorem dX2_init_0 : decode cX2_init 0 = .ok (.aload_n 0, 1) := by decide +kernel
theorem dX2_init_1 : decode cX2_init 1 = .ok (.invokespecial 3, 3) := by decide +kernel
theorem dX2_init_4 : decode cX2_init 4 = .ok (.aload_n 0, 1) := by decide +kernel
theorem dX2_init_5 : decode cX2_init 5 = .ok (.iconst 0, 1) := by decide +kernel
theorem dX2_init_6 : decode cX2_init 6 = .ok (.putfield 9, 3) := by decide +kernel
theorem dX2_init_9 : decode cX2_init 9 = .ok (.aload_n 0, 1) := by decide +kernel
theorem dX2_init_10 : decode cX2_init 10 = .ok (.bipush 8, 2) := by decide +kernel
theorem dX2_init_12 : decode cX2_init 12 = .ok (.newarray .int, 2) := by decide +kernel
theorem dX2_init_14 : decode cX2_init 14 = .ok (.putfield 15, 3) := by decide +kernel
theorem dX2_init_17 : decode cX2_init 17 = .ok (.aload_n 0, 1) := by decide +kernel
theorem dX2_init_18 : decode cX2_init 18 = .ok (.bipush 8, 2) := by decide +kernel
theorem dX2_init_20 : decode cX2_init 20 = .ok (.newarray .int, 2) := by decide +kernel
theorem dX2_init_22 : decode cX2_init 22 = .ok (.putfield 19, 3) := by decide +kernel
theorem dX2_init_25 : decode cX2_init 25 = .ok (.aload_n 0, 1) := by decide +kernel
theorem dX2_init_26 : decode cX2_init 26 = .ok (.bipush 8, 2) := by decide +kernel
theorem dX2_init_28 : decode cX2_init 28 = .ok (.newarray .boolean, 2) := by decide +kernel
theorem dX2_init_30 : decode cX2_init 30 = .ok (.putfield 22, 3) := by decide +kernel
theorem dX2_init_33 : decode cX2_init 33 = .ok (.aload_n 0, 1) := by decide +kernel
theorem dX2_init_34 : decode cX2_init 34 = .ok (.bipush 8, 2) := by decide +kernel
theorem dX2_init_36 : decode cX2_init 36 = .ok (.newarray .int, 2) := by decide +kernel
theorem dX2_init_38 : decode cX2_init 38 = .ok (.putfield 26, 3) := by decide +kernel
theorem dX2_init_41 : decode cX2_init 41 = .ok (.aload_n 0, 1) := by decide +kernel
theorem dX2_init_42 : decode cX2_init 42 = .ok (.bipush 8, 2) := by decide +kernel
theorem dX2_init_44 : decode cX2_init 44 = .ok (.newarray .int, 2) := by decide +kernel
theorem dX2_init_46 : decode cX2_init 46 = .ok (.putfield 29, 3) := by decide +kernel
theorem dX2_init_49 : decode cX2_init 49 = .ok (.aload_n 0, 1) := by decide +kernel
theorem dX2_init_50 : decode cX2_init 50 = .ok (.bipush 8, 2) := by decide +kernel
theorem dX2_init_52 : decode cX2_init 52 = .ok (.newarray .int, 2) := by decide +kernel
theorem dX2_init_54 : decode cX2_init 54 = .ok (.putfield 32, 3) := by decide +kernel
theorem dX2_init_57 : decode cX2_init 57 = .ok (.return_, 1) := by decide +kernel
theorem dX2_has_0 : decode cX2_has 0 = .ok (.iload_n 1, 1) := by decide +kernel
theorem dX2_has_1 : decode cX2_has 1 = .ok (.ifCond .lt 15, 3) := by decide +kernel
theorem dX2_has_4 : decode cX2_has 4 = .ok (.iload_n 1, 1) := by decide +kernel
theorem dX2_has_5 : decode cX2_has 5 = .ok (.aload_n 0, 1) := by decide +kernel
theorem dX2_has_6 : decode cX2_has 6 = .ok (.getfield 9, 3) := by decide +kernel
theorem dX2_has_9 : decode cX2_has 9 = .ok (.if_icmp .ge 7, 3) := by decide +kernel
theorem dX2_has_12 : decode cX2_has 12 = .ok (.iconst 1, 1) := by decide +kernel
theorem dX2_has_13 : decode cX2_has 13 = .ok (.goto 4, 3) := by decide +kernel
theorem dX2_has_16 : decode cX2_has 16 = .ok (.iconst 0, 1) := by decide +kernel
theorem dX2_has_17 : decode cX2_has 17 = .ok (.ireturn, 1) := by decide +kernel
theorem dX2_add_0 : decode cX2_add 0 = .ok (.aload_n 0, 1) := by decide +kernel
theorem dX2_add_1 : decode cX2_add 1 = .ok (.getfield 9, 3) := by decide +kernel
theorem dX2_add_4 : decode cX2_add 4 = .ok (.bipush 8, 2) := by decide +kernel
theorem dX2_add_6 : decode cX2_add 6 = .ok (.if_icmp .lt 6, 3) := by decide +kernel
theorem dX2_add_9 : decode cX2_add 9 = .ok (.bipush (-5), 2) := by decide +kernel
theorem dX2_add_11 : decode cX2_add 11 = .ok (.ireturn, 1) := by decide +kernel
theorem dX2_add_12 : decode cX2_add 12 = .ok (.aload_n 0, 1) := by decide +kernel
theorem dX2_add_13 : decode cX2_add 13 = .ok (.getfield 9, 3) := by decide +kernel
theorem dX2_add_16 : decode cX2_add 16 = .ok (.istore_n 3, 1) := by decide +kernel
theorem dX2_add_17 : decode cX2_add 17 = .ok (.aload_n 0, 1) := by decide +kernel
theorem dX2_add_18 : decode cX2_add 18 = .ok (.dup, 1) := by decide +kernel
theorem dX2_add_19 : decode cX2_add 19 = .ok (.getfield 9, 3) := by decide +kernel
theorem dX2_add_22 : decode cX2_add 22 = .ok (.iconst 1, 1) := by decide +kernel
theorem dX2_add_23 : decode cX2_add 23 = .ok (.iadd, 1) := by decide +kernel
theorem dX2_add_24 : decode cX2_add 24 = .ok (.putfield 9, 3) := by decide +kernel
theorem dX2_add_27 : decode cX2_add 27 = .ok (.aload_n 0, 1) := by decide +kernel
theorem dX2_add_28 : decode cX2_add 28 = .ok (.getfield 15, 3) := by decide +kernel
theorem dX2_add_31 : decode cX2_add 31 = .ok (.iload_n 3, 1) := by decide +kernel
theorem dX2_add_32 : decode cX2_add 32 = .ok (.iload_n 1, 1) := by decide +kernel
theorem dX2_add_33 : decode cX2_add 33 = .ok (.iastore, 1) := by decide +kernel
theorem dX2_add_34 : decode cX2_add 34 = .ok (.aload_n 0, 1) := by decide +kernel
theorem dX2_add_35 : decode cX2_add 35 = .ok (.getfield 19, 3) := by decide +kernel
theorem dX2_add_38 : decode cX2_add 38 = .ok (.iload_n 3, 1) := by decide +kernel
theorem dX2_add_39 : decode cX2_add 39 = .ok (.iload_n 2, 1) := by decide +kernel
theorem dX2_add_40 : decode cX2_add 40 = .ok (.iastore, 1) := by decide +kernel
theorem dX2_add_41 : decode cX2_add 41 = .ok (.aload_n 0, 1) := by decide +kernel
theorem dX2_add_42 : decode cX2_add 42 = .ok (.getfield 22, 3) := by decide +kernel
theorem dX2_add_45 : decode cX2_add 45 = .ok (.iload_n 3, 1) := by decide +kernel
theorem dX2_add_46 : decode cX2_add 46 = .ok (.iconst 1, 1) := by decide +kernel
theorem dX2_add_47 : decode cX2_add 47 = .ok (.bastore, 1) := by decide +kernel
theorem dX2_add_48 : decode cX2_add 48 = .ok (.aload_n 0, 1) := by decide +kernel
theorem dX2_add_49 : decode cX2_add 49 = .ok (.getfield 26, 3) := by decide +kernel
theorem dX2_add_52 : decode cX2_add 52 = .ok (.iload_n 3, 1) := by decide +kernel
theorem dX2_add_53 : decode cX2_add 53 = .ok (.iconst 0, 1) := by decide +kernel
theorem dX2_add_54 : decode cX2_add 54 = .ok (.iastore, 1) := by decide +kernel
theorem dX2_add_55 : decode cX2_add 55 = .ok (.aload_n 0, 1) := by decide +kernel
theorem dX2_add_56 : decode cX2_add 56 = .ok (.getfield 29, 3) := by decide +kernel
theorem dX2_add_59 : decode cX2_add 59 = .ok (.iload_n 3, 1) := by decide +kernel
theorem dX2_add_60 : decode cX2_add 60 = .ok (.iconst 0, 1) := by decide +kernel
theorem dX2_add_61 : decode cX2_add 61 = .ok (.iastore, 1) := by decide +kernel
theorem dX2_add_62 : decode cX2_add 62 = .ok (.aload_n 0, 1) := by decide +kernel
theorem dX2_add_63 : decode cX2_add 63 = .ok (.getfield 32, 3) := by decide +kernel
theorem dX2_add_66 : decode cX2_add 66 = .ok (.iload_n 3, 1) := by decide +kernel
theorem dX2_add_67 : decode cX2_add 67 = .ok (.iconst 0, 1) := by decide +kernel
theorem dX2_add_68 : decode cX2_add 68 = .ok (.iastore, 1) := by decide +kernel
theorem dX2_add_69 : decode cX2_add 69 = .ok (.iload_n 3, 1) := by decide +kernel
theorem dX2_add_70 : decode cX2_add 70 = .ok (.ireturn, 1) := by decide +kernel
theorem dX2_copyUnused_0 : decode cX2_copyUnused 0 = .ok (.aload_n 0, 1) := by decide +kernel
theorem dX2_copyUnused_1 : decode cX2_copyUnused 1 = .ok (.iconst 0, 1) := by decide +kernel
theorem dX2_copyUnused_2 : decode cX2_copyUnused 2 = .ok (.putfield 9, 3) := by decide +kernel
theorem dX2_copyUnused_5 : decode cX2_copyUnused 5 = .ok (.iconst 0, 1) := by decide +kernel
theorem dX2_copyUnused_6 : decode cX2_copyUnused 6 = .ok (.istore_n 2, 1) := by decide +kernel
theorem dX2_copyUnused_7 : decode cX2_copyUnused 7 = .ok (.iload_n 2, 1) := by decide +kernel
theorem dX2_copyUnused_8 : decode cX2_copyUnused 8 = .ok (.aload_n 1, 1) := by decide +kernel
theorem dX2_copyUnused_9 : decode cX2_copyUnused 9 = .ok (.getfield 9, 3) := by decide +kernel
theorem dX2_copyUnused_12 : decode cX2_copyUnused 12 = .ok (.if_icmp .ge 38, 3) := by decide +kernel
theorem dX2_copyUnused_15 : decode cX2_copyUnused 15 = .ok (.aload_n 0, 1) := by decide +kernel
theorem dX2_copyUnused_16 : decode cX2_copyUnused 16 = .ok (.aload_n 1, 1) := by decide +kernel
theorem dX2_copyUnused_17 : decode cX2_copyUnused 17 = .ok (.getfield 15, 3) := by decide +kernel
theorem dX2_copyUnused_20 : decode cX2_copyUnused 20 = .ok (.iload_n 2, 1) := by decide +kernel
theorem dX2_copyUnused_21 : decode cX2_copyUnused 21 = .ok (.iaload, 1) := by decide +kernel
theorem dX2_copyUnused_22 : decode cX2_copyUnused 22 = .ok (.aload_n 1, 1) := by decide +kernel
theorem dX2_copyUnused_23 : decode cX2_copyUnused 23 = .ok (.getfield 19, 3) := by decide +kernel
theorem dX2_copyUnused_26 : decode cX2_copyUnused 26 = .ok (.iload_n 2, 1) := by decide +kernel
theorem dX2_copyUnused_27 : decode cX2_copyUnused 27 = .ok (.iaload, 1) := by decide +kernel
theorem dX2_copyUnused_28 : decode cX2_copyUnused 28 = .ok (.invokevirtual 35, 3) := by decide +kernel
theorem dX2_copyUnused_31 : decode cX2_copyUnused 31 = .ok (.pop, 1) := by decide +kernel
theorem dX2_copyUnused_32 : decode cX2_copyUnused 32 = .ok (.aload_n 0, 1) := by decide +kernel
theorem dX2_copyUnused_33 : decode cX2_copyUnused 33 = .ok (.getfield 22, 3) := by decide +kernel
theorem dX2_copyUnused_36 : decode cX2_copyUnused 36 = .ok (.iload_n 2, 1) := by decide +kernel
theorem dX2_copyUnused_37 : decode cX2_copyUnused 37 = .ok (.aload_n 1, 1) := by decide +kernel
theorem dX2_copyUnused_38 : decode cX2_copyUnused 38 = .ok (.getfield 22, 3) := by decide +kernel
theorem dX2_copyUnused_41 : decode cX2_copyUnused 41 = .ok (.iload_n 2, 1) := by decide +kernel
theorem dX2_copyUnused_42 : decode cX2_copyUnused 42 = .ok (.baload, 1) := by decide +kernel
theorem dX2_copyUnused_43 : decode cX2_copyUnused 43 = .ok (.bastore, 1) := by decide +kernel
theorem dX2_copyUnused_44 : decode cX2_copyUnused 44 = .ok (.iinc 2 1, 3) := by decide +kernel
theorem dX2_copyUnused_47 : decode cX2_copyUnused 47 = .ok (.goto (-40), 3) := by decide +kernel
theorem dX2_copyUnused_50 : decode cX2_copyUnused 50 = .ok (.return_, 1) := by decide +kernel
theorem dX2_hasFreeSlot_0 : decode cX2_hasFreeSlot 0 = .ok (.aload_n 0, 1) := by decide +kernel
theorem dX2_hasFreeSlot_1 : decode cX2_hasFreeSlot 1 = .ok (.getfield 22, 3) := by decide +kernel
theorem dX2_hasFreeSlot_4 : decode cX2_hasFreeSlot 4 = .ok (.iload_n 1, 1) := by decide +kernel
theorem dX2_hasFreeSlot_5 : decode cX2_hasFreeSlot 5 = .ok (.baload, 1) := by decide +kernel
theorem dX2_hasFreeSlot_6 : decode cX2_hasFreeSlot 6 = .ok (.ifCond .eq 22, 3) := by decide +kernel
theorem dX2_hasFreeSlot_9 : decode cX2_hasFreeSlot 9 = .ok (.aload_n 0, 1) := by decide +kernel
theorem dX2_hasFreeSlot_10 : decode cX2_hasFreeSlot 10 = .ok (.getfield 26, 3) := by decide +kernel
theorem dX2_hasFreeSlot_13 : decode cX2_hasFreeSlot 13 = .ok (.iload_n 1, 1) := by decide +kernel
theorem dX2_hasFreeSlot_14 : decode cX2_hasFreeSlot 14 = .ok (.iaload, 1) := by decide +kernel
theorem dX2_hasFreeSlot_15 : decode cX2_hasFreeSlot 15 = .ok (.aload_n 0, 1) := by decide +kernel
theorem dX2_hasFreeSlot_16 : decode cX2_hasFreeSlot 16 = .ok (.getfield 19, 3) := by decide +kernel
theorem dX2_hasFreeSlot_19 : decode cX2_hasFreeSlot 19 = .ok (.iload_n 1, 1) := by decide +kernel
theorem dX2_hasFreeSlot_20 : decode cX2_hasFreeSlot 20 = .ok (.iaload, 1) := by decide +kernel
theorem dX2_hasFreeSlot_21 : decode cX2_hasFreeSlot 21 = .ok (.if_icmp .ge 7, 3) := by decide +kernel
theorem dX2_hasFreeSlot_24 : decode cX2_hasFreeSlot 24 = .ok (.iconst 1, 1) := by decide +kernel
theorem dX2_hasFreeSlot_25 : decode cX2_hasFreeSlot 25 = .ok (.goto 4, 3) := by decide +kernel
theorem dX2_hasFreeSlot_28 : decode cX2_hasFreeSlot 28 = .ok (.iconst 0, 1) := by decide +kernel
theorem dX2_hasFreeSlot_29 : decode cX2_hasFreeSlot 29 = .ok (.ireturn, 1) := by decide +kernel
theorem dX2_score_0 : decode cX2_score 0 = .ok (.aload_n 0, 1) := by decide +kernel
theorem dX2_score_1 : decode cX2_score 1 = .ok (.getfield 32, 3) := by decide +kernel
theorem dX2_score_4 : decode cX2_score 4 = .ok (.iload_n 1, 1) := by decide +kernel
theorem dX2_score_5 : decode cX2_score 5 = .ok (.iaload, 1) := by decide +kernel
theorem dX2_score_6 : decode cX2_score 6 = .ok (.ifCond .le 19, 3) := by decide +kernel
theorem dX2_score_9 : decode cX2_score 9 = .ok (.aload_n 0, 1) := by decide +kernel
theorem dX2_score_10 : decode cX2_score 10 = .ok (.getfield 29, 3) := by decide +kernel
theorem dX2_score_13 : decode cX2_score 13 = .ok (.iload_n 1, 1) := by decide +kernel
theorem dX2_score_14 : decode cX2_score 14 = .ok (.iaload, 1) := by decide +kernel
theorem dX2_score_15 : decode cX2_score 15 = .ok (.aload_n 0, 1) := by decide +kernel
theorem dX2_score_16 : decode cX2_score 16 = .ok (.getfield 32, 3) := by decide +kernel
theorem dX2_score_19 : decode cX2_score 19 = .ok (.iload_n 1, 1) := by decide +kernel
theorem dX2_score_20 : decode cX2_score 20 = .ok (.iaload, 1) := by decide +kernel
theorem dX2_score_21 : decode cX2_score 21 = .ok (.idiv, 1) := by decide +kernel
theorem dX2_score_22 : decode cX2_score 22 = .ok (.goto 4, 3) := by decide +kernel
theorem dX2_score_25 : decode cX2_score 25 = .ok (.iconst 0, 1) := by decide +kernel
theorem dX2_score_26 : decode cX2_score 26 = .ok (.ireturn, 1) := by decide +kernel
theorem dX2_isSlow_0 : decode cX2_isSlow 0 = .ok (.aload_n 0, 1) := by decide +kernel
theorem dX2_isSlow_1 : decode cX2_isSlow 1 = .ok (.getfield 32, 3) := by decide +kernel
theorem dX2_isSlow_4 : decode cX2_isSlow 4 = .ok (.iload_n 1, 1) := by decide +kernel
theorem dX2_isSlow_5 : decode cX2_isSlow 5 = .ok (.iaload, 1) := by decide +kernel
theorem dX2_isSlow_6 : decode cX2_isSlow 6 = .ok (.ifCond .le 24, 3) := by decide +kernel
theorem dX2_isSlow_9 : decode cX2_isSlow 9 = .ok (.aload_n 0, 1) := by decide +kernel
theorem dX2_isSlow_10 : decode cX2_isSlow 10 = .ok (.iload_n 1, 1) := by decide +kernel
theorem dX2_isSlow_11 : decode cX2_isSlow 11 = .ok (.invokevirtual 39, 3) := by decide +kernel
theorem dX2_isSlow_14 : decode cX2_isSlow 14 = .ok (.bipush 100, 2) := by decide +kernel
theorem dX2_isSlow_16 : decode cX2_isSlow 16 = .ok (.imul, 1) := by decide +kernel
theorem dX2_isSlow_17 : decode cX2_isSlow 17 = .ok (.aload_n 0, 1) := by decide +kernel
theorem dX2_isSlow_18 : decode cX2_isSlow 18 = .ok (.invokevirtual 43, 3) := by decide +kernel
theorem dX2_isSlow_21 : decode cX2_isSlow 21 = .ok (.iload_n 2, 1) := by decide +kernel
theorem dX2_isSlow_22 : decode cX2_isSlow 22 = .ok (.imul, 1) := by decide +kernel
theorem dX2_isSlow_23 : decode cX2_isSlow 23 = .ok (.if_icmp .ge 7, 3) := by decide +kernel
theorem dX2_isSlow_26 : decode cX2_isSlow 26 = .ok (.iconst 1, 1) := by decide +kernel
theorem dX2_isSlow_27 : decode cX2_isSlow 27 = .ok (.goto 4, 3) := by decide +kernel
theorem dX2_isSlow_30 : decode cX2_isSlow 30 = .ok (.iconst 0, 1) := by decide +kernel
theorem dX2_isSlow_31 : decode cX2_isSlow 31 = .ok (.ireturn, 1) := by decide +kernel
theorem dX2_meanScore_0 : decode cX2_meanScore 0 = .ok (.iconst 0, 1) := by decide +kernel
theorem dX2_meanScore_1 : decode cX2_meanScore 1 = .ok (.istore_n 1, 1) := by decide +kernel
theorem dX2_meanScore_2 : decode cX2_meanScore 2 = .ok (.iconst 0, 1) := by decide +kernel
theorem dX2_meanScore_3 : decode cX2_meanScore 3 = .ok (.istore_n 2, 1) := by decide +kernel
theorem dX2_meanScore_4 : decode cX2_meanScore 4 = .ok (.iconst 0, 1) := by decide +kernel
theorem dX2_meanScore_5 : decode cX2_meanScore 5 = .ok (.istore_n 3, 1) := by decide +kernel
theorem dX2_meanScore_6 : decode cX2_meanScore 6 = .ok (.iload_n 3, 1) := by decide +kernel
theorem dX2_meanScore_7 : decode cX2_meanScore 7 = .ok (.aload_n 0, 1) := by decide +kernel
theorem dX2_meanScore_8 : decode cX2_meanScore 8 = .ok (.getfield 9, 3) := by decide +kernel
theorem dX2_meanScore_11 : decode cX2_meanScore 11 = .ok (.if_icmp .ge 38, 3) := by decide +kernel
theorem dX2_meanScore_14 : decode cX2_meanScore 14 = .ok (.aload_n 0, 1) := by decide +kernel
theorem dX2_meanScore_15 : decode cX2_meanScore 15 = .ok (.getfield 22, 3) := by decide +kernel
theorem dX2_meanScore_18 : decode cX2_meanScore 18 = .ok (.iload_n 3, 1) := by decide +kernel
theorem dX2_meanScore_19 : decode cX2_meanScore 19 = .ok (.baload, 1) := by decide +kernel
theorem dX2_meanScore_20 : decode cX2_meanScore 20 = .ok (.ifCond .eq 23, 3) := by decide +kernel
theorem dX2_meanScore_23 : decode cX2_meanScore 23 = .ok (.aload_n 0, 1) := by decide +kernel
theorem dX2_meanScore_24 : decode cX2_meanScore 24 = .ok (.getfield 32, 3) := by decide +kernel
theorem dX2_meanScore_27 : decode cX2_meanScore 27 = .ok (.iload_n 3, 1) := by decide +kernel
theorem dX2_meanScore_28 : decode cX2_meanScore 28 = .ok (.iaload, 1) := by decide +kernel
theorem dX2_meanScore_29 : decode cX2_meanScore 29 = .ok (.ifCond .le 14, 3) := by decide +kernel
theorem dX2_meanScore_32 : decode cX2_meanScore 32 = .ok (.iload_n 1, 1) := by decide +kernel
theorem dX2_meanScore_33 : decode cX2_meanScore 33 = .ok (.aload_n 0, 1) := by decide +kernel
theorem dX2_meanScore_34 : decode cX2_meanScore 34 = .ok (.iload_n 3, 1) := by decide +kernel
theorem dX2_meanScore_35 : decode cX2_meanScore 35 = .ok (.invokevirtual 39, 3) := by decide +kernel
theorem dX2_meanScore_38 : decode cX2_meanScore 38 = .ok (.iadd, 1) := by decide +kernel
theorem dX2_meanScore_39 : decode cX2_meanScore 39 = .ok (.istore_n 1, 1) := by decide +kernel
theorem dX2_meanScore_40 : decode cX2_meanScore 40 = .ok (.iinc 2 1, 3) := by decide +kernel
theorem dX2_meanScore_43 : decode cX2_meanScore 43 = .ok (.iinc 3 1, 3) := by decide +kernel
theorem dX2_meanScore_46 : decode cX2_meanScore 46 = .ok (.goto (-40), 3) := by decide +kernel
theorem dX2_meanScore_49 : decode cX2_meanScore 49 = .ok (.iload_n 2, 1) := by decide +kernel
theorem dX2_meanScore_50 : decode cX2_meanScore 50 = .ok (.ifCond .le 9, 3) := by decide +kernel
theorem dX2_meanScore_53 : decode cX2_meanScore 53 = .ok (.iload_n 1, 1) := by decide +kernel
theorem dX2_meanScore_54 : decode cX2_meanScore 54 = .ok (.iload_n 2, 1) := by decide +kernel
theorem dX2_meanScore_55 : decode cX2_meanScore 55 = .ok (.idiv, 1) := by decide +kernel
theorem dX2_meanScore_56 : decode cX2_meanScore 56 = .ok (.goto 4, 3) := by decide +kernel
theorem dX2_meanScore_59 : decode cX2_meanScore 59 = .ok (.iconst 0, 1) := by decide +kernel
theorem dX2_meanScore_60 : decode cX2_meanScore 60 = .ok (.ireturn, 1) := by decide +kernel
theorem dX3_init_0 : decode cX3_init 0 = .ok (.aload_n 0, 1) := by decide +kernel
theorem dX3_init_1 : decode cX3_init 1 = .ok (.invokespecial 3, 3) := by decide +kernel
theorem dX3_init_4 : decode cX3_init 4 = .ok (.aload_n 0, 1) := by decide +kernel
theorem dX3_init_5 : decode cX3_init 5 = .ok (.iconst 2, 1) := by decide +kernel
theorem dX3_init_6 : decode cX3_init 6 = .ok (.putfield 9, 3) := by decide +kernel
theorem dX3_init_9 : decode cX3_init 9 = .ok (.aload_n 0, 1) := by decide +kernel
theorem dX3_init_10 : decode cX3_init 10 = .ok (.iconst 2, 1) := by decide +kernel
theorem dX3_init_11 : decode cX3_init 11 = .ok (.putfield 15, 3) := by decide +kernel
theorem dX3_init_14 : decode cX3_init 14 = .ok (.aload_n 0, 1) := by decide +kernel
theorem dX3_init_15 : decode cX3_init 15 = .ok (.iconst 3, 1) := by decide +kernel
theorem dX3_init_16 : decode cX3_init 16 = .ok (.putfield 18, 3) := by decide +kernel
theorem dX3_init_19 : decode cX3_init 19 = .ok (.aload_n 0, 1) := by decide +kernel
theorem dX3_init_20 : decode cX3_init 20 = .ok (.bipush 75, 2) := by decide +kernel
theorem dX3_init_22 : decode cX3_init 22 = .ok (.putfield 21, 3) := by decide +kernel
theorem dX3_init_25 : decode cX3_init 25 = .ok (.aload_n 0, 1) := by decide +kernel
theorem dX3_init_26 : decode cX3_init 26 = .ok (.bipush 50, 2) := by decide +kernel
theorem dX3_init_28 : decode cX3_init 28 = .ok (.putfield 24, 3) := by decide +kernel
theorem dX3_init_31 : decode cX3_init 31 = .ok (.return_, 1) := by decide +kernel
theorem dX3_copyWithPolicy_0 : decode cX3_copyWithPolicy 0 = .ok (.aload_n 0, 1) := by decide +kernel
theorem dX3_copyWithPolicy_1 : decode cX3_copyWithPolicy 1 = .ok (.iload_n 2, 1) := by decide +kernel
theorem dX3_copyWithPolicy_2 : decode cX3_copyWithPolicy 2 = .ok (.putfield 9, 3) := by decide +kernel
theorem dX3_copyWithPolicy_5 : decode cX3_copyWithPolicy 5 = .ok (.aload_n 0, 1) := by decide +kernel
theorem dX3_copyWithPolicy_6 : decode cX3_copyWithPolicy 6 = .ok (.aload_n 1, 1) := by decide +kernel
theorem dX3_copyWithPolicy_7 : decode cX3_copyWithPolicy 7 = .ok (.getfield 15, 3) := by decide +kernel
theorem dX3_copyWithPolicy_10 : decode cX3_copyWithPolicy 10 = .ok (.putfield 15, 3) := by decide +kernel
theorem dX3_copyWithPolicy_13 : decode cX3_copyWithPolicy 13 = .ok (.aload_n 0, 1) := by decide +kernel
theorem dX3_copyWithPolicy_14 : decode cX3_copyWithPolicy 14 = .ok (.aload_n 1, 1) := by decide +kernel
theorem dX3_copyWithPolicy_15 : decode cX3_copyWithPolicy 15 = .ok (.getfield 18, 3) := by decide +kernel
theorem dX3_copyWithPolicy_18 : decode cX3_copyWithPolicy 18 = .ok (.putfield 18, 3) := by decide +kernel
theorem dX3_copyWithPolicy_21 : decode cX3_copyWithPolicy 21 = .ok (.aload_n 0, 1) := by decide +kernel
theorem dX3_copyWithPolicy_22 : decode cX3_copyWithPolicy 22 = .ok (.aload_n 1, 1) := by decide +kernel
theorem dX3_copyWithPolicy_23 : decode cX3_copyWithPolicy 23 = .ok (.getfield 21, 3) := by decide +kernel
theorem dX3_copyWithPolicy_26 : decode cX3_copyWithPolicy 26 = .ok (.putfield 21, 3) := by decide +kernel
theorem dX3_copyWithPolicy_29 : decode cX3_copyWithPolicy 29 = .ok (.aload_n 0, 1) := by decide +kernel
theorem dX3_copyWithPolicy_30 : decode cX3_copyWithPolicy 30 = .ok (.aload_n 1, 1) := by decide +kernel
theorem dX3_copyWithPolicy_31 : decode cX3_copyWithPolicy 31 = .ok (.getfield 24, 3) := by decide +kernel
theorem dX3_copyWithPolicy_34 : decode cX3_copyWithPolicy 34 = .ok (.putfield 24, 3) := by decide +kernel
theorem dX3_copyWithPolicy_37 : decode cX3_copyWithPolicy 37 = .ok (.return_, 1) := by decide +kernel
theorem dX4_init_0 : decode cX4_init 0 = .ok (.aload_n 0, 1) := by decide +kernel
theorem dX4_init_1 : decode cX4_init 1 = .ok (.invokespecial 3, 3) := by decide +kernel
theorem dX4_init_4 : decode cX4_init 4 = .ok (.aload_n 0, 1) := by decide +kernel
theorem dX4_init_5 : decode cX4_init 5 = .ok (.iconst 0, 1) := by decide +kernel
theorem dX4_init_6 : decode cX4_init 6 = .ok (.putfield 9, 3) := by decide +kernel
theorem dX4_init_9 : decode cX4_init 9 = .ok (.aload_n 0, 1) := by decide +kernel
theorem dX4_init_10 : decode cX4_init 10 = .ok (.bipush 24, 2) := by decide +kernel
theorem dX4_init_12 : decode cX4_init 12 = .ok (.newarray .int, 2) := by decide +kernel
theorem dX4_init_14 : decode cX4_init 14 = .ok (.putfield 15, 3) := by decide +kernel
theorem dX4_init_17 : decode cX4_init 17 = .ok (.aload_n 0, 1) := by decide +kernel
theorem dX4_init_18 : decode cX4_init 18 = .ok (.bipush 24, 2) := by decide +kernel
theorem dX4_init_20 : decode cX4_init 20 = .ok (.newarray .int, 2) := by decide +kernel
theorem dX4_init_22 : decode cX4_init 22 = .ok (.putfield 19, 3) := by decide +kernel
theorem dX4_init_25 : decode cX4_init 25 = .ok (.aload_n 0, 1) := by decide +kernel
theorem dX4_init_26 : decode cX4_init 26 = .ok (.bipush 24, 2) := by decide +kernel
theorem dX4_init_28 : decode cX4_init 28 = .ok (.newarray .int, 2) := by decide +kernel
theorem dX4_init_30 : decode cX4_init 30 = .ok (.putfield 22, 3) := by decide +kernel
theorem dX4_init_33 : decode cX4_init 33 = .ok (.aload_n 0, 1) := by decide +kernel
theorem dX4_init_34 : decode cX4_init 34 = .ok (.bipush 24, 2) := by decide +kernel
theorem dX4_init_36 : decode cX4_init 36 = .ok (.newarray .int, 2) := by decide +kernel
theorem dX4_init_38 : decode cX4_init 38 = .ok (.putfield 25, 3) := by decide +kernel
theorem dX4_init_41 : decode cX4_init 41 = .ok (.return_, 1) := by decide +kernel
theorem dX4_has_0 : decode cX4_has 0 = .ok (.iload_n 1, 1) := by decide +kernel
theorem dX4_has_1 : decode cX4_has 1 = .ok (.ifCond .lt 15, 3) := by decide +kernel
theorem dX4_has_4 : decode cX4_has 4 = .ok (.iload_n 1, 1) := by decide +kernel
theorem dX4_has_5 : decode cX4_has 5 = .ok (.aload_n 0, 1) := by decide +kernel
theorem dX4_has_6 : decode cX4_has 6 = .ok (.getfield 9, 3) := by decide +kernel
theorem dX4_has_9 : decode cX4_has 9 = .ok (.if_icmp .ge 7, 3) := by decide +kernel
theorem dX4_has_12 : decode cX4_has 12 = .ok (.iconst 1, 1) := by decide +kernel
theorem dX4_has_13 : decode cX4_has 13 = .ok (.goto 4, 3) := by decide +kernel
theorem dX4_has_16 : decode cX4_has 16 = .ok (.iconst 0, 1) := by decide +kernel
theorem dX4_has_17 : decode cX4_has 17 = .ok (.ireturn, 1) := by decide +kernel
theorem dX4_add_0 : decode cX4_add 0 = .ok (.aload_n 0, 1) := by decide +kernel
theorem dX4_add_1 : decode cX4_add 1 = .ok (.getfield 9, 3) := by decide +kernel
theorem dX4_add_4 : decode cX4_add 4 = .ok (.bipush 24, 2) := by decide +kernel
theorem dX4_add_6 : decode cX4_add 6 = .ok (.if_icmp .lt 6, 3) := by decide +kernel
theorem dX4_add_9 : decode cX4_add 9 = .ok (.bipush (-5), 2) := by decide +kernel
theorem dX4_add_11 : decode cX4_add 11 = .ok (.ireturn, 1) := by decide +kernel
theorem dX4_add_12 : decode cX4_add 12 = .ok (.aload_n 0, 1) := by decide +kernel
theorem dX4_add_13 : decode cX4_add 13 = .ok (.getfield 9, 3) := by decide +kernel
theorem dX4_add_16 : decode cX4_add 16 = .ok (.istore_n 2, 1) := by decide +kernel
theorem dX4_add_17 : decode cX4_add 17 = .ok (.aload_n 0, 1) := by decide +kernel
theorem dX4_add_18 : decode cX4_add 18 = .ok (.dup, 1) := by decide +kernel
theorem dX4_add_19 : decode cX4_add 19 = .ok (.getfield 9, 3) := by decide +kernel
theorem dX4_add_22 : decode cX4_add 22 = .ok (.iconst 1, 1) := by decide +kernel
theorem dX4_add_23 : decode cX4_add 23 = .ok (.iadd, 1) := by decide +kernel
theorem dX4_add_24 : decode cX4_add 24 = .ok (.putfield 9, 3) := by decide +kernel
theorem dX4_add_27 : decode cX4_add 27 = .ok (.aload_n 0, 1) := by decide +kernel
theorem dX4_add_28 : decode cX4_add 28 = .ok (.getfield 15, 3) := by decide +kernel
theorem dX4_add_31 : decode cX4_add 31 = .ok (.iload_n 2, 1) := by decide +kernel
theorem dX4_add_32 : decode cX4_add 32 = .ok (.iload_n 1, 1) := by decide +kernel
theorem dX4_add_33 : decode cX4_add 33 = .ok (.iastore, 1) := by decide +kernel
theorem dX4_add_34 : decode cX4_add 34 = .ok (.aload_n 0, 1) := by decide +kernel
theorem dX4_add_35 : decode cX4_add 35 = .ok (.getfield 19, 3) := by decide +kernel
theorem dX4_add_38 : decode cX4_add 38 = .ok (.iload_n 2, 1) := by decide +kernel
theorem dX4_add_39 : decode cX4_add 39 = .ok (.iconst 0, 1) := by decide +kernel
theorem dX4_add_40 : decode cX4_add 40 = .ok (.iastore, 1) := by decide +kernel
theorem dX4_add_41 : decode cX4_add 41 = .ok (.aload_n 0, 1) := by decide +kernel
theorem dX4_add_42 : decode cX4_add 42 = .ok (.getfield 22, 3) := by decide +kernel
theorem dX4_add_45 : decode cX4_add 45 = .ok (.iload_n 2, 1) := by decide +kernel
theorem dX4_add_46 : decode cX4_add 46 = .ok (.bipush (-6), 2) := by decide +kernel
theorem dX4_add_48 : decode cX4_add 48 = .ok (.iastore, 1) := by decide +kernel
theorem dX4_add_49 : decode cX4_add 49 = .ok (.aload_n 0, 1) := by decide +kernel
theorem dX4_add_50 : decode cX4_add 50 = .ok (.getfield 25, 3) := by decide +kernel
theorem dX4_add_53 : decode cX4_add 53 = .ok (.iload_n 2, 1) := by decide +kernel
theorem dX4_add_54 : decode cX4_add 54 = .ok (.bipush (-6), 2) := by decide +kernel
theorem dX4_add_56 : decode cX4_add 56 = .ok (.iastore, 1) := by decide +kernel
theorem dX4_add_57 : decode cX4_add 57 = .ok (.iload_n 2, 1) := by decide +kernel
theorem dX4_add_58 : decode cX4_add 58 = .ok (.ireturn, 1) := by decide +kernel
theorem dX4_copyUnused_0 : decode cX4_copyUnused 0 = .ok (.aload_n 0, 1) := by decide +kernel
theorem dX4_copyUnused_1 : decode cX4_copyUnused 1 = .ok (.iconst 0, 1) := by decide +kernel
theorem dX4_copyUnused_2 : decode cX4_copyUnused 2 = .ok (.putfield 9, 3) := by decide +kernel
theorem dX4_copyUnused_5 : decode cX4_copyUnused 5 = .ok (.iconst 0, 1) := by decide +kernel
theorem dX4_copyUnused_6 : decode cX4_copyUnused 6 = .ok (.istore_n 2, 1) := by decide +kernel
theorem dX4_copyUnused_7 : decode cX4_copyUnused 7 = .ok (.iload_n 2, 1) := by decide +kernel
theorem dX4_copyUnused_8 : decode cX4_copyUnused 8 = .ok (.aload_n 1, 1) := by decide +kernel
theorem dX4_copyUnused_9 : decode cX4_copyUnused 9 = .ok (.getfield 9, 3) := by decide +kernel
theorem dX4_copyUnused_12 : decode cX4_copyUnused 12 = .ok (.if_icmp .ge 20, 3) := by decide +kernel
theorem dX4_copyUnused_15 : decode cX4_copyUnused 15 = .ok (.aload_n 0, 1) := by decide +kernel
theorem dX4_copyUnused_16 : decode cX4_copyUnused 16 = .ok (.aload_n 1, 1) := by decide +kernel
theorem dX4_copyUnused_17 : decode cX4_copyUnused 17 = .ok (.getfield 15, 3) := by decide +kernel
theorem dX4_copyUnused_20 : decode cX4_copyUnused 20 = .ok (.iload_n 2, 1) := by decide +kernel
theorem dX4_copyUnused_21 : decode cX4_copyUnused 21 = .ok (.iaload, 1) := by decide +kernel
theorem dX4_copyUnused_22 : decode cX4_copyUnused 22 = .ok (.invokevirtual 28, 3) := by decide +kernel
theorem dX4_copyUnused_25 : decode cX4_copyUnused 25 = .ok (.pop, 1) := by decide +kernel
theorem dX4_copyUnused_26 : decode cX4_copyUnused 26 = .ok (.iinc 2 1, 3) := by decide +kernel
theorem dX4_copyUnused_29 : decode cX4_copyUnused 29 = .ok (.goto (-22), 3) := by decide +kernel
theorem dX4_copyUnused_32 : decode cX4_copyUnused 32 = .ok (.return_, 1) := by decide +kernel
theorem dX4_stateOf_0 : decode cX4_stateOf 0 = .ok (.aload_n 0, 1) := by decide +kernel
theorem dX4_stateOf_1 : decode cX4_stateOf 1 = .ok (.getfield 22, 3) := by decide +kernel
theorem dX4_stateOf_4 : decode cX4_stateOf 4 = .ok (.iload_n 1, 1) := by decide +kernel
theorem dX4_stateOf_5 : decode cX4_stateOf 5 = .ok (.iaload, 1) := by decide +kernel
theorem dX4_stateOf_6 : decode cX4_stateOf 6 = .ok (.bipush (-6), 2) := by decide +kernel
theorem dX4_stateOf_8 : decode cX4_stateOf 8 = .ok (.if_icmp .eq 5, 3) := by decide +kernel
theorem dX4_stateOf_11 : decode cX4_stateOf 11 = .ok (.iconst 2, 1) := by decide +kernel
theorem dX4_stateOf_12 : decode cX4_stateOf 12 = .ok (.ireturn, 1) := by decide +kernel
theorem dX4_stateOf_13 : decode cX4_stateOf 13 = .ok (.aload_n 0, 1) := by decide +kernel
theorem dX4_stateOf_14 : decode cX4_stateOf 14 = .ok (.getfield 19, 3) := by decide +kernel
theorem dX4_stateOf_17 : decode cX4_stateOf 17 = .ok (.iload_n 1, 1) := by decide +kernel
theorem dX4_stateOf_18 : decode cX4_stateOf 18 = .ok (.iaload, 1) := by decide +kernel
theorem dX4_stateOf_19 : decode cX4_stateOf 19 = .ok (.ifCond .le 7, 3) := by decide +kernel
theorem dX4_stateOf_22 : decode cX4_stateOf 22 = .ok (.iconst 1, 1) := by decide +kernel
theorem dX4_stateOf_23 : decode cX4_stateOf 23 = .ok (.goto 4, 3) := by decide +kernel
theorem dX4_stateOf_26 : decode cX4_stateOf 26 = .ok (.iconst 0, 1) := by decide +kernel
theorem dX4_stateOf_27 : decode cX4_stateOf 27 = .ok (.ireturn, 1) := by decide +kernel
theorem dX4_firstWaiting_0 : decode cX4_firstWaiting 0 = .ok (.iconst 0, 1) := by decide +kernel
theorem dX4_firstWaiting_1 : decode cX4_firstWaiting 1 = .ok (.istore_n 1, 1) := by decide +kernel
theorem dX4_firstWaiting_2 : decode cX4_firstWaiting 2 = .ok (.iload_n 1, 1) := by decide +kernel
theorem dX4_firstWaiting_3 : decode cX4_firstWaiting 3 = .ok (.aload_n 0, 1) := by decide +kernel
theorem dX4_firstWaiting_4 : decode cX4_firstWaiting 4 = .ok (.getfield 9, 3) := by decide +kernel
theorem dX4_firstWaiting_7 : decode cX4_firstWaiting 7 = .ok (.if_icmp .ge 19, 3) := by decide +kernel
theorem dX4_firstWaiting_10 : decode cX4_firstWaiting 10 = .ok (.aload_n 0, 1) := by decide +kernel
theorem dX4_firstWaiting_11 : decode cX4_firstWaiting 11 = .ok (.iload_n 1, 1) := by decide +kernel
theorem dX4_firstWaiting_12 : decode cX4_firstWaiting 12 = .ok (.invokevirtual 32, 3) := by decide +kernel
theorem dX4_firstWaiting_15 : decode cX4_firstWaiting 15 = .ok (.ifCond .ne 5, 3) := by decide +kernel
theorem dX4_firstWaiting_18 : decode cX4_firstWaiting 18 = .ok (.iload_n 1, 1) := by decide +kernel
theorem dX4_firstWaiting_19 : decode cX4_firstWaiting 19 = .ok (.ireturn, 1) := by decide +kernel
theorem dX4_firstWaiting_20 : decode cX4_firstWaiting 20 = .ok (.iinc 1 1, 3) := by decide +kernel
theorem dX4_firstWaiting_23 : decode cX4_firstWaiting 23 = .ok (.goto (-21), 3) := by decide +kernel
theorem dX4_firstWaiting_26 : decode cX4_firstWaiting 26 = .ok (.bipush (-6), 2) := by decide +kernel
theorem dX4_firstWaiting_28 : decode cX4_firstWaiting 28 = .ok (.ireturn, 1) := by decide +kernel
theorem dX4_lastFinish_0 : decode cX4_lastFinish 0 = .ok (.bipush (-6), 2) := by decide +kernel
theorem dX4_lastFinish_2 : decode cX4_lastFinish 2 = .ok (.istore_n 1, 1) := by decide +kernel
theorem dX4_lastFinish_3 : decode cX4_lastFinish 3 = .ok (.iconst 0, 1) := by decide +kernel
theorem dX4_lastFinish_4 : decode cX4_lastFinish 4 = .ok (.istore_n 2, 1) := by decide +kernel
theorem dX4_lastFinish_5 : decode cX4_lastFinish 5 = .ok (.iload_n 2, 1) := by decide +kernel
theorem dX4_lastFinish_6 : decode cX4_lastFinish 6 = .ok (.aload_n 0, 1) := by decide +kernel
theorem dX4_lastFinish_7 : decode cX4_lastFinish 7 = .ok (.getfield 9, 3) := by decide +kernel
theorem dX4_lastFinish_10 : decode cX4_lastFinish 10 = .ok (.if_icmp .ge 34, 3) := by decide +kernel
theorem dX4_lastFinish_13 : decode cX4_lastFinish 13 = .ok (.aload_n 0, 1) := by decide +kernel
theorem dX4_lastFinish_14 : decode cX4_lastFinish 14 = .ok (.getfield 22, 3) := by decide +kernel
theorem dX4_lastFinish_17 : decode cX4_lastFinish 17 = .ok (.iload_n 2, 1) := by decide +kernel
theorem dX4_lastFinish_18 : decode cX4_lastFinish 18 = .ok (.iaload, 1) := by decide +kernel
theorem dX4_lastFinish_19 : decode cX4_lastFinish 19 = .ok (.bipush (-6), 2) := by decide +kernel
theorem dX4_lastFinish_21 : decode cX4_lastFinish 21 = .ok (.if_icmp .ne 6, 3) := by decide +kernel
theorem dX4_lastFinish_24 : decode cX4_lastFinish 24 = .ok (.bipush (-6), 2) := by decide +kernel
theorem dX4_lastFinish_26 : decode cX4_lastFinish 26 = .ok (.ireturn, 1) := by decide +kernel
theorem dX4_lastFinish_27 : decode cX4_lastFinish 27 = .ok (.iload_n 1, 1) := by decide +kernel
theorem dX4_lastFinish_28 : decode cX4_lastFinish 28 = .ok (.aload_n 0, 1) := by decide +kernel
theorem dX4_lastFinish_29 : decode cX4_lastFinish 29 = .ok (.getfield 25, 3) := by decide +kernel
theorem dX4_lastFinish_32 : decode cX4_lastFinish 32 = .ok (.iload_n 2, 1) := by decide +kernel
theorem dX4_lastFinish_33 : decode cX4_lastFinish 33 = .ok (.iaload, 1) := by decide +kernel
theorem dX4_lastFinish_34 : decode cX4_lastFinish 34 = .ok (.invokestatic 35, 3) := by decide +kernel
theorem dX4_lastFinish_37 : decode cX4_lastFinish 37 = .ok (.istore_n 1, 1) := by decide +kernel
theorem dX4_lastFinish_38 : decode cX4_lastFinish 38 = .ok (.iinc 2 1, 3) := by decide +kernel
theorem dX4_lastFinish_41 : decode cX4_lastFinish 41 = .ok (.goto (-36), 3) := by decide +kernel
theorem dX4_lastFinish_44 : decode cX4_lastFinish 44 = .ok (.iload_n 1, 1) := by decide +kernel
theorem dX4_lastFinish_45 : decode cX4_lastFinish 45 = .ok (.ireturn, 1) := by decide +kernel
theorem dX5_init_0 : decode cX5_init 0 = .ok (.aload_n 0, 1) := by decide +kernel
theorem dX5_init_1 : decode cX5_init 1 = .ok (.invokespecial 3, 3) := by decide +kernel
theorem dX5_init_4 : decode cX5_init 4 = .ok (.aload_n 0, 1) := by decide +kernel
theorem dX5_init_5 : decode cX5_init 5 = .ok (.new 9, 3) := by decide +kernel
theorem dX5_init_8 : decode cX5_init 8 = .ok (.dup, 1) := by decide +kernel
theorem dX5_init_9 : decode cX5_init 9 = .ok (.invokespecial 11, 3) := by decide +kernel
theorem dX5_init_12 : decode cX5_init 12 = .ok (.putfield 12, 3) := by decide +kernel
theorem dX5_init_15 : decode cX5_init 15 = .ok (.aload_n 0, 1) := by decide +kernel
theorem dX5_init_16 : decode cX5_init 16 = .ok (.new 9, 3) := by decide +kernel
theorem dX5_init_19 : decode cX5_init 19 = .ok (.dup, 1) := by decide +kernel
theorem dX5_init_20 : decode cX5_init 20 = .ok (.invokespecial 11, 3) := by decide +kernel
theorem dX5_init_23 : decode cX5_init 23 = .ok (.putfield 16, 3) := by decide +kernel
theorem dX5_init_26 : decode cX5_init 26 = .ok (.return_, 1) := by decide +kernel
theorem dX5_addNode_0 : decode cX5_addNode 0 = .ok (.iload_n 1, 1) := by decide +kernel
theorem dX5_addNode_1 : decode cX5_addNode 1 = .ok (.iconst 0, 1) := by decide +kernel
theorem dX5_addNode_2 : decode cX5_addNode 2 = .ok (.bipush 100, 2) := by decide +kernel
theorem dX5_addNode_4 : decode cX5_addNode 4 = .ok (.invokestatic 19, 3) := by decide +kernel
theorem dX5_addNode_7 : decode cX5_addNode 7 = .ok (.ifCond .eq 12, 3) := by decide +kernel
theorem dX5_addNode_10 : decode cX5_addNode 10 = .ok (.iload_n 2, 1) := by decide +kernel
theorem dX5_addNode_11 : decode cX5_addNode 11 = .ok (.iconst 1, 1) := by decide +kernel
theorem dX5_addNode_12 : decode cX5_addNode 12 = .ok (.iconst 4, 1) := by decide +kernel
theorem dX5_addNode_13 : decode cX5_addNode 13 = .ok (.invokestatic 19, 3) := by decide +kernel
theorem dX5_addNode_16 : decode cX5_addNode 16 = .ok (.ifCond .ne 6, 3) := by decide +kernel
theorem dX5_addNode_19 : decode cX5_addNode 19 = .ok (.bipush (-4), 2) := by decide +kernel
theorem dX5_addNode_21 : decode cX5_addNode 21 = .ok (.ireturn, 1) := by decide +kernel
theorem dX5_addNode_22 : decode cX5_addNode 22 = .ok (.aload_n 0, 1) := by decide +kernel
theorem dX5_addNode_23 : decode cX5_addNode 23 = .ok (.getfield 12, 3) := by decide +kernel
theorem dX5_addNode_26 : decode cX5_addNode 26 = .ok (.getfield 23, 3) := by decide +kernel
theorem dX5_addNode_29 : decode cX5_addNode 29 = .ok (.iload_n 1, 1) := by decide +kernel
theorem dX5_addNode_30 : decode cX5_addNode 30 = .ok (.iload_n 2, 1) := by decide +kernel
theorem dX5_addNode_31 : decode cX5_addNode 31 = .ok (.invokevirtual 27, 3) := by decide +kernel
theorem dX5_addNode_34 : decode cX5_addNode 34 = .ok (.ireturn, 1) := by decide +kernel
theorem dX5_setSpeed_0 : decode cX5_setSpeed 0 = .ok (.aload_n 0, 1) := by decide +kernel
theorem dX5_setSpeed_1 : decode cX5_setSpeed 1 = .ok (.getfield 12, 3) := by decide +kernel
theorem dX5_setSpeed_4 : decode cX5_setSpeed 4 = .ok (.getfield 23, 3) := by decide +kernel
theorem dX5_setSpeed_7 : decode cX5_setSpeed 7 = .ok (.iload_n 1, 1) := by decide +kernel
theorem dX5_setSpeed_8 : decode cX5_setSpeed 8 = .ok (.invokevirtual 33, 3) := by decide +kernel
theorem dX5_setSpeed_11 : decode cX5_setSpeed 11 = .ok (.ifCond .ne 5, 3) := by decide +kernel
theorem dX5_setSpeed_14 : decode cX5_setSpeed 14 = .ok (.iconst (-1), 1) := by decide +kernel
theorem dX5_setSpeed_15 : decode cX5_setSpeed 15 = .ok (.ireturn, 1) := by decide +kernel
theorem dX5_setSpeed_16 : decode cX5_setSpeed 16 = .ok (.iload_n 2, 1) := by decide +kernel
theorem dX5_setSpeed_17 : decode cX5_setSpeed 17 = .ok (.iconst 0, 1) := by decide +kernel
theorem dX5_setSpeed_18 : decode cX5_setSpeed 18 = .ok (.bipush 100, 2) := by decide +kernel
theorem dX5_setSpeed_20 : decode cX5_setSpeed 20 = .ok (.invokestatic 19, 3) := by decide +kernel
theorem dX5_setSpeed_23 : decode cX5_setSpeed 23 = .ok (.ifCond .ne 6, 3) := by decide +kernel
theorem dX5_setSpeed_26 : decode cX5_setSpeed 26 = .ok (.bipush (-4), 2) := by decide +kernel
theorem dX5_setSpeed_28 : decode cX5_setSpeed 28 = .ok (.ireturn, 1) := by decide +kernel
theorem dX5_setSpeed_29 : decode cX5_setSpeed 29 = .ok (.aload_n 0, 1) := by decide +kernel
theorem dX5_setSpeed_30 : decode cX5_setSpeed 30 = .ok (.getfield 12, 3) := by decide +kernel
theorem dX5_setSpeed_33 : decode cX5_setSpeed 33 = .ok (.getfield 23, 3) := by decide +kernel
theorem dX5_setSpeed_36 : decode cX5_setSpeed 36 = .ok (.getfield 37, 3) := by decide +kernel
theorem dX5_setSpeed_39 : decode cX5_setSpeed 39 = .ok (.iload_n 1, 1) := by decide +kernel
theorem dX5_setSpeed_40 : decode cX5_setSpeed 40 = .ok (.iaload, 1) := by decide +kernel
theorem dX5_setSpeed_41 : decode cX5_setSpeed 41 = .ok (.istore_n 3, 1) := by decide +kernel
theorem dX5_setSpeed_42 : decode cX5_setSpeed 42 = .ok (.aload_n 0, 1) := by decide +kernel
theorem dX5_setSpeed_43 : decode cX5_setSpeed 43 = .ok (.getfield 12, 3) := by decide +kernel
theorem dX5_setSpeed_46 : decode cX5_setSpeed 46 = .ok (.getfield 23, 3) := by decide +kernel
theorem dX5_setSpeed_49 : decode cX5_setSpeed 49 = .ok (.getfield 37, 3) := by decide +kernel
theorem dX5_setSpeed_52 : decode cX5_setSpeed 52 = .ok (.iload_n 1, 1) := by decide +kernel
theorem dX5_setSpeed_53 : decode cX5_setSpeed 53 = .ok (.iload_n 2, 1) := by decide +kernel
theorem dX5_setSpeed_54 : decode cX5_setSpeed 54 = .ok (.iastore, 1) := by decide +kernel
theorem dX5_setSpeed_55 : decode cX5_setSpeed 55 = .ok (.iload_n 3, 1) := by decide +kernel
theorem dX5_setSpeed_56 : decode cX5_setSpeed 56 = .ok (.ireturn, 1) := by decide +kernel
theorem dX5_failNode_0 : decode cX5_failNode 0 = .ok (.aload_n 0, 1) := by decide +kernel
theorem dX5_failNode_1 : decode cX5_failNode 1 = .ok (.getfield 12, 3) := by decide +kernel
theorem dX5_failNode_4 : decode cX5_failNode 4 = .ok (.getfield 23, 3) := by decide +kernel
theorem dX5_failNode_7 : decode cX5_failNode 7 = .ok (.iload_n 1, 1) := by decide +kernel
theorem dX5_failNode_8 : decode cX5_failNode 8 = .ok (.invokevirtual 33, 3) := by decide +kernel
theorem dX5_failNode_11 : decode cX5_failNode 11 = .ok (.ifCond .ne 5, 3) := by decide +kernel
theorem dX5_failNode_14 : decode cX5_failNode 14 = .ok (.iconst (-1), 1) := by decide +kernel
theorem dX5_failNode_15 : decode cX5_failNode 15 = .ok (.ireturn, 1) := by decide +kernel
theorem dX5_failNode_16 : decode cX5_failNode 16 = .ok (.aload_n 0, 1) := by decide +kernel
theorem dX5_failNode_17 : decode cX5_failNode 17 = .ok (.getfield 12, 3) := by decide +kernel
theorem dX5_failNode_20 : decode cX5_failNode 20 = .ok (.getfield 23, 3) := by decide +kernel
theorem dX5_failNode_23 : decode cX5_failNode 23 = .ok (.getfield 41, 3) := by decide +kernel
theorem dX5_failNode_26 : decode cX5_failNode 26 = .ok (.iload_n 1, 1) := by decide +kernel
theorem dX5_failNode_27 : decode cX5_failNode 27 = .ok (.baload, 1) := by decide +kernel
theorem dX5_failNode_28 : decode cX5_failNode 28 = .ok (.ifCond .ne 6, 3) := by decide +kernel
theorem dX5_failNode_31 : decode cX5_failNode 31 = .ok (.bipush (-6), 2) := by decide +kernel
theorem dX5_failNode_33 : decode cX5_failNode 33 = .ok (.ireturn, 1) := by decide +kernel
theorem dX5_failNode_34 : decode cX5_failNode 34 = .ok (.aload_n 0, 1) := by decide +kernel
theorem dX5_failNode_35 : decode cX5_failNode 35 = .ok (.getfield 12, 3) := by decide +kernel
theorem dX5_failNode_38 : decode cX5_failNode 38 = .ok (.getfield 23, 3) := by decide +kernel
theorem dX5_failNode_41 : decode cX5_failNode 41 = .ok (.getfield 41, 3) := by decide +kernel
theorem dX5_failNode_44 : decode cX5_failNode 44 = .ok (.iload_n 1, 1) := by decide +kernel
theorem dX5_failNode_45 : decode cX5_failNode 45 = .ok (.iconst 0, 1) := by decide +kernel
theorem dX5_failNode_46 : decode cX5_failNode 46 = .ok (.bastore, 1) := by decide +kernel
theorem dX5_failNode_47 : decode cX5_failNode 47 = .ok (.aload_n 0, 1) := by decide +kernel
theorem dX5_failNode_48 : decode cX5_failNode 48 = .ok (.getfield 12, 3) := by decide +kernel
theorem dX5_failNode_51 : decode cX5_failNode 51 = .ok (.iload_n 1, 1) := by decide +kernel
theorem dX5_failNode_52 : decode cX5_failNode 52 = .ok (.invokevirtual 45, 3) := by decide +kernel
theorem dX5_failNode_55 : decode cX5_failNode 55 = .ok (.ireturn, 1) := by decide +kernel
theorem dX5_repairNode_0 : decode cX5_repairNode 0 = .ok (.aload_n 0, 1) := by decide +kernel
theorem dX5_repairNode_1 : decode cX5_repairNode 1 = .ok (.getfield 12, 3) := by decide +kernel
theorem dX5_repairNode_4 : decode cX5_repairNode 4 = .ok (.getfield 23, 3) := by decide +kernel
theorem dX5_repairNode_7 : decode cX5_repairNode 7 = .ok (.iload_n 1, 1) := by decide +kernel
theorem dX5_repairNode_8 : decode cX5_repairNode 8 = .ok (.invokevirtual 33, 3) := by decide +kernel
theorem dX5_repairNode_11 : decode cX5_repairNode 11 = .ok (.ifCond .ne 5, 3) := by decide +kernel
theorem dX5_repairNode_14 : decode cX5_repairNode 14 = .ok (.iconst (-1), 1) := by decide +kernel
theorem dX5_repairNode_15 : decode cX5_repairNode 15 = .ok (.ireturn, 1) := by decide +kernel
theorem dX5_repairNode_16 : decode cX5_repairNode 16 = .ok (.aload_n 0, 1) := by decide +kernel
theorem dX5_repairNode_17 : decode cX5_repairNode 17 = .ok (.getfield 12, 3) := by decide +kernel
theorem dX5_repairNode_20 : decode cX5_repairNode 20 = .ok (.getfield 23, 3) := by decide +kernel
theorem dX5_repairNode_23 : decode cX5_repairNode 23 = .ok (.getfield 41, 3) := by decide +kernel
theorem dX5_repairNode_26 : decode cX5_repairNode 26 = .ok (.iload_n 1, 1) := by decide +kernel
theorem dX5_repairNode_27 : decode cX5_repairNode 27 = .ok (.baload, 1) := by decide +kernel
theorem dX5_repairNode_28 : decode cX5_repairNode 28 = .ok (.ifCond .eq 7, 3) := by decide +kernel
theorem dX5_repairNode_31 : decode cX5_repairNode 31 = .ok (.iconst 0, 1) := by decide +kernel
theorem dX5_repairNode_32 : decode cX5_repairNode 32 = .ok (.goto 4, 3) := by decide +kernel
theorem dX5_repairNode_35 : decode cX5_repairNode 35 = .ok (.iconst 1, 1) := by decide +kernel
theorem dX5_repairNode_36 : decode cX5_repairNode 36 = .ok (.istore_n 2, 1) := by decide +kernel
theorem dX5_repairNode_37 : decode cX5_repairNode 37 = .ok (.aload_n 0, 1) := by decide +kernel
theorem dX5_repairNode_38 : decode cX5_repairNode 38 = .ok (.getfield 12, 3) := by decide +kernel
theorem dX5_repairNode_41 : decode cX5_repairNode 41 = .ok (.getfield 23, 3) := by decide +kernel
theorem dX5_repairNode_44 : decode cX5_repairNode 44 = .ok (.getfield 41, 3) := by decide +kernel
theorem dX5_repairNode_47 : decode cX5_repairNode 47 = .ok (.iload_n 1, 1) := by decide +kernel
theorem dX5_repairNode_48 : decode cX5_repairNode 48 = .ok (.iconst 1, 1) := by decide +kernel
theorem dX5_repairNode_49 : decode cX5_repairNode 49 = .ok (.bastore, 1) := by decide +kernel
theorem dX5_repairNode_50 : decode cX5_repairNode 50 = .ok (.iload_n 2, 1) := by decide +kernel
theorem dX5_repairNode_51 : decode cX5_repairNode 51 = .ok (.ireturn, 1) := by decide +kernel
theorem dX5_addTask_0 : decode cX5_addTask 0 = .ok (.iload_n 1, 1) := by decide +kernel
theorem dX5_addTask_1 : decode cX5_addTask 1 = .ok (.iconst 1, 1) := by decide +kernel
theorem dX5_addTask_2 : decode cX5_addTask 2 = .ok (.sipush 10000, 3) := by decide +kernel
theorem dX5_addTask_5 : decode cX5_addTask 5 = .ok (.invokestatic 19, 3) := by decide +kernel
theorem dX5_addTask_8 : decode cX5_addTask 8 = .ok (.ifCond .ne 6, 3) := by decide +kernel
theorem dX5_addTask_11 : decode cX5_addTask 11 = .ok (.bipush (-4), 2) := by decide +kernel
theorem dX5_addTask_13 : decode cX5_addTask 13 = .ok (.ireturn, 1) := by decide +kernel
theorem dX5_addTask_14 : decode cX5_addTask 14 = .ok (.aload_n 0, 1) := by decide +kernel
theorem dX5_addTask_15 : decode cX5_addTask 15 = .ok (.getfield 12, 3) := by decide +kernel
theorem dX5_addTask_18 : decode cX5_addTask 18 = .ok (.getfield 49, 3) := by decide +kernel
theorem dX5_addTask_21 : decode cX5_addTask 21 = .ok (.iload_n 1, 1) := by decide +kernel
theorem dX5_addTask_22 : decode cX5_addTask 22 = .ok (.invokevirtual 53, 3) := by decide +kernel
theorem dX5_addTask_25 : decode cX5_addTask 25 = .ok (.ireturn, 1) := by decide +kernel
theorem dX5_setPolicy_0 : decode cX5_setPolicy 0 = .ok (.iload_n 1, 1) := by decide +kernel
theorem dX5_setPolicy_1 : decode cX5_setPolicy 1 = .ok (.invokestatic 57, 3) := by decide +kernel
theorem dX5_setPolicy_4 : decode cX5_setPolicy 4 = .ok (.ifCond .ne 6, 3) := by decide +kernel
theorem dX5_setPolicy_7 : decode cX5_setPolicy 7 = .ok (.bipush (-4), 2) := by decide +kernel
theorem dX5_setPolicy_9 : decode cX5_setPolicy 9 = .ok (.ireturn, 1) := by decide +kernel
theorem dX5_setPolicy_10 : decode cX5_setPolicy 10 = .ok (.aload_n 0, 1) := by decide +kernel
theorem dX5_setPolicy_11 : decode cX5_setPolicy 11 = .ok (.getfield 12, 3) := by decide +kernel
theorem dX5_setPolicy_14 : decode cX5_setPolicy 14 = .ok (.getfield 60, 3) := by decide +kernel
theorem dX5_setPolicy_17 : decode cX5_setPolicy 17 = .ok (.getfield 64, 3) := by decide +kernel
theorem dX5_setPolicy_20 : decode cX5_setPolicy 20 = .ok (.istore_n 2, 1) := by decide +kernel
theorem dX5_setPolicy_21 : decode cX5_setPolicy 21 = .ok (.aload_n 0, 1) := by decide +kernel
theorem dX5_setPolicy_22 : decode cX5_setPolicy 22 = .ok (.getfield 12, 3) := by decide +kernel
theorem dX5_setPolicy_25 : decode cX5_setPolicy 25 = .ok (.getfield 60, 3) := by decide +kernel
theorem dX5_setPolicy_28 : decode cX5_setPolicy 28 = .ok (.iload_n 1, 1) := by decide +kernel
theorem dX5_setPolicy_29 : decode cX5_setPolicy 29 = .ok (.putfield 64, 3) := by decide +kernel
theorem dX5_setPolicy_32 : decode cX5_setPolicy 32 = .ok (.iload_n 2, 1) := by decide +kernel
theorem dX5_setPolicy_33 : decode cX5_setPolicy 33 = .ok (.ireturn, 1) := by decide +kernel
theorem dX5_setLimits_0 : decode cX5_setLimits 0 = .ok (.iload_n 1, 1) := by decide +kernel
theorem dX5_setLimits_1 : decode cX5_setLimits 1 = .ok (.iconst 0, 1) := by decide +kernel
theorem dX5_setLimits_2 : decode cX5_setLimits 2 = .ok (.bipush 32, 2) := by decide +kernel
theorem dX5_setLimits_4 : decode cX5_setLimits 4 = .ok (.invokestatic 19, 3) := by decide +kernel
theorem dX5_setLimits_7 : decode cX5_setLimits 7 = .ok (.ifCond .eq 13, 3) := by decide +kernel
theorem dX5_setLimits_10 : decode cX5_setLimits 10 = .ok (.iload_n 2, 1) := by decide +kernel
theorem dX5_setLimits_11 : decode cX5_setLimits 11 = .ok (.iconst 0, 1) := by decide +kernel
theorem dX5_setLimits_12 : decode cX5_setLimits 12 = .ok (.bipush 100, 2) := by decide +kernel
theorem dX5_setLimits_14 : decode cX5_setLimits 14 = .ok (.invokestatic 19, 3) := by decide +kernel
theorem dX5_setLimits_17 : decode cX5_setLimits 17 = .ok (.ifCond .ne 6, 3) := by decide +kernel
theorem dX5_setLimits_20 : decode cX5_setLimits 20 = .ok (.bipush (-4), 2) := by decide +kernel
theorem dX5_setLimits_22 : decode cX5_setLimits 22 = .ok (.ireturn, 1) := by decide +kernel
theorem dX5_setLimits_23 : decode cX5_setLimits 23 = .ok (.aload_n 0, 1) := by decide +kernel
theorem dX5_setLimits_24 : decode cX5_setLimits 24 = .ok (.getfield 12, 3) := by decide +kernel
theorem dX5_setLimits_27 : decode cX5_setLimits 27 = .ok (.getfield 60, 3) := by decide +kernel
theorem dX5_setLimits_30 : decode cX5_setLimits 30 = .ok (.astore_n 3, 1) := by decide +kernel
theorem dX5_setLimits_31 : decode cX5_setLimits 31 = .ok (.aload_n 3, 1) := by decide +kernel
theorem dX5_setLimits_32 : decode cX5_setLimits 32 = .ok (.getfield 70, 3) := by decide +kernel
theorem dX5_setLimits_35 : decode cX5_setLimits 35 = .ok (.iload_n 1, 1) := by decide +kernel
theorem dX5_setLimits_36 : decode cX5_setLimits 36 = .ok (.if_icmp .ne 11, 3) := by decide +kernel
theorem dX5_setLimits_39 : decode cX5_setLimits 39 = .ok (.aload_n 3, 1) := by decide +kernel
theorem dX5_setLimits_40 : decode cX5_setLimits 40 = .ok (.getfield 73, 3) := by decide +kernel
theorem dX5_setLimits_43 : decode cX5_setLimits 43 = .ok (.iload_n 2, 1) := by decide +kernel
theorem dX5_setLimits_44 : decode cX5_setLimits 44 = .ok (.if_icmp .eq 7, 3) := by decide +kernel
theorem dX5_setLimits_47 : decode cX5_setLimits 47 = .ok (.iconst 1, 1) := by decide +kernel
theorem dX5_setLimits_48 : decode cX5_setLimits 48 = .ok (.goto 4, 3) := by decide +kernel
theorem dX5_setLimits_51 : decode cX5_setLimits 51 = .ok (.iconst 0, 1) := by decide +kernel
theorem dX5_setLimits_52 : decode cX5_setLimits 52 = .ok (.istore 4, 2) := by decide +kernel
theorem dX5_setLimits_54 : decode cX5_setLimits 54 = .ok (.aload_n 3, 1) := by decide +kernel
theorem dX5_setLimits_55 : decode cX5_setLimits 55 = .ok (.iload_n 1, 1) := by decide +kernel
theorem dX5_setLimits_56 : decode cX5_setLimits 56 = .ok (.putfield 70, 3) := by decide +kernel
theorem dX5_setLimits_59 : decode cX5_setLimits 59 = .ok (.aload_n 3, 1) := by decide +kernel
theorem dX5_setLimits_60 : decode cX5_setLimits 60 = .ok (.iload_n 2, 1) := by decide +kernel
theorem dX5_setLimits_61 : decode cX5_setLimits 61 = .ok (.putfield 73, 3) := by decide +kernel
theorem dX5_setLimits_64 : decode cX5_setLimits 64 = .ok (.iload 4, 2) := by decide +kernel
theorem dX5_setLimits_66 : decode cX5_setLimits 66 = .ok (.ifCond .eq 7, 3) := by decide +kernel
theorem dX5_setLimits_69 : decode cX5_setLimits 69 = .ok (.iconst 1, 1) := by decide +kernel
theorem dX5_setLimits_70 : decode cX5_setLimits 70 = .ok (.goto 4, 3) := by decide +kernel
theorem dX5_setLimits_73 : decode cX5_setLimits 73 = .ok (.iconst 0, 1) := by decide +kernel
theorem dX5_setLimits_74 : decode cX5_setLimits 74 = .ok (.ireturn, 1) := by decide +kernel
theorem dX5_setThresholds_0 : decode cX5_setThresholds 0 = .ok (.iload_n 1, 1) := by decide +kernel
theorem dX5_setThresholds_1 : decode cX5_setThresholds 1 = .ok (.iconst 1, 1) := by decide +kernel
theorem dX5_setThresholds_2 : decode cX5_setThresholds 2 = .ok (.sipush 200, 3) := by decide +kernel
theorem dX5_setThresholds_5 : decode cX5_setThresholds 5 = .ok (.invokestatic 19, 3) := by decide +kernel
theorem dX5_setThresholds_8 : decode cX5_setThresholds 8 = .ok (.ifCond .eq 14, 3) := by decide +kernel
theorem dX5_setThresholds_11 : decode cX5_setThresholds 11 = .ok (.iload_n 2, 1) := by decide +kernel
theorem dX5_setThresholds_12 : decode cX5_setThresholds 12 = .ok (.iconst 1, 1) := by decide +kernel
theorem dX5_setThresholds_13 : decode cX5_setThresholds 13 = .ok (.sipush 200, 3) := by decide +kernel
theorem dX5_setThresholds_16 : decode cX5_setThresholds 16 = .ok (.invokestatic 19, 3) := by decide +kernel
theorem dX5_setThresholds_19 : decode cX5_setThresholds 19 = .ok (.ifCond .ne 6, 3) := by decide +kernel
theorem dX5_setThresholds_22 : decode cX5_setThresholds 22 = .ok (.bipush (-4), 2) := by decide +kernel
theorem dX5_setThresholds_24 : decode cX5_setThresholds 24 = .ok (.ireturn, 1) := by decide +kernel
theorem dX5_setThresholds_25 : decode cX5_setThresholds 25 = .ok (.aload_n 0, 1) := by decide +kernel
theorem dX5_setThresholds_26 : decode cX5_setThresholds 26 = .ok (.getfield 12, 3) := by decide +kernel
theorem dX5_setThresholds_29 : decode cX5_setThresholds 29 = .ok (.getfield 60, 3) := by decide +kernel
theorem dX5_setThresholds_32 : decode cX5_setThresholds 32 = .ok (.astore_n 3, 1) := by decide +kernel
theorem dX5_setThresholds_33 : decode cX5_setThresholds 33 = .ok (.aload_n 3, 1) := by decide +kernel
theorem dX5_setThresholds_34 : decode cX5_setThresholds 34 = .ok (.getfield 76, 3) := by decide +kernel
theorem dX5_setThresholds_37 : decode cX5_setThresholds 37 = .ok (.iload_n 1, 1) := by decide +kernel
theorem dX5_setThresholds_38 : decode cX5_setThresholds 38 = .ok (.if_icmp .ne 11, 3) := by decide +kernel
theorem dX5_setThresholds_41 : decode cX5_setThresholds 41 = .ok (.aload_n 3, 1) := by decide +kernel
theorem dX5_setThresholds_42 : decode cX5_setThresholds 42 = .ok (.getfield 79, 3) := by decide +kernel
theorem dX5_setThresholds_45 : decode cX5_setThresholds 45 = .ok (.iload_n 2, 1) := by decide +kernel
theorem dX5_setThresholds_46 : decode cX5_setThresholds 46 = .ok (.if_icmp .eq 7, 3) := by decide +kernel
theorem dX5_setThresholds_49 : decode cX5_setThresholds 49 = .ok (.iconst 1, 1) := by decide +kernel
theorem dX5_setThresholds_50 : decode cX5_setThresholds 50 = .ok (.goto 4, 3) := by decide +kernel
theorem dX5_setThresholds_53 : decode cX5_setThresholds 53 = .ok (.iconst 0, 1) := by decide +kernel
theorem dX5_setThresholds_54 : decode cX5_setThresholds 54 = .ok (.istore 4, 2) := by decide +kernel
theorem dX5_setThresholds_56 : decode cX5_setThresholds 56 = .ok (.aload_n 3, 1) := by decide +kernel
theorem dX5_setThresholds_57 : decode cX5_setThresholds 57 = .ok (.iload_n 1, 1) := by decide +kernel
theorem dX5_setThresholds_58 : decode cX5_setThresholds 58 = .ok (.putfield 76, 3) := by decide +kernel
theorem dX5_setThresholds_61 : decode cX5_setThresholds 61 = .ok (.aload_n 3, 1) := by decide +kernel
theorem dX5_setThresholds_62 : decode cX5_setThresholds 62 = .ok (.iload_n 2, 1) := by decide +kernel
theorem dX5_setThresholds_63 : decode cX5_setThresholds 63 = .ok (.putfield 79, 3) := by decide +kernel
theorem dX5_setThresholds_66 : decode cX5_setThresholds 66 = .ok (.iload 4, 2) := by decide +kernel
theorem dX5_setThresholds_68 : decode cX5_setThresholds 68 = .ok (.ifCond .eq 7, 3) := by decide +kernel
theorem dX5_setThresholds_71 : decode cX5_setThresholds 71 = .ok (.iconst 1, 1) := by decide +kernel
theorem dX5_setThresholds_72 : decode cX5_setThresholds 72 = .ok (.goto 4, 3) := by decide +kernel
theorem dX5_setThresholds_75 : decode cX5_setThresholds 75 = .ok (.iconst 0, 1) := by decide +kernel
theorem dX5_setThresholds_76 : decode cX5_setThresholds 76 = .ok (.ireturn, 1) := by decide +kernel
theorem dX5_tick_0 : decode cX5_tick 0 = .ok (.iload_n 1, 1) := by decide +kernel
theorem dX5_tick_1 : decode cX5_tick 1 = .ok (.iconst 1, 1) := by decide +kernel
theorem dX5_tick_2 : decode cX5_tick 2 = .ok (.sipush 500, 3) := by decide +kernel
theorem dX5_tick_5 : decode cX5_tick 5 = .ok (.invokestatic 19, 3) := by decide +kernel
theorem dX5_tick_8 : decode cX5_tick 8 = .ok (.ifCond .ne 6, 3) := by decide +kernel
theorem dX5_tick_11 : decode cX5_tick 11 = .ok (.bipush (-4), 2) := by decide +kernel
theorem dX5_tick_13 : decode cX5_tick 13 = .ok (.ireturn, 1) := by decide +kernel
theorem dX5_tick_14 : decode cX5_tick 14 = .ok (.iconst 0, 1) := by decide +kernel
theorem dX5_tick_15 : decode cX5_tick 15 = .ok (.istore_n 2, 1) := by decide +kernel
theorem dX5_tick_16 : decode cX5_tick 16 = .ok (.iconst 0, 1) := by decide +kernel
theorem dX5_tick_17 : decode cX5_tick 17 = .ok (.istore_n 3, 1) := by decide +kernel
theorem dX5_tick_18 : decode cX5_tick 18 = .ok (.iload_n 3, 1) := by decide +kernel
theorem dX5_tick_19 : decode cX5_tick 19 = .ok (.iload_n 1, 1) := by decide +kernel
theorem dX5_tick_20 : decode cX5_tick 20 = .ok (.if_icmp .ge 19, 3) := by decide +kernel
theorem dX5_tick_23 : decode cX5_tick 23 = .ok (.iload_n 2, 1) := by decide +kernel
theorem dX5_tick_24 : decode cX5_tick 24 = .ok (.aload_n 0, 1) := by decide +kernel
theorem dX5_tick_25 : decode cX5_tick 25 = .ok (.getfield 12, 3) := by decide +kernel
theorem dX5_tick_28 : decode cX5_tick 28 = .ok (.invokevirtual 82, 3) := by decide +kernel
theorem dX5_tick_31 : decode cX5_tick 31 = .ok (.iadd, 1) := by decide +kernel
theorem dX5_tick_32 : decode cX5_tick 32 = .ok (.istore_n 2, 1) := by decide +kernel
theorem dX5_tick_33 : decode cX5_tick 33 = .ok (.iinc 3 1, 3) := by decide +kernel
theorem dX5_tick_36 : decode cX5_tick 36 = .ok (.goto (-18), 3) := by decide +kernel
theorem dX5_tick_39 : decode cX5_tick 39 = .ok (.iload_n 2, 1) := by decide +kernel
theorem dX5_tick_40 : decode cX5_tick 40 = .ok (.ireturn, 1) := by decide +kernel
theorem dX5_time_0 : decode cX5_time 0 = .ok (.aload_n 0, 1) := by decide +kernel
theorem dX5_time_1 : decode cX5_time 1 = .ok (.getfield 12, 3) := by decide +kernel
theorem dX5_time_4 : decode cX5_time 4 = .ok (.getfield 86, 3) := by decide +kernel
theorem dX5_time_7 : decode cX5_time 7 = .ok (.ireturn, 1) := by decide +kernel
theorem dX5_taskState_0 : decode cX5_taskState 0 = .ok (.aload_n 0, 1) := by decide +kernel
theorem dX5_taskState_1 : decode cX5_taskState 1 = .ok (.getfield 12, 3) := by decide +kernel
theorem dX5_taskState_4 : decode cX5_taskState 4 = .ok (.getfield 49, 3) := by decide +kernel
theorem dX5_taskState_7 : decode cX5_taskState 7 = .ok (.iload_n 1, 1) := by decide +kernel
theorem dX5_taskState_8 : decode cX5_taskState 8 = .ok (.invokevirtual 89, 3) := by decide +kernel
theorem dX5_taskState_11 : decode cX5_taskState 11 = .ok (.ifCond .eq 17, 3) := by decide +kernel
theorem dX5_taskState_14 : decode cX5_taskState 14 = .ok (.aload_n 0, 1) := by decide +kernel
theorem dX5_taskState_15 : decode cX5_taskState 15 = .ok (.getfield 12, 3) := by decide +kernel
theorem dX5_taskState_18 : decode cX5_taskState 18 = .ok (.getfield 49, 3) := by decide +kernel
theorem dX5_taskState_21 : decode cX5_taskState 21 = .ok (.iload_n 1, 1) := by decide +kernel
theorem dX5_taskState_22 : decode cX5_taskState 22 = .ok (.invokevirtual 90, 3) := by decide +kernel
theorem dX5_taskState_25 : decode cX5_taskState 25 = .ok (.goto 5, 3) := by decide +kernel
theorem dX5_taskState_28 : decode cX5_taskState 28 = .ok (.bipush (-2), 2) := by decide +kernel
theorem dX5_taskState_30 : decode cX5_taskState 30 = .ok (.ireturn, 1) := by decide +kernel
theorem dX5_committedAttempt_0 : decode cX5_committedAttempt 0 = .ok (.aload_n 0, 1) := by decide +kernel
theorem dX5_committedAttempt_1 : decode cX5_committedAttempt 1 = .ok (.getfield 12, 3) := by decide +kernel
theorem dX5_committedAttempt_4 : decode cX5_committedAttempt 4 = .ok (.getfield 49, 3) := by decide +kernel
theorem dX5_committedAttempt_7 : decode cX5_committedAttempt 7 = .ok (.iload_n 1, 1) := by decide +kernel
theorem dX5_committedAttempt_8 : decode cX5_committedAttempt 8 = .ok (.invokevirtual 89, 3) := by decide +kernel
theorem dX5_committedAttempt_11 : decode cX5_committedAttempt 11 = .ok (.ifCond .eq 18, 3) := by decide +kernel
theorem dX5_committedAttempt_14 : decode cX5_committedAttempt 14 = .ok (.aload_n 0, 1) := by decide +kernel
theorem dX5_committedAttempt_15 : decode cX5_committedAttempt 15 = .ok (.getfield 12, 3) := by decide +kernel
theorem dX5_committedAttempt_18 : decode cX5_committedAttempt 18 = .ok (.getfield 49, 3) := by decide +kernel
theorem dX5_committedAttempt_21 : decode cX5_committedAttempt 21 = .ok (.getfield 93, 3) := by decide +kernel
theorem dX5_committedAttempt_24 : decode cX5_committedAttempt 24 = .ok (.iload_n 1, 1) := by decide +kernel
theorem dX5_committedAttempt_25 : decode cX5_committedAttempt 25 = .ok (.iaload, 1) := by decide +kernel
theorem dX5_committedAttempt_26 : decode cX5_committedAttempt 26 = .ok (.goto 5, 3) := by decide +kernel
theorem dX5_committedAttempt_29 : decode cX5_committedAttempt 29 = .ok (.bipush (-2), 2) := by decide +kernel
theorem dX5_committedAttempt_31 : decode cX5_committedAttempt 31 = .ok (.ireturn, 1) := by decide +kernel
theorem dX5_finishTime_0 : decode cX5_finishTime 0 = .ok (.aload_n 0, 1) := by decide +kernel
theorem dX5_finishTime_1 : decode cX5_finishTime 1 = .ok (.getfield 12, 3) := by decide +kernel
theorem dX5_finishTime_4 : decode cX5_finishTime 4 = .ok (.getfield 49, 3) := by decide +kernel
theorem dX5_finishTime_7 : decode cX5_finishTime 7 = .ok (.iload_n 1, 1) := by decide +kernel
theorem dX5_finishTime_8 : decode cX5_finishTime 8 = .ok (.invokevirtual 89, 3) := by decide +kernel
theorem dX5_finishTime_11 : decode cX5_finishTime 11 = .ok (.ifCond .eq 18, 3) := by decide +kernel
theorem dX5_finishTime_14 : decode cX5_finishTime 14 = .ok (.aload_n 0, 1) := by decide +kernel
theorem dX5_finishTime_15 : decode cX5_finishTime 15 = .ok (.getfield 12, 3) := by decide +kernel
theorem dX5_finishTime_18 : decode cX5_finishTime 18 = .ok (.getfield 49, 3) := by decide +kernel
theorem dX5_finishTime_21 : decode cX5_finishTime 21 = .ok (.getfield 96, 3) := by decide +kernel
theorem dX5_finishTime_24 : decode cX5_finishTime 24 = .ok (.iload_n 1, 1) := by decide +kernel
theorem dX5_finishTime_25 : decode cX5_finishTime 25 = .ok (.iaload, 1) := by decide +kernel
theorem dX5_finishTime_26 : decode cX5_finishTime 26 = .ok (.goto 5, 3) := by decide +kernel
theorem dX5_finishTime_29 : decode cX5_finishTime 29 = .ok (.bipush (-2), 2) := by decide +kernel
theorem dX5_finishTime_31 : decode cX5_finishTime 31 = .ok (.ireturn, 1) := by decide +kernel
theorem dX5_makespan_0 : decode cX5_makespan 0 = .ok (.aload_n 0, 1) := by decide +kernel
theorem dX5_makespan_1 : decode cX5_makespan 1 = .ok (.getfield 12, 3) := by decide +kernel
theorem dX5_makespan_4 : decode cX5_makespan 4 = .ok (.getfield 49, 3) := by decide +kernel
theorem dX5_makespan_7 : decode cX5_makespan 7 = .ok (.invokevirtual 99, 3) := by decide +kernel
theorem dX5_makespan_10 : decode cX5_makespan 10 = .ok (.ireturn, 1) := by decide +kernel
theorem dX5_attemptCount_0 : decode cX5_attemptCount 0 = .ok (.aload_n 0, 1) := by decide +kernel
theorem dX5_attemptCount_1 : decode cX5_attemptCount 1 = .ok (.getfield 12, 3) := by decide +kernel
theorem dX5_attemptCount_4 : decode cX5_attemptCount 4 = .ok (.getfield 102, 3) := by decide +kernel
theorem dX5_attemptCount_7 : decode cX5_attemptCount 7 = .ok (.getfield 106, 3) := by decide +kernel
theorem dX5_attemptCount_10 : decode cX5_attemptCount 10 = .ok (.ireturn, 1) := by decide +kernel
theorem dX5_attemptTask_0 : decode cX5_attemptTask 0 = .ok (.aload_n 0, 1) := by decide +kernel
theorem dX5_attemptTask_1 : decode cX5_attemptTask 1 = .ok (.getfield 12, 3) := by decide +kernel
theorem dX5_attemptTask_4 : decode cX5_attemptTask 4 = .ok (.getfield 102, 3) := by decide +kernel
theorem dX5_attemptTask_7 : decode cX5_attemptTask 7 = .ok (.iload_n 1, 1) := by decide +kernel
theorem dX5_attemptTask_8 : decode cX5_attemptTask 8 = .ok (.invokevirtual 111, 3) := by decide +kernel
theorem dX5_attemptTask_11 : decode cX5_attemptTask 11 = .ok (.ifCond .eq 18, 3) := by decide +kernel
theorem dX5_attemptTask_14 : decode cX5_attemptTask 14 = .ok (.aload_n 0, 1) := by decide +kernel
theorem dX5_attemptTask_15 : decode cX5_attemptTask 15 = .ok (.getfield 12, 3) := by decide +kernel
theorem dX5_attemptTask_18 : decode cX5_attemptTask 18 = .ok (.getfield 102, 3) := by decide +kernel
theorem dX5_attemptTask_21 : decode cX5_attemptTask 21 = .ok (.getfield 112, 3) := by decide +kernel
theorem dX5_attemptTask_24 : decode cX5_attemptTask 24 = .ok (.iload_n 1, 1) := by decide +kernel
theorem dX5_attemptTask_25 : decode cX5_attemptTask 25 = .ok (.iaload, 1) := by decide +kernel
theorem dX5_attemptTask_26 : decode cX5_attemptTask 26 = .ok (.goto 5, 3) := by decide +kernel
theorem dX5_attemptTask_29 : decode cX5_attemptTask 29 = .ok (.bipush (-3), 2) := by decide +kernel
theorem dX5_attemptTask_31 : decode cX5_attemptTask 31 = .ok (.ireturn, 1) := by decide +kernel
theorem dX5_attemptNode_0 : decode cX5_attemptNode 0 = .ok (.aload_n 0, 1) := by decide +kernel
theorem dX5_attemptNode_1 : decode cX5_attemptNode 1 = .ok (.getfield 12, 3) := by decide +kernel
theorem dX5_attemptNode_4 : decode cX5_attemptNode 4 = .ok (.getfield 102, 3) := by decide +kernel
theorem dX5_attemptNode_7 : decode cX5_attemptNode 7 = .ok (.iload_n 1, 1) := by decide +kernel
theorem dX5_attemptNode_8 : decode cX5_attemptNode 8 = .ok (.invokevirtual 111, 3) := by decide +kernel
theorem dX5_attemptNode_11 : decode cX5_attemptNode 11 = .ok (.ifCond .eq 18, 3) := by decide +kernel
theorem dX5_attemptNode_14 : decode cX5_attemptNode 14 = .ok (.aload_n 0, 1) := by decide +kernel
theorem dX5_attemptNode_15 : decode cX5_attemptNode 15 = .ok (.getfield 12, 3) := by decide +kernel
theorem dX5_attemptNode_18 : decode cX5_attemptNode 18 = .ok (.getfield 102, 3) := by decide +kernel
theorem dX5_attemptNode_21 : decode cX5_attemptNode 21 = .ok (.getfield 115, 3) := by decide +kernel
theorem dX5_attemptNode_24 : decode cX5_attemptNode 24 = .ok (.iload_n 1, 1) := by decide +kernel
theorem dX5_attemptNode_25 : decode cX5_attemptNode 25 = .ok (.iaload, 1) := by decide +kernel
theorem dX5_attemptNode_26 : decode cX5_attemptNode 26 = .ok (.goto 5, 3) := by decide +kernel
theorem dX5_attemptNode_29 : decode cX5_attemptNode 29 = .ok (.bipush (-3), 2) := by decide +kernel
theorem dX5_attemptNode_31 : decode cX5_attemptNode 31 = .ok (.ireturn, 1) := by decide +kernel
theorem dX5_attemptState_0 : decode cX5_attemptState 0 = .ok (.aload_n 0, 1) := by decide +kernel
theorem dX5_attemptState_1 : decode cX5_attemptState 1 = .ok (.getfield 12, 3) := by decide +kernel
theorem dX5_attemptState_4 : decode cX5_attemptState 4 = .ok (.getfield 102, 3) := by decide +kernel
theorem dX5_attemptState_7 : decode cX5_attemptState 7 = .ok (.iload_n 1, 1) := by decide +kernel
theorem dX5_attemptState_8 : decode cX5_attemptState 8 = .ok (.invokevirtual 111, 3) := by decide +kernel
theorem dX5_attemptState_11 : decode cX5_attemptState 11 = .ok (.ifCond .eq 18, 3) := by decide +kernel
theorem dX5_attemptState_14 : decode cX5_attemptState 14 = .ok (.aload_n 0, 1) := by decide +kernel
theorem dX5_attemptState_15 : decode cX5_attemptState 15 = .ok (.getfield 12, 3) := by decide +kernel
theorem dX5_attemptState_18 : decode cX5_attemptState 18 = .ok (.getfield 102, 3) := by decide +kernel
theorem dX5_attemptState_21 : decode cX5_attemptState 21 = .ok (.getfield 118, 3) := by decide +kernel
theorem dX5_attemptState_24 : decode cX5_attemptState 24 = .ok (.iload_n 1, 1) := by decide +kernel
theorem dX5_attemptState_25 : decode cX5_attemptState 25 = .ok (.iaload, 1) := by decide +kernel
theorem dX5_attemptState_26 : decode cX5_attemptState 26 = .ok (.goto 5, 3) := by decide +kernel
theorem dX5_attemptState_29 : decode cX5_attemptState 29 = .ok (.bipush (-3), 2) := by decide +kernel
theorem dX5_attemptState_31 : decode cX5_attemptState 31 = .ok (.ireturn, 1) := by decide +kernel
theorem dX5_isSpeculative_0 : decode cX5_isSpeculative 0 = .ok (.aload_n 0, 1) := by decide +kernel
theorem dX5_isSpeculative_1 : decode cX5_isSpeculative 1 = .ok (.getfield 12, 3) := by decide +kernel
theorem dX5_isSpeculative_4 : decode cX5_isSpeculative 4 = .ok (.getfield 102, 3) := by decide +kernel
theorem dX5_isSpeculative_7 : decode cX5_isSpeculative 7 = .ok (.iload_n 1, 1) := by decide +kernel
theorem dX5_isSpeculative_8 : decode cX5_isSpeculative 8 = .ok (.invokevirtual 111, 3) := by decide +kernel
theorem dX5_isSpeculative_11 : decode cX5_isSpeculative 11 = .ok (.ifCond .ne 6, 3) := by decide +kernel
theorem dX5_isSpeculative_14 : decode cX5_isSpeculative 14 = .ok (.bipush (-3), 2) := by decide +kernel
theorem dX5_isSpeculative_16 : decode cX5_isSpeculative 16 = .ok (.ireturn, 1) := by decide +kernel
theorem dX5_isSpeculative_17 : decode cX5_isSpeculative 17 = .ok (.aload_n 0, 1) := by decide +kernel
theorem dX5_isSpeculative_18 : decode cX5_isSpeculative 18 = .ok (.getfield 12, 3) := by decide +kernel
theorem dX5_isSpeculative_21 : decode cX5_isSpeculative 21 = .ok (.getfield 102, 3) := by decide +kernel
theorem dX5_isSpeculative_24 : decode cX5_isSpeculative 24 = .ok (.getfield 121, 3) := by decide +kernel
theorem dX5_isSpeculative_27 : decode cX5_isSpeculative 27 = .ok (.iload_n 1, 1) := by decide +kernel
theorem dX5_isSpeculative_28 : decode cX5_isSpeculative 28 = .ok (.baload, 1) := by decide +kernel
theorem dX5_isSpeculative_29 : decode cX5_isSpeculative 29 = .ok (.ifCond .eq 7, 3) := by decide +kernel
theorem dX5_isSpeculative_32 : decode cX5_isSpeculative 32 = .ok (.iconst 1, 1) := by decide +kernel
theorem dX5_isSpeculative_33 : decode cX5_isSpeculative 33 = .ok (.goto 4, 3) := by decide +kernel
theorem dX5_isSpeculative_36 : decode cX5_isSpeculative 36 = .ok (.iconst 0, 1) := by decide +kernel
theorem dX5_isSpeculative_37 : decode cX5_isSpeculative 37 = .ok (.ireturn, 1) := by decide +kernel
theorem dX5_progress_0 : decode cX5_progress 0 = .ok (.aload_n 0, 1) := by decide +kernel
theorem dX5_progress_1 : decode cX5_progress 1 = .ok (.getfield 12, 3) := by decide +kernel
theorem dX5_progress_4 : decode cX5_progress 4 = .ok (.getfield 102, 3) := by decide +kernel
theorem dX5_progress_7 : decode cX5_progress 7 = .ok (.iload_n 1, 1) := by decide +kernel
theorem dX5_progress_8 : decode cX5_progress 8 = .ok (.invokevirtual 111, 3) := by decide +kernel
theorem dX5_progress_11 : decode cX5_progress 11 = .ok (.ifCond .eq 18, 3) := by decide +kernel
theorem dX5_progress_14 : decode cX5_progress 14 = .ok (.aload_n 0, 1) := by decide +kernel
theorem dX5_progress_15 : decode cX5_progress 15 = .ok (.getfield 12, 3) := by decide +kernel
theorem dX5_progress_18 : decode cX5_progress 18 = .ok (.getfield 102, 3) := by decide +kernel
theorem dX5_progress_21 : decode cX5_progress 21 = .ok (.getfield 124, 3) := by decide +kernel
theorem dX5_progress_24 : decode cX5_progress 24 = .ok (.iload_n 1, 1) := by decide +kernel
theorem dX5_progress_25 : decode cX5_progress 25 = .ok (.iaload, 1) := by decide +kernel
theorem dX5_progress_26 : decode cX5_progress 26 = .ok (.goto 5, 3) := by decide +kernel
theorem dX5_progress_29 : decode cX5_progress 29 = .ok (.bipush (-3), 2) := by decide +kernel
theorem dX5_progress_31 : decode cX5_progress 31 = .ok (.ireturn, 1) := by decide +kernel
theorem dX5_remainingTime_0 : decode cX5_remainingTime 0 = .ok (.aload_n 0, 1) := by decide +kernel
theorem dX5_remainingTime_1 : decode cX5_remainingTime 1 = .ok (.getfield 12, 3) := by decide +kernel
theorem dX5_remainingTime_4 : decode cX5_remainingTime 4 = .ok (.getfield 102, 3) := by decide +kernel
theorem dX5_remainingTime_7 : decode cX5_remainingTime 7 = .ok (.iload_n 1, 1) := by decide +kernel
theorem dX5_remainingTime_8 : decode cX5_remainingTime 8 = .ok (.invokevirtual 111, 3) := by decide +kernel
theorem dX5_remainingTime_11 : decode cX5_remainingTime 11 = .ok (.ifCond .ne 6, 3) := by decide +kernel
theorem dX5_remainingTime_14 : decode cX5_remainingTime 14 = .ok (.bipush (-3), 2) := by decide +kernel
theorem dX5_remainingTime_16 : decode cX5_remainingTime 16 = .ok (.ireturn, 1) := by decide +kernel
theorem dX5_remainingTime_17 : decode cX5_remainingTime 17 = .ok (.aload_n 0, 1) := by decide +kernel
theorem dX5_remainingTime_18 : decode cX5_remainingTime 18 = .ok (.getfield 12, 3) := by decide +kernel
theorem dX5_remainingTime_21 : decode cX5_remainingTime 21 = .ok (.getfield 102, 3) := by decide +kernel
theorem dX5_remainingTime_24 : decode cX5_remainingTime 24 = .ok (.getfield 118, 3) := by decide +kernel
theorem dX5_remainingTime_27 : decode cX5_remainingTime 27 = .ok (.iload_n 1, 1) := by decide +kernel
theorem dX5_remainingTime_28 : decode cX5_remainingTime 28 = .ok (.iaload, 1) := by decide +kernel
theorem dX5_remainingTime_29 : decode cX5_remainingTime 29 = .ok (.iconst 1, 1) := by decide +kernel
theorem dX5_remainingTime_30 : decode cX5_remainingTime 30 = .ok (.if_icmp .ne 17, 3) := by decide +kernel
theorem dX5_remainingTime_33 : decode cX5_remainingTime 33 = .ok (.aload_n 0, 1) := by decide +kernel
theorem dX5_remainingTime_34 : decode cX5_remainingTime 34 = .ok (.getfield 12, 3) := by decide +kernel
theorem dX5_remainingTime_37 : decode cX5_remainingTime 37 = .ok (.getfield 102, 3) := by decide +kernel
theorem dX5_remainingTime_40 : decode cX5_remainingTime 40 = .ok (.iload_n 1, 1) := by decide +kernel
theorem dX5_remainingTime_41 : decode cX5_remainingTime 41 = .ok (.invokevirtual 127, 3) := by decide +kernel
theorem dX5_remainingTime_44 : decode cX5_remainingTime 44 = .ok (.goto 5, 3) := by decide +kernel
theorem dX5_remainingTime_47 : decode cX5_remainingTime 47 = .ok (.bipush (-6), 2) := by decide +kernel
theorem dX5_remainingTime_49 : decode cX5_remainingTime 49 = .ok (.ireturn, 1) := by decide +kernel
theorem dX5_nodeScore_0 : decode cX5_nodeScore 0 = .ok (.aload_n 0, 1) := by decide +kernel
theorem dX5_nodeScore_1 : decode cX5_nodeScore 1 = .ok (.getfield 12, 3) := by decide +kernel
theorem dX5_nodeScore_4 : decode cX5_nodeScore 4 = .ok (.getfield 23, 3) := by decide +kernel
theorem dX5_nodeScore_7 : decode cX5_nodeScore 7 = .ok (.iload_n 1, 1) := by decide +kernel
theorem dX5_nodeScore_8 : decode cX5_nodeScore 8 = .ok (.invokevirtual 33, 3) := by decide +kernel
theorem dX5_nodeScore_11 : decode cX5_nodeScore 11 = .ok (.ifCond .eq 17, 3) := by decide +kernel
theorem dX5_nodeScore_14 : decode cX5_nodeScore 14 = .ok (.aload_n 0, 1) := by decide +kernel
theorem dX5_nodeScore_15 : decode cX5_nodeScore 15 = .ok (.getfield 12, 3) := by decide +kernel
theorem dX5_nodeScore_18 : decode cX5_nodeScore 18 = .ok (.getfield 23, 3) := by decide +kernel
theorem dX5_nodeScore_21 : decode cX5_nodeScore 21 = .ok (.iload_n 1, 1) := by decide +kernel
theorem dX5_nodeScore_22 : decode cX5_nodeScore 22 = .ok (.invokevirtual 130, 3) := by decide +kernel
theorem dX5_nodeScore_25 : decode cX5_nodeScore 25 = .ok (.goto 4, 3) := by decide +kernel
theorem dX5_nodeScore_28 : decode cX5_nodeScore 28 = .ok (.iconst (-1), 1) := by decide +kernel
theorem dX5_nodeScore_29 : decode cX5_nodeScore 29 = .ok (.ireturn, 1) := by decide +kernel
theorem dX5_isSlowNode_0 : decode cX5_isSlowNode 0 = .ok (.aload_n 0, 1) := by decide +kernel
theorem dX5_isSlowNode_1 : decode cX5_isSlowNode 1 = .ok (.getfield 12, 3) := by decide +kernel
theorem dX5_isSlowNode_4 : decode cX5_isSlowNode 4 = .ok (.getfield 23, 3) := by decide +kernel
theorem dX5_isSlowNode_7 : decode cX5_isSlowNode 7 = .ok (.iload_n 1, 1) := by decide +kernel
theorem dX5_isSlowNode_8 : decode cX5_isSlowNode 8 = .ok (.invokevirtual 33, 3) := by decide +kernel
theorem dX5_isSlowNode_11 : decode cX5_isSlowNode 11 = .ok (.ifCond .ne 5, 3) := by decide +kernel
theorem dX5_isSlowNode_14 : decode cX5_isSlowNode 14 = .ok (.iconst (-1), 1) := by decide +kernel
theorem dX5_isSlowNode_15 : decode cX5_isSlowNode 15 = .ok (.ireturn, 1) := by decide +kernel
theorem dX5_isSlowNode_16 : decode cX5_isSlowNode 16 = .ok (.aload_n 0, 1) := by decide +kernel
theorem dX5_isSlowNode_17 : decode cX5_isSlowNode 17 = .ok (.getfield 12, 3) := by decide +kernel
theorem dX5_isSlowNode_20 : decode cX5_isSlowNode 20 = .ok (.getfield 23, 3) := by decide +kernel
theorem dX5_isSlowNode_23 : decode cX5_isSlowNode 23 = .ok (.iload_n 1, 1) := by decide +kernel
theorem dX5_isSlowNode_24 : decode cX5_isSlowNode 24 = .ok (.aload_n 0, 1) := by decide +kernel
theorem dX5_isSlowNode_25 : decode cX5_isSlowNode 25 = .ok (.getfield 12, 3) := by decide +kernel
theorem dX5_isSlowNode_28 : decode cX5_isSlowNode 28 = .ok (.getfield 60, 3) := by decide +kernel
theorem dX5_isSlowNode_31 : decode cX5_isSlowNode 31 = .ok (.getfield 79, 3) := by decide +kernel
theorem dX5_isSlowNode_34 : decode cX5_isSlowNode 34 = .ok (.invokevirtual 133, 3) := by decide +kernel
theorem dX5_isSlowNode_37 : decode cX5_isSlowNode 37 = .ok (.ifCond .eq 7, 3) := by decide +kernel
theorem dX5_isSlowNode_40 : decode cX5_isSlowNode 40 = .ok (.iconst 1, 1) := by decide +kernel
theorem dX5_isSlowNode_41 : decode cX5_isSlowNode 41 = .ok (.goto 4, 3) := by decide +kernel
theorem dX5_isSlowNode_44 : decode cX5_isSlowNode 44 = .ok (.iconst 0, 1) := by decide +kernel
theorem dX5_isSlowNode_45 : decode cX5_isSlowNode 45 = .ok (.ireturn, 1) := by decide +kernel
theorem dX5_runningOn_0 : decode cX5_runningOn 0 = .ok (.aload_n 0, 1) := by decide +kernel
theorem dX5_runningOn_1 : decode cX5_runningOn 1 = .ok (.getfield 12, 3) := by decide +kernel
theorem dX5_runningOn_4 : decode cX5_runningOn 4 = .ok (.getfield 23, 3) := by decide +kernel
theorem dX5_runningOn_7 : decode cX5_runningOn 7 = .ok (.iload_n 1, 1) := by decide +kernel
theorem dX5_runningOn_8 : decode cX5_runningOn 8 = .ok (.invokevirtual 33, 3) := by decide +kernel
theorem dX5_runningOn_11 : decode cX5_runningOn 11 = .ok (.ifCond .eq 18, 3) := by decide +kernel
theorem dX5_runningOn_14 : decode cX5_runningOn 14 = .ok (.aload_n 0, 1) := by decide +kernel
theorem dX5_runningOn_15 : decode cX5_runningOn 15 = .ok (.getfield 12, 3) := by decide +kernel
theorem dX5_runningOn_18 : decode cX5_runningOn 18 = .ok (.getfield 23, 3) := by decide +kernel
theorem dX5_runningOn_21 : decode cX5_runningOn 21 = .ok (.getfield 137, 3) := by decide +kernel
theorem dX5_runningOn_24 : decode cX5_runningOn 24 = .ok (.iload_n 1, 1) := by decide +kernel
theorem dX5_runningOn_25 : decode cX5_runningOn 25 = .ok (.iaload, 1) := by decide +kernel
theorem dX5_runningOn_26 : decode cX5_runningOn 26 = .ok (.goto 4, 3) := by decide +kernel
theorem dX5_runningOn_29 : decode cX5_runningOn 29 = .ok (.iconst (-1), 1) := by decide +kernel
theorem dX5_runningOn_30 : decode cX5_runningOn 30 = .ok (.ireturn, 1) := by decide +kernel
theorem dX5_straggler_0 : decode cX5_straggler 0 = .ok (.aload_n 0, 1) := by decide +kernel
theorem dX5_straggler_1 : decode cX5_straggler 1 = .ok (.getfield 12, 3) := by decide +kernel
theorem dX5_straggler_4 : decode cX5_straggler 4 = .ok (.invokevirtual 140, 3) := by decide +kernel
theorem dX5_straggler_7 : decode cX5_straggler 7 = .ok (.ireturn, 1) := by decide +kernel
theorem dX5_runningSpeculative_0 : decode cX5_runningSpeculative 0 = .ok (.aload_n 0, 1) := by decide +kernel
theorem dX5_runningSpeculative_1 : decode cX5_runningSpeculative 1 = .ok (.getfield 12, 3) := by decide +kernel
theorem dX5_runningSpeculative_4 : decode cX5_runningSpeculative 4 = .ok (.getfield 102, 3) := by decide +kernel
theorem dX5_runningSpeculative_7 : decode cX5_runningSpeculative 7 = .ok (.invokevirtual 143, 3) := by decide +kernel
theorem dX5_runningSpeculative_10 : decode cX5_runningSpeculative 10 = .ok (.ireturn, 1) := by decide +kernel
theorem dX5_wastedWork_0 : decode cX5_wastedWork 0 = .ok (.aload_n 0, 1) := by decide +kernel
theorem dX5_wastedWork_1 : decode cX5_wastedWork 1 = .ok (.getfield 12, 3) := by decide +kernel
theorem dX5_wastedWork_4 : decode cX5_wastedWork 4 = .ok (.getfield 102, 3) := by decide +kernel
theorem dX5_wastedWork_7 : decode cX5_wastedWork 7 = .ok (.invokevirtual 146, 3) := by decide +kernel
theorem dX5_wastedWork_10 : decode cX5_wastedWork 10 = .ok (.ireturn, 1) := by decide +kernel
theorem dX5_simulatedMakespan_0 : decode cX5_simulatedMakespan 0 = .ok (.iload_n 1, 1) := by decide +kernel
theorem dX5_simulatedMakespan_1 : decode cX5_simulatedMakespan 1 = .ok (.invokestatic 57, 3) := by decide +kernel
theorem dX5_simulatedMakespan_4 : decode cX5_simulatedMakespan 4 = .ok (.ifCond .ne 6, 3) := by decide +kernel
theorem dX5_simulatedMakespan_7 : decode cX5_simulatedMakespan 7 = .ok (.bipush (-4), 2) := by decide +kernel
theorem dX5_simulatedMakespan_9 : decode cX5_simulatedMakespan 9 = .ok (.ireturn, 1) := by decide +kernel
theorem dX5_simulatedMakespan_10 : decode cX5_simulatedMakespan 10 = .ok (.aload_n 0, 1) := by decide +kernel
theorem dX5_simulatedMakespan_11 : decode cX5_simulatedMakespan 11 = .ok (.getfield 16, 3) := by decide +kernel
theorem dX5_simulatedMakespan_14 : decode cX5_simulatedMakespan 14 = .ok (.aload_n 0, 1) := by decide +kernel
theorem dX5_simulatedMakespan_15 : decode cX5_simulatedMakespan 15 = .ok (.getfield 12, 3) := by decide +kernel
theorem dX5_simulatedMakespan_18 : decode cX5_simulatedMakespan 18 = .ok (.iload_n 1, 1) := by decide +kernel
theorem dX5_simulatedMakespan_19 : decode cX5_simulatedMakespan 19 = .ok (.invokevirtual 149, 3) := by decide +kernel
theorem dX5_simulatedMakespan_22 : decode cX5_simulatedMakespan 22 = .ok (.aload_n 0, 1) := by decide +kernel
theorem dX5_simulatedMakespan_23 : decode cX5_simulatedMakespan 23 = .ok (.getfield 16, 3) := by decide +kernel
theorem dX5_simulatedMakespan_26 : decode cX5_simulatedMakespan 26 = .ok (.getfield 49, 3) := by decide +kernel
theorem dX5_simulatedMakespan_29 : decode cX5_simulatedMakespan 29 = .ok (.getfield 153, 3) := by decide +kernel
theorem dX5_simulatedMakespan_32 : decode cX5_simulatedMakespan 32 = .ok (.istore_n 2, 1) := by decide +kernel
theorem dX5_simulatedMakespan_33 : decode cX5_simulatedMakespan 33 = .ok (.iconst 0, 1) := by decide +kernel
theorem dX5_simulatedMakespan_34 : decode cX5_simulatedMakespan 34 = .ok (.istore_n 3, 1) := by decide +kernel
theorem dX5_simulatedMakespan_35 : decode cX5_simulatedMakespan 35 = .ok (.iload_n 3, 1) := by decide +kernel
theorem dX5_simulatedMakespan_36 : decode cX5_simulatedMakespan 36 = .ok (.sipush 2000, 3) := by decide +kernel
theorem dX5_simulatedMakespan_39 : decode cX5_simulatedMakespan 39 = .ok (.if_icmp .ge 23, 3) := by decide +kernel
theorem dX5_simulatedMakespan_42 : decode cX5_simulatedMakespan 42 = .ok (.iload_n 2, 1) := by decide +kernel
theorem dX5_simulatedMakespan_43 : decode cX5_simulatedMakespan 43 = .ok (.ifCond .le 19, 3) := by decide +kernel
theorem dX5_simulatedMakespan_46 : decode cX5_simulatedMakespan 46 = .ok (.iload_n 2, 1) := by decide +kernel
theorem dX5_simulatedMakespan_47 : decode cX5_simulatedMakespan 47 = .ok (.aload_n 0, 1) := by decide +kernel
theorem dX5_simulatedMakespan_48 : decode cX5_simulatedMakespan 48 = .ok (.getfield 16, 3) := by decide +kernel
theorem dX5_simulatedMakespan_51 : decode cX5_simulatedMakespan 51 = .ok (.invokevirtual 82, 3) := by decide +kernel
theorem dX5_simulatedMakespan_54 : decode cX5_simulatedMakespan 54 = .ok (.isub, 1) := by decide +kernel
theorem dX5_simulatedMakespan_55 : decode cX5_simulatedMakespan 55 = .ok (.istore_n 2, 1) := by decide +kernel
theorem dX5_simulatedMakespan_56 : decode cX5_simulatedMakespan 56 = .ok (.iinc 3 1, 3) := by decide +kernel
theorem dX5_simulatedMakespan_59 : decode cX5_simulatedMakespan 59 = .ok (.goto (-24), 3) := by decide +kernel
theorem dX5_simulatedMakespan_62 : decode cX5_simulatedMakespan 62 = .ok (.aload_n 0, 1) := by decide +kernel
theorem dX5_simulatedMakespan_63 : decode cX5_simulatedMakespan 63 = .ok (.getfield 16, 3) := by decide +kernel
theorem dX5_simulatedMakespan_66 : decode cX5_simulatedMakespan 66 = .ok (.getfield 49, 3) := by decide +kernel
theorem dX5_simulatedMakespan_69 : decode cX5_simulatedMakespan 69 = .ok (.invokevirtual 99, 3) := by decide +kernel
theorem dX5_simulatedMakespan_72 : decode cX5_simulatedMakespan 72 = .ok (.ireturn, 1) := by decide +kernel
theorem dX5_inRange_0 : decode cX5_inRange 0 = .ok (.iload_n 0, 1) := by decide +kernel
theorem dX5_inRange_1 : decode cX5_inRange 1 = .ok (.iload_n 1, 1) := by decide +kernel
theorem dX5_inRange_2 : decode cX5_inRange 2 = .ok (.if_icmp .lt 12, 3) := by decide +kernel
theorem dX5_inRange_5 : decode cX5_inRange 5 = .ok (.iload_n 0, 1) := by decide +kernel
theorem dX5_inRange_6 : decode cX5_inRange 6 = .ok (.iload_n 2, 1) := by decide +kernel
theorem dX5_inRange_7 : decode cX5_inRange 7 = .ok (.if_icmp .gt 7, 3) := by decide +kernel
theorem dX5_inRange_10 : decode cX5_inRange 10 = .ok (.iconst 1, 1) := by decide +kernel
theorem dX5_inRange_11 : decode cX5_inRange 11 = .ok (.goto 4, 3) := by decide +kernel
theorem dX5_inRange_14 : decode cX5_inRange 14 = .ok (.iconst 0, 1) := by decide +kernel
theorem dX5_inRange_15 : decode cX5_inRange 15 = .ok (.ireturn, 1) := by decide +kernel
theorem dX5_isPolicy_0 : decode cX5_isPolicy 0 = .ok (.iload_n 0, 1) := by decide +kernel
theorem dX5_isPolicy_1 : decode cX5_isPolicy 1 = .ok (.ifCond .eq 13, 3) := by decide +kernel
theorem dX5_isPolicy_4 : decode cX5_isPolicy 4 = .ok (.iload_n 0, 1) := by decide +kernel
theorem dX5_isPolicy_5 : decode cX5_isPolicy 5 = .ok (.iconst 1, 1) := by decide +kernel
theorem dX5_isPolicy_6 : decode cX5_isPolicy 6 = .ok (.if_icmp .eq 8, 3) := by decide +kernel
theorem dX5_isPolicy_9 : decode cX5_isPolicy 9 = .ok (.iload_n 0, 1) := by decide +kernel
theorem dX5_isPolicy_10 : decode cX5_isPolicy 10 = .ok (.iconst 2, 1) := by decide +kernel
theorem dX5_isPolicy_11 : decode cX5_isPolicy 11 = .ok (.if_icmp .ne 7, 3) := by decide +kernel
theorem dX5_isPolicy_14 : decode cX5_isPolicy 14 = .ok (.iconst 1, 1) := by decide +kernel
theorem dX5_isPolicy_15 : decode cX5_isPolicy 15 = .ok (.goto 4, 3) := by decide +kernel
theorem dX5_isPolicy_18 : decode cX5_isPolicy 18 = .ok (.iconst 0, 1) := by decide +kernel
theorem dX5_isPolicy_19 : decode cX5_isPolicy 19 = .ok (.ireturn, 1) := by decide +kernel
theorem dJ9_max_7cf53_0 : decode cJ9_max_7cf53 0 = .ok (.iload_n 0, 1) := by decide +kernel
theorem dJ9_max_7cf53_1 : decode cJ9_max_7cf53 1 = .ok (.iload_n 1, 1) := by decide +kernel
theorem dJ9_max_7cf53_2 : decode cJ9_max_7cf53 2 = .ok (.if_icmp .lt 7, 3) := by decide +kernel
theorem dJ9_max_7cf53_5 : decode cJ9_max_7cf53 5 = .ok (.iload_n 0, 1) := by decide +kernel
theorem dJ9_max_7cf53_6 : decode cJ9_max_7cf53 6 = .ok (.goto 4, 3) := by decide +kernel
theorem dJ9_max_7cf53_9 : decode cJ9_max_7cf53 9 = .ok (.iload_n 1, 1) := by decide +kernel
theorem dJ9_max_7cf53_10 : decode cJ9_max_7cf53 10 = .ok (.ireturn, 1) := by decide +kernel
theorem dJ9_min_7cf53_0 : decode cJ9_min_7cf53 0 = .ok (.iload_n 0, 1) := by decide +kernel
theorem dJ9_min_7cf53_1 : decode cJ9_min_7cf53 1 = .ok (.iload_n 1, 1) := by decide +kernel
theorem dJ9_min_7cf53_2 : decode cJ9_min_7cf53 2 = .ok (.if_icmp .gt 7, 3) := by decide +kernel
theorem dJ9_min_7cf53_5 : decode cJ9_min_7cf53 5 = .ok (.iload_n 0, 1) := by decide +kernel
theorem dJ9_min_7cf53_6 : decode cJ9_min_7cf53 6 = .ok (.goto 4, 3) := by decide +kernel
theorem dJ9_min_7cf53_9 : decode cJ9_min_7cf53 9 = .ok (.iload_n 1, 1) := by decide +kernel
theorem dJ9_min_7cf53_10 : decode cJ9_min_7cf53 10 = .ok (.ireturn, 1) := by decide +kernel
