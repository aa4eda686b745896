theorem dX1_init_0 : decode cX1_init 0 = .ok (.aload_n 0, 1) := by decide +kernel
theorem dX1_init_1 : decode cX1_init 1 = .ok (.invokespecial 3, 3) := by decide +kernel
theorem dX1_init_4 : decode cX1_init 4 = .ok (.aload_n 0, 1) := by decide +kernel
theorem dX1_init_5 : decode cX1_init 5 = .ok (.bipush 10, 2) := by decide +kernel
theorem dX1_init_7 : decode cX1_init 7 = .ok (.newarray .long, 2) := by decide +kernel
theorem dX1_init_9 : decode cX1_init 9 = .ok (.putfield 9, 3) := by decide +kernel
theorem dX1_init_12 : decode cX1_init 12 = .ok (.aload_n 0, 1) := by decide +kernel
theorem dX1_init_13 : decode cX1_init 13 = .ok (.bipush 10, 2) := by decide +kernel
theorem dX1_init_15 : decode cX1_init 15 = .ok (.newarray .long, 2) := by decide +kernel
theorem dX1_init_17 : decode cX1_init 17 = .ok (.putfield 13, 3) := by decide +kernel
theorem dX1_init_20 : decode cX1_init 20 = .ok (.aload_n 0, 1) := by decide +kernel
theorem dX1_init_21 : decode cX1_init 21 = .ok (.bipush 20, 2) := by decide +kernel
theorem dX1_init_23 : decode cX1_init 23 = .ok (.newarray .long, 2) := by decide +kernel
theorem dX1_init_25 : decode cX1_init 25 = .ok (.putfield 16, 3) := by decide +kernel
theorem dX1_init_28 : decode cX1_init 28 = .ok (.aload_n 0, 1) := by decide +kernel
theorem dX1_init_29 : decode cX1_init 29 = .ok (.bipush 10, 2) := by decide +kernel
theorem dX1_init_31 : decode cX1_init 31 = .ok (.newarray .long, 2) := by decide +kernel
theorem dX1_init_33 : decode cX1_init 33 = .ok (.putfield 19, 3) := by decide +kernel
theorem dX1_init_36 : decode cX1_init 36 = .ok (.aload_n 0, 1) := by decide +kernel
theorem dX1_init_37 : decode cX1_init 37 = .ok (.bipush 10, 2) := by decide +kernel
theorem dX1_init_39 : decode cX1_init 39 = .ok (.newarray .long, 2) := by decide +kernel
theorem dX1_init_41 : decode cX1_init 41 = .ok (.putfield 22, 3) := by decide +kernel
theorem dX1_init_44 : decode cX1_init 44 = .ok (.aload_n 0, 1) := by decide +kernel
theorem dX1_init_45 : decode cX1_init 45 = .ok (.bipush 10, 2) := by decide +kernel
theorem dX1_init_47 : decode cX1_init 47 = .ok (.newarray .long, 2) := by decide +kernel
theorem dX1_init_49 : decode cX1_init 49 = .ok (.putfield 25, 3) := by decide +kernel
theorem dX1_init_52 : decode cX1_init 52 = .ok (.aload_n 0, 1) := by decide +kernel
theorem dX1_init_53 : decode cX1_init 53 = .ok (.bipush 10, 2) := by decide +kernel
theorem dX1_init_55 : decode cX1_init 55 = .ok (.newarray .long, 2) := by decide +kernel
theorem dX1_init_57 : decode cX1_init 57 = .ok (.putfield 28, 3) := by decide +kernel
theorem dX1_init_60 : decode cX1_init 60 = .ok (.aload_n 0, 1) := by decide +kernel
theorem dX1_init_61 : decode cX1_init 61 = .ok (.bipush 16, 2) := by decide +kernel
theorem dX1_init_63 : decode cX1_init 63 = .ok (.bipush 10, 2) := by decide +kernel
theorem dX1_init_65 : decode cX1_init 65 = .ok (.multianewarray 31 2, 4) := by decide +kernel
theorem dX1_init_69 : decode cX1_init 69 = .ok (.putfield 33, 3) := by decide +kernel
theorem dX1_init_72 : decode cX1_init 72 = .ok (.aload_n 0, 1) := by decide +kernel
theorem dX1_init_73 : decode cX1_init 73 = .ok (.getstatic 36, 3) := by decide +kernel
theorem dX1_init_76 : decode cX1_init 76 = .ok (.aload_n 0, 1) := by decide +kernel
theorem dX1_init_77 : decode cX1_init 77 = .ok (.getfield 13, 3) := by decide +kernel
theorem dX1_init_80 : decode cX1_init 80 = .ok (.invokevirtual 39, 3) := by decide +kernel
theorem dX1_init_83 : decode cX1_init 83 = .ok (.return_, 1) := by decide +kernel
theorem dX1_load_0 : decode cX1_load 0 = .ok (.iconst 0, 1) := by decide +kernel
theorem dX1_load_1 : decode cX1_load 1 = .ok (.istore_n 3, 1) := by decide +kernel
theorem dX1_load_2 : decode cX1_load 2 = .ok (.iload_n 3, 1) := by decide +kernel
theorem dX1_load_3 : decode cX1_load 3 = .ok (.bipush 10, 2) := by decide +kernel
theorem dX1_load_5 : decode cX1_load 5 = .ok (.if_icmp .ge 80, 3) := by decide +kernel
theorem dX1_load_8 : decode cX1_load 8 = .ok (.bipush 26, 2) := by decide +kernel
theorem dX1_load_10 : decode cX1_load 10 = .ok (.iload_n 3, 1) := by decide +kernel
theorem dX1_load_11 : decode cX1_load 11 = .ok (.imul, 1) := by decide +kernel
theorem dX1_load_12 : decode cX1_load 12 = .ok (.bipush 6, 2) := by decide +kernel
theorem dX1_load_14 : decode cX1_load 14 = .ok (.ishr, 1) := by decide +kernel
theorem dX1_load_15 : decode cX1_load 15 = .ok (.istore 4, 2) := by decide +kernel
theorem dX1_load_17 : decode cX1_load 17 = .ok (.bipush 26, 2) := by decide +kernel
theorem dX1_load_19 : decode cX1_load 19 = .ok (.iload_n 3, 1) := by decide +kernel
theorem dX1_load_20 : decode cX1_load 20 = .ok (.imul, 1) := by decide +kernel
theorem dX1_load_21 : decode cX1_load 21 = .ok (.bipush 63, 2) := by decide +kernel
theorem dX1_load_23 : decode cX1_load 23 = .ok (.iand, 1) := by decide +kernel
theorem dX1_load_24 : decode cX1_load 24 = .ok (.istore 5, 2) := by decide +kernel
theorem dX1_load_26 : decode cX1_load 26 = .ok (.aload_n 1, 1) := by decide +kernel
theorem dX1_load_27 : decode cX1_load 27 = .ok (.iload 4, 2) := by decide +kernel
theorem dX1_load_29 : decode cX1_load 29 = .ok (.laload, 1) := by decide +kernel
theorem dX1_load_30 : decode cX1_load 30 = .ok (.iload 5, 2) := by decide +kernel
theorem dX1_load_32 : decode cX1_load 32 = .ok (.lushr, 1) := by decide +kernel
theorem dX1_load_33 : decode cX1_load 33 = .ok (.lstore 6, 2) := by decide +kernel
theorem dX1_load_35 : decode cX1_load 35 = .ok (.iload 5, 2) := by decide +kernel
theorem dX1_load_37 : decode cX1_load 37 = .ok (.bipush 26, 2) := by decide +kernel
theorem dX1_load_39 : decode cX1_load 39 = .ok (.iadd, 1) := by decide +kernel
theorem dX1_load_40 : decode cX1_load 40 = .ok (.bipush 64, 2) := by decide +kernel
theorem dX1_load_42 : decode cX1_load 42 = .ok (.if_icmp .le 28, 3) := by decide +kernel
theorem dX1_load_45 : decode cX1_load 45 = .ok (.iload 4, 2) := by decide +kernel
theorem dX1_load_47 : decode cX1_load 47 = .ok (.iconst 1, 1) := by decide +kernel
theorem dX1_load_48 : decode cX1_load 48 = .ok (.iadd, 1) := by decide +kernel
theorem dX1_load_49 : decode cX1_load 49 = .ok (.iconst 4, 1) := by decide +kernel
theorem dX1_load_50 : decode cX1_load 50 = .ok (.if_icmp .ge 20, 3) := by decide +kernel
theorem dX1_load_53 : decode cX1_load 53 = .ok (.lload 6, 2) := by decide +kernel
theorem dX1_load_55 : decode cX1_load 55 = .ok (.aload_n 1, 1) := by decide +kernel
theorem dX1_load_56 : decode cX1_load 56 = .ok (.iload 4, 2) := by decide +kernel
theorem dX1_load_58 : decode cX1_load 58 = .ok (.iconst 1, 1) := by decide +kernel
theorem dX1_load_59 : decode cX1_load 59 = .ok (.iadd, 1) := by decide +kernel
theorem dX1_load_60 : decode cX1_load 60 = .ok (.laload, 1) := by decide +kernel
theorem dX1_load_61 : decode cX1_load 61 = .ok (.bipush 64, 2) := by decide +kernel
theorem dX1_load_63 : decode cX1_load 63 = .ok (.iload 5, 2) := by decide +kernel
theorem dX1_load_65 : decode cX1_load 65 = .ok (.isub, 1) := by decide +kernel
theorem dX1_load_66 : decode cX1_load 66 = .ok (.lshl, 1) := by decide +kernel
theorem dX1_load_67 : decode cX1_load 67 = .ok (.lor, 1) := by decide +kernel
theorem dX1_load_68 : decode cX1_load 68 = .ok (.lstore 6, 2) := by decide +kernel
theorem dX1_load_70 : decode cX1_load 70 = .ok (.aload_n 2, 1) := by decide +kernel
theorem dX1_load_71 : decode cX1_load 71 = .ok (.iload_n 3, 1) := by decide +kernel
theorem dX1_load_72 : decode cX1_load 72 = .ok (.lload 6, 2) := by decide +kernel
theorem dX1_load_74 : decode cX1_load 74 = .ok (.ldc2_w 45, 3) := by decide +kernel
theorem dX1_load_77 : decode cX1_load 77 = .ok (.land, 1) := by decide +kernel
theorem dX1_load_78 : decode cX1_load 78 = .ok (.lastore, 1) := by decide +kernel
theorem dX1_load_79 : decode cX1_load 79 = .ok (.iinc 3 1, 3) := by decide +kernel
theorem dX1_load_82 : decode cX1_load 82 = .ok (.goto (-80), 3) := by decide +kernel
theorem dX1_load_85 : decode cX1_load 85 = .ok (.aload_n 2, 1) := by decide +kernel
theorem dX1_load_86 : decode cX1_load 86 = .ok (.bipush 9, 2) := by decide +kernel
theorem dX1_load_88 : decode cX1_load 88 = .ok (.dup2, 1) := by decide +kernel
theorem dX1_load_89 : decode cX1_load 89 = .ok (.laload, 1) := by decide +kernel
theorem dX1_load_90 : decode cX1_load 90 = .ok (.ldc2_w 47, 3) := by decide +kernel
theorem dX1_load_93 : decode cX1_load 93 = .ok (.land, 1) := by decide +kernel
theorem dX1_load_94 : decode cX1_load 94 = .ok (.lastore, 1) := by decide +kernel
theorem dX1_load_95 : decode cX1_load 95 = .ok (.return_, 1) := by decide +kernel
theorem dX1_store_0 : decode cX1_store 0 = .ok (.aload_n 0, 1) := by decide +kernel
theorem dX1_store_1 : decode cX1_store 1 = .ok (.aload_n 1, 1) := by decide +kernel
theorem dX1_store_2 : decode cX1_store 2 = .ok (.invokevirtual 49, 3) := by decide +kernel
theorem dX1_store_5 : decode cX1_store 5 = .ok (.aload_n 2, 1) := by decide +kernel
theorem dX1_store_6 : decode cX1_store 6 = .ok (.lconst 0, 1) := by decide +kernel
theorem dX1_store_7 : decode cX1_store 7 = .ok (.invokestatic 53, 3) := by decide +kernel
theorem dX1_store_10 : decode cX1_store 10 = .ok (.iconst 0, 1) := by decide +kernel
theorem dX1_store_11 : decode cX1_store 11 = .ok (.istore_n 3, 1) := by decide +kernel
theorem dX1_store_12 : decode cX1_store 12 = .ok (.iload_n 3, 1) := by decide +kernel
theorem dX1_store_13 : decode cX1_store 13 = .ok (.bipush 10, 2) := by decide +kernel
theorem dX1_store_15 : decode cX1_store 15 = .ok (.if_icmp .ge 82, 3) := by decide +kernel
theorem dX1_store_18 : decode cX1_store 18 = .ok (.bipush 26, 2) := by decide +kernel
theorem dX1_store_20 : decode cX1_store 20 = .ok (.iload_n 3, 1) := by decide +kernel
theorem dX1_store_21 : decode cX1_store 21 = .ok (.imul, 1) := by decide +kernel
theorem dX1_store_22 : decode cX1_store 22 = .ok (.bipush 6, 2) := by decide +kernel
theorem dX1_store_24 : decode cX1_store 24 = .ok (.ishr, 1) := by decide +kernel
theorem dX1_store_25 : decode cX1_store 25 = .ok (.istore 4, 2) := by decide +kernel
theorem dX1_store_27 : decode cX1_store 27 = .ok (.bipush 26, 2) := by decide +kernel
theorem dX1_store_29 : decode cX1_store 29 = .ok (.iload_n 3, 1) := by decide +kernel
theorem dX1_store_30 : decode cX1_store 30 = .ok (.imul, 1) := by decide +kernel
theorem dX1_store_31 : decode cX1_store 31 = .ok (.bipush 63, 2) := by decide +kernel
theorem dX1_store_33 : decode cX1_store 33 = .ok (.iand, 1) := by decide +kernel
theorem dX1_store_34 : decode cX1_store 34 = .ok (.istore 5, 2) := by decide +kernel
theorem dX1_store_36 : decode cX1_store 36 = .ok (.aload_n 2, 1) := by decide +kernel
theorem dX1_store_37 : decode cX1_store 37 = .ok (.iload 4, 2) := by decide +kernel
theorem dX1_store_39 : decode cX1_store 39 = .ok (.dup2, 1) := by decide +kernel
theorem dX1_store_40 : decode cX1_store 40 = .ok (.laload, 1) := by decide +kernel
theorem dX1_store_41 : decode cX1_store 41 = .ok (.aload_n 0, 1) := by decide +kernel
theorem dX1_store_42 : decode cX1_store 42 = .ok (.getfield 19, 3) := by decide +kernel
theorem dX1_store_45 : decode cX1_store 45 = .ok (.iload_n 3, 1) := by decide +kernel
theorem dX1_store_46 : decode cX1_store 46 = .ok (.laload, 1) := by decide +kernel
theorem dX1_store_47 : decode cX1_store 47 = .ok (.iload 5, 2) := by decide +kernel
theorem dX1_store_49 : decode cX1_store 49 = .ok (.lshl, 1) := by decide +kernel
theorem dX1_store_50 : decode cX1_store 50 = .ok (.lor, 1) := by decide +kernel
theorem dX1_store_51 : decode cX1_store 51 = .ok (.lastore, 1) := by decide +kernel
theorem dX1_store_52 : decode cX1_store 52 = .ok (.iload 5, 2) := by decide +kernel
theorem dX1_store_54 : decode cX1_store 54 = .ok (.bipush 26, 2) := by decide +kernel
theorem dX1_store_56 : decode cX1_store 56 = .ok (.iadd, 1) := by decide +kernel
theorem dX1_store_57 : decode cX1_store 57 = .ok (.bipush 64, 2) := by decide +kernel
theorem dX1_store_59 : decode cX1_store 59 = .ok (.if_icmp .le 32, 3) := by decide +kernel
theorem dX1_store_62 : decode cX1_store 62 = .ok (.iload 4, 2) := by decide +kernel
theorem dX1_store_64 : decode cX1_store 64 = .ok (.iconst 1, 1) := by decide +kernel
theorem dX1_store_65 : decode cX1_store 65 = .ok (.iadd, 1) := by decide +kernel
theorem dX1_store_66 : decode cX1_store 66 = .ok (.iconst 4, 1) := by decide +kernel
theorem dX1_store_67 : decode cX1_store 67 = .ok (.if_icmp .ge 24, 3) := by decide +kernel
theorem dX1_store_70 : decode cX1_store 70 = .ok (.aload_n 2, 1) := by decide +kernel
theorem dX1_store_71 : decode cX1_store 71 = .ok (.iload 4, 2) := by decide +kernel
theorem dX1_store_73 : decode cX1_store 73 = .ok (.iconst 1, 1) := by decide +kernel
theorem dX1_store_74 : decode cX1_store 74 = .ok (.iadd, 1) := by decide +kernel
theorem dX1_store_75 : decode cX1_store 75 = .ok (.dup2, 1) := by decide +kernel
theorem dX1_store_76 : decode cX1_store 76 = .ok (.laload, 1) := by decide +kernel
theorem dX1_store_77 : decode cX1_store 77 = .ok (.aload_n 0, 1) := by decide +kernel
theorem dX1_store_78 : decode cX1_store 78 = .ok (.getfield 19, 3) := by decide +kernel
theorem dX1_store_81 : decode cX1_store 81 = .ok (.iload_n 3, 1) := by decide +kernel
theorem dX1_store_82 : decode cX1_store 82 = .ok (.laload, 1) := by decide +kernel
theorem dX1_store_83 : decode cX1_store 83 = .ok (.bipush 64, 2) := by decide +kernel
theorem dX1_store_85 : decode cX1_store 85 = .ok (.iload 5, 2) := by decide +kernel
theorem dX1_store_87 : decode cX1_store 87 = .ok (.isub, 1) := by decide +kernel
theorem dX1_store_88 : decode cX1_store 88 = .ok (.lushr, 1) := by decide +kernel
theorem dX1_store_89 : decode cX1_store 89 = .ok (.lor, 1) := by decide +kernel
theorem dX1_store_90 : decode cX1_store 90 = .ok (.lastore, 1) := by decide +kernel
theorem dX1_store_91 : decode cX1_store 91 = .ok (.iinc 3 1, 3) := by decide +kernel
theorem dX1_store_94 : decode cX1_store 94 = .ok (.goto (-82), 3) := by decide +kernel
theorem dX1_store_97 : decode cX1_store 97 = .ok (.return_, 1) := by decide +kernel
theorem dX1_move_0 : decode cX1_move 0 = .ok (.aload_n 1, 1) := by decide +kernel
theorem dX1_move_1 : decode cX1_move 1 = .ok (.iconst 0, 1) := by decide +kernel
theorem dX1_move_2 : decode cX1_move 2 = .ok (.aload_n 2, 1) := by decide +kernel
theorem dX1_move_3 : decode cX1_move 3 = .ok (.iconst 0, 1) := by decide +kernel
theorem dX1_move_4 : decode cX1_move 4 = .ok (.bipush 10, 2) := by decide +kernel
theorem dX1_move_6 : decode cX1_move 6 = .ok (.invokestatic 59, 3) := by decide +kernel
theorem dX1_move_9 : decode cX1_move 9 = .ok (.return_, 1) := by decide +kernel
theorem dX1_become_0 : decode cX1_become 0 = .ok (.aload_n 1, 1) := by decide +kernel
theorem dX1_become_1 : decode cX1_become 1 = .ok (.lconst 0, 1) := by decide +kernel
theorem dX1_become_2 : decode cX1_become 2 = .ok (.invokestatic 53, 3) := by decide +kernel
theorem dX1_become_5 : decode cX1_become 5 = .ok (.aload_n 1, 1) := by decide +kernel
theorem dX1_become_6 : decode cX1_become 6 = .ok (.iconst 0, 1) := by decide +kernel
theorem dX1_become_7 : decode cX1_become 7 = .ok (.lload_n 2, 1) := by decide +kernel
theorem dX1_become_8 : decode cX1_become 8 = .ok (.lastore, 1) := by decide +kernel
theorem dX1_become_9 : decode cX1_become 9 = .ok (.return_, 1) := by decide +kernel
theorem dX1_add_0 : decode cX1_add 0 = .ok (.iconst 0, 1) := by decide +kernel
theorem dX1_add_1 : decode cX1_add 1 = .ok (.istore 4, 2) := by decide +kernel
theorem dX1_add_3 : decode cX1_add 3 = .ok (.iload 4, 2) := by decide +kernel
theorem dX1_add_5 : decode cX1_add 5 = .ok (.bipush 10, 2) := by decide +kernel
theorem dX1_add_7 : decode cX1_add 7 = .ok (.if_icmp .ge 22, 3) := by decide +kernel
theorem dX1_add_10 : decode cX1_add 10 = .ok (.aload_n 3, 1) := by decide +kernel
theorem dX1_add_11 : decode cX1_add 11 = .ok (.iload 4, 2) := by decide +kernel
theorem dX1_add_13 : decode cX1_add 13 = .ok (.aload_n 1, 1) := by decide +kernel
theorem dX1_add_14 : decode cX1_add 14 = .ok (.iload 4, 2) := by decide +kernel
theorem dX1_add_16 : decode cX1_add 16 = .ok (.laload, 1) := by decide +kernel
theorem dX1_add_17 : decode cX1_add 17 = .ok (.aload_n 2, 1) := by decide +kernel
theorem dX1_add_18 : decode cX1_add 18 = .ok (.iload 4, 2) := by decide +kernel
theorem dX1_add_20 : decode cX1_add 20 = .ok (.laload, 1) := by decide +kernel
theorem dX1_add_21 : decode cX1_add 21 = .ok (.ladd, 1) := by decide +kernel
theorem dX1_add_22 : decode cX1_add 22 = .ok (.lastore, 1) := by decide +kernel
theorem dX1_add_23 : decode cX1_add 23 = .ok (.iinc 4 1, 3) := by decide +kernel
theorem dX1_add_26 : decode cX1_add 26 = .ok (.goto (-23), 3) := by decide +kernel
theorem dX1_add_29 : decode cX1_add 29 = .ok (.return_, 1) := by decide +kernel
theorem dX1_subtract_0 : decode cX1_subtract 0 = .ok (.iconst 0, 1) := by decide +kernel
theorem dX1_subtract_1 : decode cX1_subtract 1 = .ok (.istore 4, 2) := by decide +kernel
theorem dX1_subtract_3 : decode cX1_subtract 3 = .ok (.iload 4, 2) := by decide +kernel
theorem dX1_subtract_5 : decode cX1_subtract 5 = .ok (.bipush 10, 2) := by decide +kernel
theorem dX1_subtract_7 : decode cX1_subtract 7 = .ok (.if_icmp .ge 22, 3) := by decide +kernel
theorem dX1_subtract_10 : decode cX1_subtract 10 = .ok (.aload_n 3, 1) := by decide +kernel
theorem dX1_subtract_11 : decode cX1_subtract 11 = .ok (.iload 4, 2) := by decide +kernel
theorem dX1_subtract_13 : decode cX1_subtract 13 = .ok (.aload_n 1, 1) := by decide +kernel
theorem dX1_subtract_14 : decode cX1_subtract 14 = .ok (.iload 4, 2) := by decide +kernel
theorem dX1_subtract_16 : decode cX1_subtract 16 = .ok (.laload, 1) := by decide +kernel
theorem dX1_subtract_17 : decode cX1_subtract 17 = .ok (.aload_n 2, 1) := by decide +kernel
theorem dX1_subtract_18 : decode cX1_subtract 18 = .ok (.iload 4, 2) := by decide +kernel
theorem dX1_subtract_20 : decode cX1_subtract 20 = .ok (.laload, 1) := by decide +kernel
theorem dX1_subtract_21 : decode cX1_subtract 21 = .ok (.lsub, 1) := by decide +kernel
theorem dX1_subtract_22 : decode cX1_subtract 22 = .ok (.lastore, 1) := by decide +kernel
theorem dX1_subtract_23 : decode cX1_subtract 23 = .ok (.iinc 4 1, 3) := by decide +kernel
theorem dX1_subtract_26 : decode cX1_subtract 26 = .ok (.goto (-23), 3) := by decide +kernel
theorem dX1_subtract_29 : decode cX1_subtract 29 = .ok (.return_, 1) := by decide +kernel
theorem dX1_negate_0 : decode cX1_negate 0 = .ok (.aload_n 0, 1) := by decide +kernel
theorem dX1_negate_1 : decode cX1_negate 1 = .ok (.aload_n 0, 1) := by decide +kernel
theorem dX1_negate_2 : decode cX1_negate 2 = .ok (.getfield 9, 3) := by decide +kernel
theorem dX1_negate_5 : decode cX1_negate 5 = .ok (.aload_n 1, 1) := by decide +kernel
theorem dX1_negate_6 : decode cX1_negate 6 = .ok (.aload_n 2, 1) := by decide +kernel
theorem dX1_negate_7 : decode cX1_negate 7 = .ok (.invokevirtual 65, 3) := by decide +kernel
theorem dX1_negate_10 : decode cX1_negate 10 = .ok (.return_, 1) := by decide +kernel
theorem dX1_scale_0 : decode cX1_scale 0 = .ok (.iconst 0, 1) := by decide +kernel
theorem dX1_scale_1 : decode cX1_scale 1 = .ok (.istore 5, 2) := by decide +kernel
theorem dX1_scale_3 : decode cX1_scale 3 = .ok (.iload 5, 2) := by decide +kernel
theorem dX1_scale_5 : decode cX1_scale 5 = .ok (.bipush 10, 2) := by decide +kernel
theorem dX1_scale_7 : decode cX1_scale 7 = .ok (.if_icmp .ge 20, 3) := by decide +kernel
theorem dX1_scale_10 : decode cX1_scale 10 = .ok (.aload 4, 2) := by decide +kernel
theorem dX1_scale_12 : decode cX1_scale 12 = .ok (.iload 5, 2) := by decide +kernel
theorem dX1_scale_14 : decode cX1_scale 14 = .ok (.aload_n 1, 1) := by decide +kernel
theorem dX1_scale_15 : decode cX1_scale 15 = .ok (.iload 5, 2) := by decide +kernel
theorem dX1_scale_17 : decode cX1_scale 17 = .ok (.laload, 1) := by decide +kernel
theorem dX1_scale_18 : decode cX1_scale 18 = .ok (.lload_n 2, 1) := by decide +kernel
theorem dX1_scale_19 : decode cX1_scale 19 = .ok (.lmul, 1) := by decide +kernel
theorem dX1_scale_20 : decode cX1_scale 20 = .ok (.lastore, 1) := by decide +kernel
theorem dX1_scale_21 : decode cX1_scale 21 = .ok (.iinc 5 1, 3) := by decide +kernel
theorem dX1_scale_24 : decode cX1_scale 24 = .ok (.goto (-21), 3) := by decide +kernel
theorem dX1_scale_27 : decode cX1_scale 27 = .ok (.aload_n 0, 1) := by decide +kernel
theorem dX1_scale_28 : decode cX1_scale 28 = .ok (.aload 4, 2) := by decide +kernel
theorem dX1_scale_30 : decode cX1_scale 30 = .ok (.invokevirtual 69, 3) := by decide +kernel
theorem dX1_scale_33 : decode cX1_scale 33 = .ok (.return_, 1) := by decide +kernel
theorem dX1_multiply_0 : decode cX1_multiply 0 = .ok (.aload_n 0, 1) := by decide +kernel
theorem dX1_multiply_1 : decode cX1_multiply 1 = .ok (.getfield 16, 3) := by decide +kernel
theorem dX1_multiply_4 : decode cX1_multiply 4 = .ok (.lconst 0, 1) := by decide +kernel
theorem dX1_multiply_5 : decode cX1_multiply 5 = .ok (.invokestatic 53, 3) := by decide +kernel
theorem dX1_multiply_8 : decode cX1_multiply 8 = .ok (.iconst 0, 1) := by decide +kernel
theorem dX1_multiply_9 : decode cX1_multiply 9 = .ok (.istore 4, 2) := by decide +kernel
theorem dX1_multiply_11 : decode cX1_multiply 11 = .ok (.iload 4, 2) := by decide +kernel
theorem dX1_multiply_13 : decode cX1_multiply 13 = .ok (.bipush 10, 2) := by decide +kernel
theorem dX1_multiply_15 : decode cX1_multiply 15 = .ok (.if_icmp .ge 51, 3) := by decide +kernel
theorem dX1_multiply_18 : decode cX1_multiply 18 = .ok (.aload_n 1, 1) := by decide +kernel
theorem dX1_multiply_19 : decode cX1_multiply 19 = .ok (.iload 4, 2) := by decide +kernel
theorem dX1_multiply_21 : decode cX1_multiply 21 = .ok (.laload, 1) := by decide +kernel
theorem dX1_multiply_22 : decode cX1_multiply 22 = .ok (.lstore 5, 2) := by decide +kernel
theorem dX1_multiply_24 : decode cX1_multiply 24 = .ok (.iconst 0, 1) := by decide +kernel
theorem dX1_multiply_25 : decode cX1_multiply 25 = .ok (.istore 7, 2) := by decide +kernel
theorem dX1_multiply_27 : decode cX1_multiply 27 = .ok (.iload 7, 2) := by decide +kernel
theorem dX1_multiply_29 : decode cX1_multiply 29 = .ok (.bipush 10, 2) := by decide +kernel
theorem dX1_multiply_31 : decode cX1_multiply 31 = .ok (.if_icmp .ge 29, 3) := by decide +kernel
theorem dX1_multiply_34 : decode cX1_multiply 34 = .ok (.aload_n 0, 1) := by decide +kernel
theorem dX1_multiply_35 : decode cX1_multiply 35 = .ok (.getfield 16, 3) := by decide +kernel
theorem dX1_multiply_38 : decode cX1_multiply 38 = .ok (.iload 4, 2) := by decide +kernel
theorem dX1_multiply_40 : decode cX1_multiply 40 = .ok (.iload 7, 2) := by decide +kernel
theorem dX1_multiply_42 : decode cX1_multiply 42 = .ok (.iadd, 1) := by decide +kernel
theorem dX1_multiply_43 : decode cX1_multiply 43 = .ok (.dup2, 1) := by decide +kernel
theorem dX1_multiply_44 : decode cX1_multiply 44 = .ok (.laload, 1) := by decide +kernel
theorem dX1_multiply_45 : decode cX1_multiply 45 = .ok (.lload 5, 2) := by decide +kernel
theorem dX1_multiply_47 : decode cX1_multiply 47 = .ok (.aload_n 2, 1) := by decide +kernel
theorem dX1_multiply_48 : decode cX1_multiply 48 = .ok (.iload 7, 2) := by decide +kernel
theorem dX1_multiply_50 : decode cX1_multiply 50 = .ok (.laload, 1) := by decide +kernel
theorem dX1_multiply_51 : decode cX1_multiply 51 = .ok (.lmul, 1) := by decide +kernel
theorem dX1_multiply_52 : decode cX1_multiply 52 = .ok (.ladd, 1) := by decide +kernel
theorem dX1_multiply_53 : decode cX1_multiply 53 = .ok (.lastore, 1) := by decide +kernel
theorem dX1_multiply_54 : decode cX1_multiply 54 = .ok (.iinc 7 1, 3) := by decide +kernel
theorem dX1_multiply_57 : decode cX1_multiply 57 = .ok (.goto (-30), 3) := by decide +kernel
theorem dX1_multiply_60 : decode cX1_multiply 60 = .ok (.iinc 4 1, 3) := by decide +kernel
theorem dX1_multiply_63 : decode cX1_multiply 63 = .ok (.goto (-52), 3) := by decide +kernel
theorem dX1_multiply_66 : decode cX1_multiply 66 = .ok (.aload_n 0, 1) := by decide +kernel
theorem dX1_multiply_67 : decode cX1_multiply 67 = .ok (.aload_n 3, 1) := by decide +kernel
theorem dX1_multiply_68 : decode cX1_multiply 68 = .ok (.invokevirtual 72, 3) := by decide +kernel
theorem dX1_multiply_71 : decode cX1_multiply 71 = .ok (.aload_n 0, 1) := by decide +kernel
theorem dX1_multiply_72 : decode cX1_multiply 72 = .ok (.aload_n 3, 1) := by decide +kernel
theorem dX1_multiply_73 : decode cX1_multiply 73 = .ok (.invokevirtual 69, 3) := by decide +kernel
theorem dX1_multiply_76 : decode cX1_multiply 76 = .ok (.return_, 1) := by decide +kernel
theorem dX1_square_0 : decode cX1_square 0 = .ok (.aload_n 0, 1) := by decide +kernel
theorem dX1_square_1 : decode cX1_square 1 = .ok (.getfield 16, 3) := by decide +kernel
theorem dX1_square_4 : decode cX1_square 4 = .ok (.lconst 0, 1) := by decide +kernel
theorem dX1_square_5 : decode cX1_square 5 = .ok (.invokestatic 53, 3) := by decide +kernel
theorem dX1_square_8 : decode cX1_square 8 = .ok (.iconst 0, 1) := by decide +kernel
theorem dX1_square_9 : decode cX1_square 9 = .ok (.istore_n 3, 1) := by decide +kernel
theorem dX1_square_10 : decode cX1_square 10 = .ok (.iload_n 3, 1) := by decide +kernel
theorem dX1_square_11 : decode cX1_square 11 = .ok (.bipush 10, 2) := by decide +kernel
theorem dX1_square_13 : decode cX1_square 13 = .ok (.if_icmp .ge 71, 3) := by decide +kernel
theorem dX1_square_16 : decode cX1_square 16 = .ok (.aload_n 1, 1) := by decide +kernel
theorem dX1_square_17 : decode cX1_square 17 = .ok (.iload_n 3, 1) := by decide +kernel
theorem dX1_square_18 : decode cX1_square 18 = .ok (.laload, 1) := by decide +kernel
theorem dX1_square_19 : decode cX1_square 19 = .ok (.lstore 4, 2) := by decide +kernel
theorem dX1_square_21 : decode cX1_square 21 = .ok (.aload_n 0, 1) := by decide +kernel
theorem dX1_square_22 : decode cX1_square 22 = .ok (.getfield 16, 3) := by decide +kernel
theorem dX1_square_25 : decode cX1_square 25 = .ok (.iconst 2, 1) := by decide +kernel
theorem dX1_square_26 : decode cX1_square 26 = .ok (.iload_n 3, 1) := by decide +kernel
theorem dX1_square_27 : decode cX1_square 27 = .ok (.imul, 1) := by decide +kernel
theorem dX1_square_28 : decode cX1_square 28 = .ok (.dup2, 1) := by decide +kernel
theorem dX1_square_29 : decode cX1_square 29 = .ok (.laload, 1) := by decide +kernel
theorem dX1_square_30 : decode cX1_square 30 = .ok (.lload 4, 2) := by decide +kernel
theorem dX1_square_32 : decode cX1_square 32 = .ok (.lload 4, 2) := by decide +kernel
theorem dX1_square_34 : decode cX1_square 34 = .ok (.lmul, 1) := by decide +kernel
theorem dX1_square_35 : decode cX1_square 35 = .ok (.ladd, 1) := by decide +kernel
theorem dX1_square_36 : decode cX1_square 36 = .ok (.lastore, 1) := by decide +kernel
theorem dX1_square_37 : decode cX1_square 37 = .ok (.iload_n 3, 1) := by decide +kernel
theorem dX1_square_38 : decode cX1_square 38 = .ok (.iconst 1, 1) := by decide +kernel
theorem dX1_square_39 : decode cX1_square 39 = .ok (.iadd, 1) := by decide +kernel
theorem dX1_square_40 : decode cX1_square 40 = .ok (.istore 6, 2) := by decide +kernel
theorem dX1_square_42 : decode cX1_square 42 = .ok (.iload 6, 2) := by decide +kernel
theorem dX1_square_44 : decode cX1_square 44 = .ok (.bipush 10, 2) := by decide +kernel
theorem dX1_square_46 : decode cX1_square 46 = .ok (.if_icmp .ge 32, 3) := by decide +kernel
theorem dX1_square_49 : decode cX1_square 49 = .ok (.aload_n 0, 1) := by decide +kernel
theorem dX1_square_50 : decode cX1_square 50 = .ok (.getfield 16, 3) := by decide +kernel
theorem dX1_square_53 : decode cX1_square 53 = .ok (.iload_n 3, 1) := by decide +kernel
theorem dX1_square_54 : decode cX1_square 54 = .ok (.iload 6, 2) := by decide +kernel
theorem dX1_square_56 : decode cX1_square 56 = .ok (.iadd, 1) := by decide +kernel
theorem dX1_square_57 : decode cX1_square 57 = .ok (.dup2, 1) := by decide +kernel
theorem dX1_square_58 : decode cX1_square 58 = .ok (.laload, 1) := by decide +kernel
theorem dX1_square_59 : decode cX1_square 59 = .ok (.ldc2_w 75, 3) := by decide +kernel
theorem dX1_square_62 : decode cX1_square 62 = .ok (.lload 4, 2) := by decide +kernel
theorem dX1_square_64 : decode cX1_square 64 = .ok (.lmul, 1) := by decide +kernel
theorem dX1_square_65 : decode cX1_square 65 = .ok (.aload_n 1, 1) := by decide +kernel
theorem dX1_square_66 : decode cX1_square 66 = .ok (.iload 6, 2) := by decide +kernel
theorem dX1_square_68 : decode cX1_square 68 = .ok (.laload, 1) := by decide +kernel
theorem dX1_square_69 : decode cX1_square 69 = .ok (.lmul, 1) := by decide +kernel
theorem dX1_square_70 : decode cX1_square 70 = .ok (.ladd, 1) := by decide +kernel
theorem dX1_square_71 : decode cX1_square 71 = .ok (.lastore, 1) := by decide +kernel
theorem dX1_square_72 : decode cX1_square 72 = .ok (.iinc 6 1, 3) := by decide +kernel
theorem dX1_square_75 : decode cX1_square 75 = .ok (.goto (-33), 3) := by decide +kernel
theorem dX1_square_78 : decode cX1_square 78 = .ok (.iinc 3 1, 3) := by decide +kernel
theorem dX1_square_81 : decode cX1_square 81 = .ok (.goto (-71), 3) := by decide +kernel
theorem dX1_square_84 : decode cX1_square 84 = .ok (.aload_n 0, 1) := by decide +kernel
theorem dX1_square_85 : decode cX1_square 85 = .ok (.aload_n 2, 1) := by decide +kernel
theorem dX1_square_86 : decode cX1_square 86 = .ok (.invokevirtual 72, 3) := by decide +kernel
theorem dX1_square_89 : decode cX1_square 89 = .ok (.aload_n 0, 1) := by decide +kernel
theorem dX1_square_90 : decode cX1_square 90 = .ok (.aload_n 2, 1) := by decide +kernel
theorem dX1_square_91 : decode cX1_square 91 = .ok (.invokevirtual 69, 3) := by decide +kernel
theorem dX1_square_94 : decode cX1_square 94 = .ok (.return_, 1) := by decide +kernel
theorem dX1_fold_0 : decode cX1_fold 0 = .ok (.iconst 0, 1) := by decide +kernel
theorem dX1_fold_1 : decode cX1_fold 1 = .ok (.istore_n 2, 1) := by decide +kernel
theorem dX1_fold_2 : decode cX1_fold 2 = .ok (.iload_n 2, 1) := by decide +kernel
theorem dX1_fold_3 : decode cX1_fold 3 = .ok (.bipush 19, 2) := by decide +kernel
theorem dX1_fold_5 : decode cX1_fold 5 = .ok (.if_icmp .ge 41, 3) := by decide +kernel
theorem dX1_fold_8 : decode cX1_fold 8 = .ok (.aload_n 0, 1) := by decide +kernel
theorem dX1_fold_9 : decode cX1_fold 9 = .ok (.getfield 16, 3) := by decide +kernel
theorem dX1_fold_12 : decode cX1_fold 12 = .ok (.iload_n 2, 1) := by decide +kernel
theorem dX1_fold_13 : decode cX1_fold 13 = .ok (.iconst 1, 1) := by decide +kernel
theorem dX1_fold_14 : decode cX1_fold 14 = .ok (.iadd, 1) := by decide +kernel
theorem dX1_fold_15 : decode cX1_fold 15 = .ok (.dup2, 1) := by decide +kernel
theorem dX1_fold_16 : decode cX1_fold 16 = .ok (.laload, 1) := by decide +kernel
theorem dX1_fold_17 : decode cX1_fold 17 = .ok (.aload_n 0, 1) := by decide +kernel
theorem dX1_fold_18 : decode cX1_fold 18 = .ok (.getfield 16, 3) := by decide +kernel
theorem dX1_fold_21 : decode cX1_fold 21 = .ok (.iload_n 2, 1) := by decide +kernel
theorem dX1_fold_22 : decode cX1_fold 22 = .ok (.laload, 1) := by decide +kernel
theorem dX1_fold_23 : decode cX1_fold 23 = .ok (.bipush 26, 2) := by decide +kernel
theorem dX1_fold_25 : decode cX1_fold 25 = .ok (.lshr, 1) := by decide +kernel
theorem dX1_fold_26 : decode cX1_fold 26 = .ok (.ladd, 1) := by decide +kernel
theorem dX1_fold_27 : decode cX1_fold 27 = .ok (.lastore, 1) := by decide +kernel
theorem dX1_fold_28 : decode cX1_fold 28 = .ok (.aload_n 0, 1) := by decide +kernel
theorem dX1_fold_29 : decode cX1_fold 29 = .ok (.getfield 16, 3) := by decide +kernel
theorem dX1_fold_32 : decode cX1_fold 32 = .ok (.iload_n 2, 1) := by decide +kernel
theorem dX1_fold_33 : decode cX1_fold 33 = .ok (.dup2, 1) := by decide +kernel
theorem dX1_fold_34 : decode cX1_fold 34 = .ok (.laload, 1) := by decide +kernel
theorem dX1_fold_35 : decode cX1_fold 35 = .ok (.ldc2_w 45, 3) := by decide +kernel
theorem dX1_fold_38 : decode cX1_fold 38 = .ok (.land, 1) := by decide +kernel
theorem dX1_fold_39 : decode cX1_fold 39 = .ok (.lastore, 1) := by decide +kernel
theorem dX1_fold_40 : decode cX1_fold 40 = .ok (.iinc 2 1, 3) := by decide +kernel
theorem dX1_fold_43 : decode cX1_fold 43 = .ok (.goto (-41), 3) := by decide +kernel
theorem dX1_fold_46 : decode cX1_fold 46 = .ok (.iconst 0, 1) := by decide +kernel
theorem dX1_fold_47 : decode cX1_fold 47 = .ok (.istore_n 2, 1) := by decide +kernel
theorem dX1_fold_48 : decode cX1_fold 48 = .ok (.iload_n 2, 1) := by decide +kernel
theorem dX1_fold_49 : decode cX1_fold 49 = .ok (.bipush 10, 2) := by decide +kernel
theorem dX1_fold_51 : decode cX1_fold 51 = .ok (.if_icmp .ge 32, 3) := by decide +kernel
theorem dX1_fold_54 : decode cX1_fold 54 = .ok (.aload_n 1, 1) := by decide +kernel
theorem dX1_fold_55 : decode cX1_fold 55 = .ok (.iload_n 2, 1) := by decide +kernel
theorem dX1_fold_56 : decode cX1_fold 56 = .ok (.aload_n 0, 1) := by decide +kernel
theorem dX1_fold_57 : decode cX1_fold 57 = .ok (.getfield 16, 3) := by decide +kernel
theorem dX1_fold_60 : decode cX1_fold 60 = .ok (.iload_n 2, 1) := by decide +kernel
theorem dX1_fold_61 : decode cX1_fold 61 = .ok (.laload, 1) := by decide +kernel
theorem dX1_fold_62 : decode cX1_fold 62 = .ok (.ldc2_w 77, 3) := by decide +kernel
theorem dX1_fold_65 : decode cX1_fold 65 = .ok (.aload_n 0, 1) := by decide +kernel
theorem dX1_fold_66 : decode cX1_fold 66 = .ok (.getfield 16, 3) := by decide +kernel
theorem dX1_fold_69 : decode cX1_fold 69 = .ok (.iload_n 2, 1) := by decide +kernel
theorem dX1_fold_70 : decode cX1_fold 70 = .ok (.bipush 10, 2) := by decide +kernel
theorem dX1_fold_72 : decode cX1_fold 72 = .ok (.iadd, 1) := by decide +kernel
theorem dX1_fold_73 : decode cX1_fold 73 = .ok (.laload, 1) := by decide +kernel
theorem dX1_fold_74 : decode cX1_fold 74 = .ok (.lmul, 1) := by decide +kernel
theorem dX1_fold_75 : decode cX1_fold 75 = .ok (.ladd, 1) := by decide +kernel
theorem dX1_fold_76 : decode cX1_fold 76 = .ok (.lastore, 1) := by decide +kernel
theorem dX1_fold_77 : decode cX1_fold 77 = .ok (.iinc 2 1, 3) := by decide +kernel
theorem dX1_fold_80 : decode cX1_fold 80 = .ok (.goto (-32), 3) := by decide +kernel
theorem dX1_fold_83 : decode cX1_fold 83 = .ok (.return_, 1) := by decide +kernel
theorem dX1_carry_0 : decode cX1_carry 0 = .ok (.iconst 0, 1) := by decide +kernel
theorem dX1_carry_1 : decode cX1_carry 1 = .ok (.istore_n 2, 1) := by decide +kernel
theorem dX1_carry_2 : decode cX1_carry 2 = .ok (.iload_n 2, 1) := by decide +kernel
theorem dX1_carry_3 : decode cX1_carry 3 = .ok (.bipush 9, 2) := by decide +kernel
theorem dX1_carry_5 : decode cX1_carry 5 = .ok (.if_icmp .ge 32, 3) := by decide +kernel
theorem dX1_carry_8 : decode cX1_carry 8 = .ok (.aload_n 1, 1) := by decide +kernel
theorem dX1_carry_9 : decode cX1_carry 9 = .ok (.iload_n 2, 1) := by decide +kernel
theorem dX1_carry_10 : decode cX1_carry 10 = .ok (.iconst 1, 1) := by decide +kernel
theorem dX1_carry_11 : decode cX1_carry 11 = .ok (.iadd, 1) := by decide +kernel
theorem dX1_carry_12 : decode cX1_carry 12 = .ok (.dup2, 1) := by decide +kernel
theorem dX1_carry_13 : decode cX1_carry 13 = .ok (.laload, 1) := by decide +kernel
theorem dX1_carry_14 : decode cX1_carry 14 = .ok (.aload_n 1, 1) := by decide +kernel
theorem dX1_carry_15 : decode cX1_carry 15 = .ok (.iload_n 2, 1) := by decide +kernel
theorem dX1_carry_16 : decode cX1_carry 16 = .ok (.laload, 1) := by decide +kernel
theorem dX1_carry_17 : decode cX1_carry 17 = .ok (.bipush 26, 2) := by decide +kernel
theorem dX1_carry_19 : decode cX1_carry 19 = .ok (.lshr, 1) := by decide +kernel
theorem dX1_carry_20 : decode cX1_carry 20 = .ok (.ladd, 1) := by decide +kernel
theorem dX1_carry_21 : decode cX1_carry 21 = .ok (.lastore, 1) := by decide +kernel
theorem dX1_carry_22 : decode cX1_carry 22 = .ok (.aload_n 1, 1) := by decide +kernel
theorem dX1_carry_23 : decode cX1_carry 23 = .ok (.iload_n 2, 1) := by decide +kernel
theorem dX1_carry_24 : decode cX1_carry 24 = .ok (.dup2, 1) := by decide +kernel
theorem dX1_carry_25 : decode cX1_carry 25 = .ok (.laload, 1) := by decide +kernel
theorem dX1_carry_26 : decode cX1_carry 26 = .ok (.ldc2_w 45, 3) := by decide +kernel
theorem dX1_carry_29 : decode cX1_carry 29 = .ok (.land, 1) := by decide +kernel
theorem dX1_carry_30 : decode cX1_carry 30 = .ok (.lastore, 1) := by decide +kernel
theorem dX1_carry_31 : decode cX1_carry 31 = .ok (.iinc 2 1, 3) := by decide +kernel
theorem dX1_carry_34 : decode cX1_carry 34 = .ok (.goto (-32), 3) := by decide +kernel
theorem dX1_carry_37 : decode cX1_carry 37 = .ok (.aload_n 1, 1) := by decide +kernel
theorem dX1_carry_38 : decode cX1_carry 38 = .ok (.bipush 9, 2) := by decide +kernel
theorem dX1_carry_40 : decode cX1_carry 40 = .ok (.laload, 1) := by decide +kernel
theorem dX1_carry_41 : decode cX1_carry 41 = .ok (.bipush 21, 2) := by decide +kernel
theorem dX1_carry_43 : decode cX1_carry 43 = .ok (.lshr, 1) := by decide +kernel
theorem dX1_carry_44 : decode cX1_carry 44 = .ok (.lstore_n 2, 1) := by decide +kernel
theorem dX1_carry_45 : decode cX1_carry 45 = .ok (.aload_n 1, 1) := by decide +kernel
theorem dX1_carry_46 : decode cX1_carry 46 = .ok (.bipush 9, 2) := by decide +kernel
theorem dX1_carry_48 : decode cX1_carry 48 = .ok (.dup2, 1) := by decide +kernel
theorem dX1_carry_49 : decode cX1_carry 49 = .ok (.laload, 1) := by decide +kernel
theorem dX1_carry_50 : decode cX1_carry 50 = .ok (.ldc2_w 47, 3) := by decide +kernel
theorem dX1_carry_53 : decode cX1_carry 53 = .ok (.land, 1) := by decide +kernel
theorem dX1_carry_54 : decode cX1_carry 54 = .ok (.lastore, 1) := by decide +kernel
theorem dX1_carry_55 : decode cX1_carry 55 = .ok (.aload_n 1, 1) := by decide +kernel
theorem dX1_carry_56 : decode cX1_carry 56 = .ok (.iconst 0, 1) := by decide +kernel
theorem dX1_carry_57 : decode cX1_carry 57 = .ok (.dup2, 1) := by decide +kernel
theorem dX1_carry_58 : decode cX1_carry 58 = .ok (.laload, 1) := by decide +kernel
theorem dX1_carry_59 : decode cX1_carry 59 = .ok (.ldc2_w 79, 3) := by decide +kernel
theorem dX1_carry_62 : decode cX1_carry 62 = .ok (.lload_n 2, 1) := by decide +kernel
theorem dX1_carry_63 : decode cX1_carry 63 = .ok (.lmul, 1) := by decide +kernel
theorem dX1_carry_64 : decode cX1_carry 64 = .ok (.ladd, 1) := by decide +kernel
theorem dX1_carry_65 : decode cX1_carry 65 = .ok (.lastore, 1) := by decide +kernel
theorem dX1_carry_66 : decode cX1_carry 66 = .ok (.return_, 1) := by decide +kernel
theorem dX1_makeExact_0 : decode cX1_makeExact 0 = .ok (.aload_n 0, 1) := by decide +kernel
theorem dX1_makeExact_1 : decode cX1_makeExact 1 = .ok (.aload_n 1, 1) := by decide +kernel
theorem dX1_makeExact_2 : decode cX1_makeExact 2 = .ok (.aload_n 0, 1) := by decide +kernel
theorem dX1_makeExact_3 : decode cX1_makeExact 3 = .ok (.getfield 19, 3) := by decide +kernel
theorem dX1_makeExact_6 : decode cX1_makeExact 6 = .ok (.invokevirtual 81, 3) := by decide +kernel
theorem dX1_makeExact_9 : decode cX1_makeExact 9 = .ok (.aload_n 0, 1) := by decide +kernel
theorem dX1_makeExact_10 : decode cX1_makeExact 10 = .ok (.aload_n 0, 1) := by decide +kernel
theorem dX1_makeExact_11 : decode cX1_makeExact 11 = .ok (.getfield 19, 3) := by decide +kernel
theorem dX1_makeExact_14 : decode cX1_makeExact 14 = .ok (.invokevirtual 69, 3) := by decide +kernel
theorem dX1_makeExact_17 : decode cX1_makeExact 17 = .ok (.aload_n 0, 1) := by decide +kernel
theorem dX1_makeExact_18 : decode cX1_makeExact 18 = .ok (.getfield 19, 3) := by decide +kernel
theorem dX1_makeExact_21 : decode cX1_makeExact 21 = .ok (.iconst 0, 1) := by decide +kernel
theorem dX1_makeExact_22 : decode cX1_makeExact 22 = .ok (.dup2, 1) := by decide +kernel
theorem dX1_makeExact_23 : decode cX1_makeExact 23 = .ok (.laload, 1) := by decide +kernel
theorem dX1_makeExact_24 : decode cX1_makeExact 24 = .ok (.ldc2_w 79, 3) := by decide +kernel
theorem dX1_makeExact_27 : decode cX1_makeExact 27 = .ok (.ladd, 1) := by decide +kernel
theorem dX1_makeExact_28 : decode cX1_makeExact 28 = .ok (.lastore, 1) := by decide +kernel
theorem dX1_makeExact_29 : decode cX1_makeExact 29 = .ok (.aload_n 0, 1) := by decide +kernel
theorem dX1_makeExact_30 : decode cX1_makeExact 30 = .ok (.aload_n 0, 1) := by decide +kernel
theorem dX1_makeExact_31 : decode cX1_makeExact 31 = .ok (.getfield 19, 3) := by decide +kernel
theorem dX1_makeExact_34 : decode cX1_makeExact 34 = .ok (.invokevirtual 69, 3) := by decide +kernel
theorem dX1_makeExact_37 : decode cX1_makeExact 37 = .ok (.aload_n 0, 1) := by decide +kernel
theorem dX1_makeExact_38 : decode cX1_makeExact 38 = .ok (.getfield 19, 3) := by decide +kernel
theorem dX1_makeExact_41 : decode cX1_makeExact 41 = .ok (.iconst 0, 1) := by decide +kernel
theorem dX1_makeExact_42 : decode cX1_makeExact 42 = .ok (.dup2, 1) := by decide +kernel
theorem dX1_makeExact_43 : decode cX1_makeExact 43 = .ok (.laload, 1) := by decide +kernel
theorem dX1_makeExact_44 : decode cX1_makeExact 44 = .ok (.ldc2_w 79, 3) := by decide +kernel
theorem dX1_makeExact_47 : decode cX1_makeExact 47 = .ok (.lsub, 1) := by decide +kernel
theorem dX1_makeExact_48 : decode cX1_makeExact 48 = .ok (.lastore, 1) := by decide +kernel
theorem dX1_makeExact_49 : decode cX1_makeExact 49 = .ok (.aload_n 0, 1) := by decide +kernel
theorem dX1_makeExact_50 : decode cX1_makeExact 50 = .ok (.aload_n 0, 1) := by decide +kernel
theorem dX1_makeExact_51 : decode cX1_makeExact 51 = .ok (.getfield 19, 3) := by decide +kernel
theorem dX1_makeExact_54 : decode cX1_makeExact 54 = .ok (.invokevirtual 69, 3) := by decide +kernel
theorem dX1_makeExact_57 : decode cX1_makeExact 57 = .ok (.return_, 1) := by decide +kernel
theorem dX1_isZero_0 : decode cX1_isZero 0 = .ok (.aload_n 0, 1) := by decide +kernel
theorem dX1_isZero_1 : decode cX1_isZero 1 = .ok (.aload_n 1, 1) := by decide +kernel
theorem dX1_isZero_2 : decode cX1_isZero 2 = .ok (.invokevirtual 49, 3) := by decide +kernel
theorem dX1_isZero_5 : decode cX1_isZero 5 = .ok (.aload_n 0, 1) := by decide +kernel
theorem dX1_isZero_6 : decode cX1_isZero 6 = .ok (.getfield 19, 3) := by decide +kernel
theorem dX1_isZero_9 : decode cX1_isZero 9 = .ok (.invokestatic 84, 3) := by decide +kernel
theorem dX1_isZero_12 : decode cX1_isZero 12 = .ok (.ireturn, 1) := by decide +kernel
theorem dX1_areSame_0 : decode cX1_areSame 0 = .ok (.aload_n 0, 1) := by decide +kernel
theorem dX1_areSame_1 : decode cX1_areSame 1 = .ok (.aload_n 1, 1) := by decide +kernel
theorem dX1_areSame_2 : decode cX1_areSame 2 = .ok (.aload_n 2, 1) := by decide +kernel
theorem dX1_areSame_3 : decode cX1_areSame 3 = .ok (.aload_n 0, 1) := by decide +kernel
theorem dX1_areSame_4 : decode cX1_areSame 4 = .ok (.getfield 22, 3) := by decide +kernel
theorem dX1_areSame_7 : decode cX1_areSame 7 = .ok (.invokevirtual 65, 3) := by decide +kernel
theorem dX1_areSame_10 : decode cX1_areSame 10 = .ok (.aload_n 0, 1) := by decide +kernel
theorem dX1_areSame_11 : decode cX1_areSame 11 = .ok (.aload_n 0, 1) := by decide +kernel
theorem dX1_areSame_12 : decode cX1_areSame 12 = .ok (.getfield 22, 3) := by decide +kernel
theorem dX1_areSame_15 : decode cX1_areSame 15 = .ok (.invokevirtual 49, 3) := by decide +kernel
theorem dX1_areSame_18 : decode cX1_areSame 18 = .ok (.aload_n 0, 1) := by decide +kernel
theorem dX1_areSame_19 : decode cX1_areSame 19 = .ok (.getfield 19, 3) := by decide +kernel
theorem dX1_areSame_22 : decode cX1_areSame 22 = .ok (.invokestatic 84, 3) := by decide +kernel
theorem dX1_areSame_25 : decode cX1_areSame 25 = .ok (.ireturn, 1) := by decide +kernel
theorem dX1_isNothing_0 : decode cX1_isNothing 0 = .ok (.lconst 0, 1) := by decide +kernel
theorem dX1_isNothing_1 : decode cX1_isNothing 1 = .ok (.lstore_n 1, 1) := by decide +kernel
theorem dX1_isNothing_2 : decode cX1_isNothing 2 = .ok (.iconst 0, 1) := by decide +kernel
theorem dX1_isNothing_3 : decode cX1_isNothing 3 = .ok (.istore_n 3, 1) := by decide +kernel
theorem dX1_isNothing_4 : decode cX1_isNothing 4 = .ok (.iload_n 3, 1) := by decide +kernel
theorem dX1_isNothing_5 : decode cX1_isNothing 5 = .ok (.bipush 10, 2) := by decide +kernel
theorem dX1_isNothing_7 : decode cX1_isNothing 7 = .ok (.if_icmp .ge 15, 3) := by decide +kernel
theorem dX1_isNothing_10 : decode cX1_isNothing 10 = .ok (.lload_n 1, 1) := by decide +kernel
theorem dX1_isNothing_11 : decode cX1_isNothing 11 = .ok (.aload_n 0, 1) := by decide +kernel
theorem dX1_isNothing_12 : decode cX1_isNothing 12 = .ok (.iload_n 3, 1) := by decide +kernel
theorem dX1_isNothing_13 : decode cX1_isNothing 13 = .ok (.laload, 1) := by decide +kernel
theorem dX1_isNothing_14 : decode cX1_isNothing 14 = .ok (.lor, 1) := by decide +kernel
theorem dX1_isNothing_15 : decode cX1_isNothing 15 = .ok (.lstore_n 1, 1) := by decide +kernel
theorem dX1_isNothing_16 : decode cX1_isNothing 16 = .ok (.iinc 3 1, 3) := by decide +kernel
theorem dX1_isNothing_19 : decode cX1_isNothing 19 = .ok (.goto (-15), 3) := by decide +kernel
theorem dX1_isNothing_22 : decode cX1_isNothing 22 = .ok (.lload_n 1, 1) := by decide +kernel
theorem dX1_isNothing_23 : decode cX1_isNothing 23 = .ok (.lconst 0, 1) := by decide +kernel
theorem dX1_isNothing_24 : decode cX1_isNothing 24 = .ok (.lcmp, 1) := by decide +kernel
theorem dX1_isNothing_25 : decode cX1_isNothing 25 = .ok (.ifCond .ne 7, 3) := by decide +kernel
theorem dX1_isNothing_28 : decode cX1_isNothing 28 = .ok (.iconst 1, 1) := by decide +kernel
theorem dX1_isNothing_29 : decode cX1_isNothing 29 = .ok (.goto 4, 3) := by decide +kernel
theorem dX1_isNothing_32 : decode cX1_isNothing 32 = .ok (.iconst 0, 1) := by decide +kernel
theorem dX1_isNothing_33 : decode cX1_isNothing 33 = .ok (.ireturn, 1) := by decide +kernel
theorem dX1_isOdd_0 : decode cX1_isOdd 0 = .ok (.aload_n 0, 1) := by decide +kernel
theorem dX1_isOdd_1 : decode cX1_isOdd 1 = .ok (.aload_n 1, 1) := by decide +kernel
theorem dX1_isOdd_2 : decode cX1_isOdd 2 = .ok (.invokevirtual 49, 3) := by decide +kernel
theorem dX1_isOdd_5 : decode cX1_isOdd 5 = .ok (.aload_n 0, 1) := by decide +kernel
theorem dX1_isOdd_6 : decode cX1_isOdd 6 = .ok (.getfield 19, 3) := by decide +kernel
theorem dX1_isOdd_9 : decode cX1_isOdd 9 = .ok (.iconst 0, 1) := by decide +kernel
theorem dX1_isOdd_10 : decode cX1_isOdd 10 = .ok (.laload, 1) := by decide +kernel
theorem dX1_isOdd_11 : decode cX1_isOdd 11 = .ok (.lconst 1, 1) := by decide +kernel
theorem dX1_isOdd_12 : decode cX1_isOdd 12 = .ok (.land, 1) := by decide +kernel
theorem dX1_isOdd_13 : decode cX1_isOdd 13 = .ok (.lconst 1, 1) := by decide +kernel
theorem dX1_isOdd_14 : decode cX1_isOdd 14 = .ok (.lcmp, 1) := by decide +kernel
theorem dX1_isOdd_15 : decode cX1_isOdd 15 = .ok (.ifCond .ne 7, 3) := by decide +kernel
theorem dX1_isOdd_18 : decode cX1_isOdd 18 = .ok (.iconst 1, 1) := by decide +kernel
theorem dX1_isOdd_19 : decode cX1_isOdd 19 = .ok (.goto 4, 3) := by decide +kernel
theorem dX1_isOdd_22 : decode cX1_isOdd 22 = .ok (.iconst 0, 1) := by decide +kernel
theorem dX1_isOdd_23 : decode cX1_isOdd 23 = .ok (.ireturn, 1) := by decide +kernel
theorem dX1_raise_0 : decode cX1_raise 0 = .ok (.aload_n 0, 1) := by decide +kernel
theorem dX1_raise_1 : decode cX1_raise 1 = .ok (.aload_n 0, 1) := by decide +kernel
theorem dX1_raise_2 : decode cX1_raise 2 = .ok (.getfield 33, 3) := by decide +kernel
theorem dX1_raise_5 : decode cX1_raise 5 = .ok (.iconst 0, 1) := by decide +kernel
theorem dX1_raise_6 : decode cX1_raise 6 = .ok (.aaload, 1) := by decide +kernel
theorem dX1_raise_7 : decode cX1_raise 7 = .ok (.lconst 1, 1) := by decide +kernel
theorem dX1_raise_8 : decode cX1_raise 8 = .ok (.invokevirtual 88, 3) := by decide +kernel
theorem dX1_raise_11 : decode cX1_raise 11 = .ok (.aload_n 0, 1) := by decide +kernel
theorem dX1_raise_12 : decode cX1_raise 12 = .ok (.aload_n 1, 1) := by decide +kernel
theorem dX1_raise_13 : decode cX1_raise 13 = .ok (.aload_n 0, 1) := by decide +kernel
theorem dX1_raise_14 : decode cX1_raise 14 = .ok (.getfield 33, 3) := by decide +kernel
theorem dX1_raise_17 : decode cX1_raise 17 = .ok (.iconst 1, 1) := by decide +kernel
theorem dX1_raise_18 : decode cX1_raise 18 = .ok (.aaload, 1) := by decide +kernel
theorem dX1_raise_19 : decode cX1_raise 19 = .ok (.invokevirtual 81, 3) := by decide +kernel
theorem dX1_raise_22 : decode cX1_raise 22 = .ok (.iconst 2, 1) := by decide +kernel
theorem dX1_raise_23 : decode cX1_raise 23 = .ok (.istore 4, 2) := by decide +kernel
theorem dX1_raise_25 : decode cX1_raise 25 = .ok (.iload 4, 2) := by decide +kernel
theorem dX1_raise_27 : decode cX1_raise 27 = .ok (.aload_n 0, 1) := by decide +kernel
theorem dX1_raise_28 : decode cX1_raise 28 = .ok (.getfield 33, 3) := by decide +kernel
theorem dX1_raise_31 : decode cX1_raise 31 = .ok (.arraylength, 1) := by decide +kernel
theorem dX1_raise_32 : decode cX1_raise 32 = .ok (.if_icmp .ge 35, 3) := by decide +kernel
theorem dX1_raise_35 : decode cX1_raise 35 = .ok (.aload_n 0, 1) := by decide +kernel
theorem dX1_raise_36 : decode cX1_raise 36 = .ok (.aload_n 0, 1) := by decide +kernel
theorem dX1_raise_37 : decode cX1_raise 37 = .ok (.getfield 33, 3) := by decide +kernel
theorem dX1_raise_40 : decode cX1_raise 40 = .ok (.iload 4, 2) := by decide +kernel
theorem dX1_raise_42 : decode cX1_raise 42 = .ok (.iconst 1, 1) := by decide +kernel
theorem dX1_raise_43 : decode cX1_raise 43 = .ok (.isub, 1) := by decide +kernel
theorem dX1_raise_44 : decode cX1_raise 44 = .ok (.aaload, 1) := by decide +kernel
theorem dX1_raise_45 : decode cX1_raise 45 = .ok (.aload_n 0, 1) := by decide +kernel
theorem dX1_raise_46 : decode cX1_raise 46 = .ok (.getfield 33, 3) := by decide +kernel
theorem dX1_raise_49 : decode cX1_raise 49 = .ok (.iconst 1, 1) := by decide +kernel
theorem dX1_raise_50 : decode cX1_raise 50 = .ok (.aaload, 1) := by decide +kernel
theorem dX1_raise_51 : decode cX1_raise 51 = .ok (.aload_n 0, 1) := by decide +kernel
theorem dX1_raise_52 : decode cX1_raise 52 = .ok (.getfield 33, 3) := by decide +kernel
theorem dX1_raise_55 : decode cX1_raise 55 = .ok (.iload 4, 2) := by decide +kernel
theorem dX1_raise_57 : decode cX1_raise 57 = .ok (.aaload, 1) := by decide +kernel
theorem dX1_raise_58 : decode cX1_raise 58 = .ok (.invokevirtual 91, 3) := by decide +kernel
theorem dX1_raise_61 : decode cX1_raise 61 = .ok (.iinc 4 1, 3) := by decide +kernel
theorem dX1_raise_64 : decode cX1_raise 64 = .ok (.goto (-39), 3) := by decide +kernel
theorem dX1_raise_67 : decode cX1_raise 67 = .ok (.aload_n 0, 1) := by decide +kernel
theorem dX1_raise_68 : decode cX1_raise 68 = .ok (.aload_n 3, 1) := by decide +kernel
theorem dX1_raise_69 : decode cX1_raise 69 = .ok (.lconst 1, 1) := by decide +kernel
theorem dX1_raise_70 : decode cX1_raise 70 = .ok (.invokevirtual 88, 3) := by decide +kernel
theorem dX1_raise_73 : decode cX1_raise 73 = .ok (.bipush 63, 2) := by decide +kernel
theorem dX1_raise_75 : decode cX1_raise 75 = .ok (.istore 4, 2) := by decide +kernel
theorem dX1_raise_77 : decode cX1_raise 77 = .ok (.iload 4, 2) := by decide +kernel
theorem dX1_raise_79 : decode cX1_raise 79 = .ok (.ifCond .lt 47, 3) := by decide +kernel
theorem dX1_raise_82 : decode cX1_raise 82 = .ok (.iconst 0, 1) := by decide +kernel
theorem dX1_raise_83 : decode cX1_raise 83 = .ok (.istore 5, 2) := by decide +kernel
theorem dX1_raise_85 : decode cX1_raise 85 = .ok (.iload 5, 2) := by decide +kernel
theorem dX1_raise_87 : decode cX1_raise 87 = .ok (.iconst 4, 1) := by decide +kernel
theorem dX1_raise_88 : decode cX1_raise 88 = .ok (.if_icmp .ge 15, 3) := by decide +kernel
theorem dX1_raise_91 : decode cX1_raise 91 = .ok (.aload_n 0, 1) := by decide +kernel
theorem dX1_raise_92 : decode cX1_raise 92 = .ok (.aload_n 3, 1) := by decide +kernel
theorem dX1_raise_93 : decode cX1_raise 93 = .ok (.aload_n 3, 1) := by decide +kernel
theorem dX1_raise_94 : decode cX1_raise 94 = .ok (.invokevirtual 94, 3) := by decide +kernel
theorem dX1_raise_97 : decode cX1_raise 97 = .ok (.iinc 5 1, 3) := by decide +kernel
theorem dX1_raise_100 : decode cX1_raise 100 = .ok (.goto (-15), 3) := by decide +kernel
theorem dX1_raise_103 : decode cX1_raise 103 = .ok (.aload_n 0, 1) := by decide +kernel
theorem dX1_raise_104 : decode cX1_raise 104 = .ok (.aload_n 3, 1) := by decide +kernel
theorem dX1_raise_105 : decode cX1_raise 105 = .ok (.aload_n 0, 1) := by decide +kernel
theorem dX1_raise_106 : decode cX1_raise 106 = .ok (.getfield 33, 3) := by decide +kernel
theorem dX1_raise_109 : decode cX1_raise 109 = .ok (.aload_n 2, 1) := by decide +kernel
theorem dX1_raise_110 : decode cX1_raise 110 = .ok (.iload 4, 2) := by decide +kernel
theorem dX1_raise_112 : decode cX1_raise 112 = .ok (.invokestatic 97, 3) := by decide +kernel
theorem dX1_raise_115 : decode cX1_raise 115 = .ok (.aaload, 1) := by decide +kernel
theorem dX1_raise_116 : decode cX1_raise 116 = .ok (.aload_n 3, 1) := by decide +kernel
theorem dX1_raise_117 : decode cX1_raise 117 = .ok (.invokevirtual 91, 3) := by decide +kernel
theorem dX1_raise_120 : decode cX1_raise 120 = .ok (.iinc 4 (-1), 3) := by decide +kernel
theorem dX1_raise_123 : decode cX1_raise 123 = .ok (.goto (-46), 3) := by decide +kernel
theorem dX1_raise_126 : decode cX1_raise 126 = .ok (.return_, 1) := by decide +kernel
theorem dX1_invert_0 : decode cX1_invert 0 = .ok (.aload_n 0, 1) := by decide +kernel
theorem dX1_invert_1 : decode cX1_invert 1 = .ok (.aload_n 1, 1) := by decide +kernel
theorem dX1_invert_2 : decode cX1_invert 2 = .ok (.getstatic 101, 3) := by decide +kernel
theorem dX1_invert_5 : decode cX1_invert 5 = .ok (.aload_n 2, 1) := by decide +kernel
theorem dX1_invert_6 : decode cX1_invert 6 = .ok (.invokevirtual 104, 3) := by decide +kernel
theorem dX1_invert_9 : decode cX1_invert 9 = .ok (.return_, 1) := by decide +kernel
theorem dX1_findRoot_0 : decode cX1_findRoot 0 = .ok (.aload_n 0, 1) := by decide +kernel
theorem dX1_findRoot_1 : decode cX1_findRoot 1 = .ok (.aload_n 1, 1) := by decide +kernel
theorem dX1_findRoot_2 : decode cX1_findRoot 2 = .ok (.getstatic 107, 3) := by decide +kernel
theorem dX1_findRoot_5 : decode cX1_findRoot 5 = .ok (.aload_n 0, 1) := by decide +kernel
theorem dX1_findRoot_6 : decode cX1_findRoot 6 = .ok (.getfield 25, 3) := by decide +kernel
theorem dX1_findRoot_9 : decode cX1_findRoot 9 = .ok (.invokevirtual 104, 3) := by decide +kernel
theorem dX1_findRoot_12 : decode cX1_findRoot 12 = .ok (.aload_n 0, 1) := by decide +kernel
theorem dX1_findRoot_13 : decode cX1_findRoot 13 = .ok (.aload_n 0, 1) := by decide +kernel
theorem dX1_findRoot_14 : decode cX1_findRoot 14 = .ok (.getfield 25, 3) := by decide +kernel
theorem dX1_findRoot_17 : decode cX1_findRoot 17 = .ok (.aload_n 0, 1) := by decide +kernel
theorem dX1_findRoot_18 : decode cX1_findRoot 18 = .ok (.getfield 28, 3) := by decide +kernel
theorem dX1_findRoot_21 : decode cX1_findRoot 21 = .ok (.invokevirtual 94, 3) := by decide +kernel
theorem dX1_findRoot_24 : decode cX1_findRoot 24 = .ok (.aload_n 0, 1) := by decide +kernel
theorem dX1_findRoot_25 : decode cX1_findRoot 25 = .ok (.aload_n 0, 1) := by decide +kernel
theorem dX1_findRoot_26 : decode cX1_findRoot 26 = .ok (.getfield 28, 3) := by decide +kernel
theorem dX1_findRoot_29 : decode cX1_findRoot 29 = .ok (.aload_n 1, 1) := by decide +kernel
theorem dX1_findRoot_30 : decode cX1_findRoot 30 = .ok (.invokevirtual 110, 3) := by decide +kernel
theorem dX1_findRoot_33 : decode cX1_findRoot 33 = .ok (.ifCond .ne 31, 3) := by decide +kernel
theorem dX1_findRoot_36 : decode cX1_findRoot 36 = .ok (.aload_n 0, 1) := by decide +kernel
theorem dX1_findRoot_37 : decode cX1_findRoot 37 = .ok (.aload_n 0, 1) := by decide +kernel
theorem dX1_findRoot_38 : decode cX1_findRoot 38 = .ok (.getfield 25, 3) := by decide +kernel
theorem dX1_findRoot_41 : decode cX1_findRoot 41 = .ok (.aload_n 0, 1) := by decide +kernel
theorem dX1_findRoot_42 : decode cX1_findRoot 42 = .ok (.getfield 13, 3) := by decide +kernel
theorem dX1_findRoot_45 : decode cX1_findRoot 45 = .ok (.aload_n 0, 1) := by decide +kernel
theorem dX1_findRoot_46 : decode cX1_findRoot 46 = .ok (.getfield 25, 3) := by decide +kernel
theorem dX1_findRoot_49 : decode cX1_findRoot 49 = .ok (.invokevirtual 91, 3) := by decide +kernel
theorem dX1_findRoot_52 : decode cX1_findRoot 52 = .ok (.aload_n 0, 1) := by decide +kernel
theorem dX1_findRoot_53 : decode cX1_findRoot 53 = .ok (.aload_n 0, 1) := by decide +kernel
theorem dX1_findRoot_54 : decode cX1_findRoot 54 = .ok (.getfield 25, 3) := by decide +kernel
theorem dX1_findRoot_57 : decode cX1_findRoot 57 = .ok (.aload_n 0, 1) := by decide +kernel
theorem dX1_findRoot_58 : decode cX1_findRoot 58 = .ok (.getfield 28, 3) := by decide +kernel
theorem dX1_findRoot_61 : decode cX1_findRoot 61 = .ok (.invokevirtual 94, 3) := by decide +kernel
theorem dX1_findRoot_64 : decode cX1_findRoot 64 = .ok (.aload_n 0, 1) := by decide +kernel
theorem dX1_findRoot_65 : decode cX1_findRoot 65 = .ok (.aload_n 0, 1) := by decide +kernel
theorem dX1_findRoot_66 : decode cX1_findRoot 66 = .ok (.getfield 28, 3) := by decide +kernel
theorem dX1_findRoot_69 : decode cX1_findRoot 69 = .ok (.aload_n 1, 1) := by decide +kernel
theorem dX1_findRoot_70 : decode cX1_findRoot 70 = .ok (.invokevirtual 110, 3) := by decide +kernel
theorem dX1_findRoot_73 : decode cX1_findRoot 73 = .ok (.ifCond .ne 5, 3) := by decide +kernel
theorem dX1_findRoot_76 : decode cX1_findRoot 76 = .ok (.iconst 0, 1) := by decide +kernel
theorem dX1_findRoot_77 : decode cX1_findRoot 77 = .ok (.ireturn, 1) := by decide +kernel
theorem dX1_findRoot_78 : decode cX1_findRoot 78 = .ok (.aload_n 0, 1) := by decide +kernel
theorem dX1_findRoot_79 : decode cX1_findRoot 79 = .ok (.aload_n 0, 1) := by decide +kernel
theorem dX1_findRoot_80 : decode cX1_findRoot 80 = .ok (.getfield 25, 3) := by decide +kernel
theorem dX1_findRoot_83 : decode cX1_findRoot 83 = .ok (.invokevirtual 114, 3) := by decide +kernel
theorem dX1_findRoot_86 : decode cX1_findRoot 86 = .ok (.ifCond .eq 15, 3) := by decide +kernel
theorem dX1_findRoot_89 : decode cX1_findRoot 89 = .ok (.aload_n 0, 1) := by decide +kernel
theorem dX1_findRoot_90 : decode cX1_findRoot 90 = .ok (.aload_n 0, 1) := by decide +kernel
theorem dX1_findRoot_91 : decode cX1_findRoot 91 = .ok (.getfield 25, 3) := by decide +kernel
theorem dX1_findRoot_94 : decode cX1_findRoot 94 = .ok (.aload_n 0, 1) := by decide +kernel
theorem dX1_findRoot_95 : decode cX1_findRoot 95 = .ok (.getfield 25, 3) := by decide +kernel
theorem dX1_findRoot_98 : decode cX1_findRoot 98 = .ok (.invokevirtual 117, 3) := by decide +kernel
theorem dX1_findRoot_101 : decode cX1_findRoot 101 = .ok (.aload_n 0, 1) := by decide +kernel
theorem dX1_findRoot_102 : decode cX1_findRoot 102 = .ok (.aload_n 0, 1) := by decide +kernel
theorem dX1_findRoot_103 : decode cX1_findRoot 103 = .ok (.getfield 25, 3) := by decide +kernel
theorem dX1_findRoot_106 : decode cX1_findRoot 106 = .ok (.aload_n 2, 1) := by decide +kernel
theorem dX1_findRoot_107 : decode cX1_findRoot 107 = .ok (.invokevirtual 81, 3) := by decide +kernel
theorem dX1_findRoot_110 : decode cX1_findRoot 110 = .ok (.iconst 1, 1) := by decide +kernel
theorem dX1_findRoot_111 : decode cX1_findRoot 111 = .ok (.ireturn, 1) := by decide +kernel
theorem dX2_init_0 : decode cX2_init 0 = .ok (.aload_n 0, 1) := by decide +kernel
theorem dX2_init_1 : decode cX2_init 1 = .ok (.invokespecial 1, 3) := by decide +kernel
theorem dX2_init_4 : decode cX2_init 4 = .ok (.aload_n 0, 1) := by decide +kernel
theorem dX2_init_5 : decode cX2_init 5 = .ok (.iconst 4, 1) := by decide +kernel
theorem dX2_init_6 : decode cX2_init 6 = .ok (.newarray .long, 2) := by decide +kernel
theorem dX2_init_8 : decode cX2_init 8 = .ok (.putfield 9, 3) := by decide +kernel
theorem dX2_init_11 : decode cX2_init 11 = .ok (.aload_n 0, 1) := by decide +kernel
theorem dX2_init_12 : decode cX2_init 12 = .ok (.bipush 10, 2) := by decide +kernel
theorem dX2_init_14 : decode cX2_init 14 = .ok (.newarray .long, 2) := by decide +kernel
theorem dX2_init_16 : decode cX2_init 16 = .ok (.putfield 17, 3) := by decide +kernel
theorem dX2_init_19 : decode cX2_init 19 = .ok (.aload_n 0, 1) := by decide +kernel
theorem dX2_init_20 : decode cX2_init 20 = .ok (.bipush 10, 2) := by decide +kernel
theorem dX2_init_22 : decode cX2_init 22 = .ok (.newarray .long, 2) := by decide +kernel
theorem dX2_init_24 : decode cX2_init 24 = .ok (.putfield 20, 3) := by decide +kernel
theorem dX2_init_27 : decode cX2_init 27 = .ok (.aload_n 0, 1) := by decide +kernel
theorem dX2_init_28 : decode cX2_init 28 = .ok (.bipush 10, 2) := by decide +kernel
theorem dX2_init_30 : decode cX2_init 30 = .ok (.newarray .long, 2) := by decide +kernel
theorem dX2_init_32 : decode cX2_init 32 = .ok (.putfield 23, 3) := by decide +kernel
theorem dX2_init_35 : decode cX2_init 35 = .ok (.aload_n 0, 1) := by decide +kernel
theorem dX2_init_36 : decode cX2_init 36 = .ok (.bipush 10, 2) := by decide +kernel
theorem dX2_init_38 : decode cX2_init 38 = .ok (.newarray .long, 2) := by decide +kernel
theorem dX2_init_40 : decode cX2_init 40 = .ok (.putfield 26, 3) := by decide +kernel
theorem dX2_init_43 : decode cX2_init 43 = .ok (.aload_n 0, 1) := by decide +kernel
theorem dX2_init_44 : decode cX2_init 44 = .ok (.bipush 10, 2) := by decide +kernel
theorem dX2_init_46 : decode cX2_init 46 = .ok (.newarray .long, 2) := by decide +kernel
theorem dX2_init_48 : decode cX2_init 48 = .ok (.putfield 29, 3) := by decide +kernel
theorem dX2_init_51 : decode cX2_init 51 = .ok (.aload_n 0, 1) := by decide +kernel
theorem dX2_init_52 : decode cX2_init 52 = .ok (.bipush 10, 2) := by decide +kernel
theorem dX2_init_54 : decode cX2_init 54 = .ok (.newarray .long, 2) := by decide +kernel
theorem dX2_init_56 : decode cX2_init 56 = .ok (.putfield 32, 3) := by decide +kernel
theorem dX2_init_59 : decode cX2_init 59 = .ok (.aload_n 0, 1) := by decide +kernel
theorem dX2_init_60 : decode cX2_init 60 = .ok (.bipush 10, 2) := by decide +kernel
theorem dX2_init_62 : decode cX2_init 62 = .ok (.newarray .long, 2) := by decide +kernel
theorem dX2_init_64 : decode cX2_init 64 = .ok (.putfield 35, 3) := by decide +kernel
theorem dX2_init_67 : decode cX2_init 67 = .ok (.aload_n 0, 1) := by decide +kernel
theorem dX2_init_68 : decode cX2_init 68 = .ok (.bipush 10, 2) := by decide +kernel
theorem dX2_init_70 : decode cX2_init 70 = .ok (.newarray .long, 2) := by decide +kernel
theorem dX2_init_72 : decode cX2_init 72 = .ok (.putfield 38, 3) := by decide +kernel
theorem dX2_init_75 : decode cX2_init 75 = .ok (.aload_n 0, 1) := by decide +kernel
theorem dX2_init_76 : decode cX2_init 76 = .ok (.bipush 10, 2) := by decide +kernel
theorem dX2_init_78 : decode cX2_init 78 = .ok (.newarray .long, 2) := by decide +kernel
theorem dX2_init_80 : decode cX2_init 80 = .ok (.putfield 41, 3) := by decide +kernel
theorem dX2_init_83 : decode cX2_init 83 = .ok (.aload_n 0, 1) := by decide +kernel
theorem dX2_init_84 : decode cX2_init 84 = .ok (.aload_n 1, 1) := by decide +kernel
theorem dX2_init_85 : decode cX2_init 85 = .ok (.putfield 44, 3) := by decide +kernel
theorem dX2_init_88 : decode cX2_init 88 = .ok (.return_, 1) := by decide +kernel
theorem dX2_climb_0 : decode cX2_climb 0 = .ok (.aload_n 1, 1) := by decide +kernel
theorem dX2_climb_1 : decode cX2_climb 1 = .ok (.aload_n 0, 1) := by decide +kernel
theorem dX2_climb_2 : decode cX2_climb 2 = .ok (.getfield 9, 3) := by decide +kernel
theorem dX2_climb_5 : decode cX2_climb 5 = .ok (.invokestatic 48, 3) := by decide +kernel
theorem dX2_climb_8 : decode cX2_climb 8 = .ok (.aload_n 0, 1) := by decide +kernel
theorem dX2_climb_9 : decode cX2_climb 9 = .ok (.getfield 9, 3) := by decide +kernel
theorem dX2_climb_12 : decode cX2_climb 12 = .ok (.invokestatic 52, 3) := by decide +kernel
theorem dX2_climb_15 : decode cX2_climb 15 = .ok (.aload_n 0, 1) := by decide +kernel
theorem dX2_climb_16 : decode cX2_climb 16 = .ok (.getfield 44, 3) := by decide +kernel
theorem dX2_climb_19 : decode cX2_climb 19 = .ok (.aload_n 0, 1) := by decide +kernel
theorem dX2_climb_20 : decode cX2_climb 20 = .ok (.getfield 17, 3) := by decide +kernel
theorem dX2_climb_23 : decode cX2_climb 23 = .ok (.lconst 1, 1) := by decide +kernel
theorem dX2_climb_24 : decode cX2_climb 24 = .ok (.invokevirtual 56, 3) := by decide +kernel
theorem dX2_climb_27 : decode cX2_climb 27 = .ok (.aload_n 0, 1) := by decide +kernel
theorem dX2_climb_28 : decode cX2_climb 28 = .ok (.getfield 44, 3) := by decide +kernel
theorem dX2_climb_31 : decode cX2_climb 31 = .ok (.aload_n 0, 1) := by decide +kernel
theorem dX2_climb_32 : decode cX2_climb 32 = .ok (.getfield 20, 3) := by decide +kernel
theorem dX2_climb_35 : decode cX2_climb 35 = .ok (.lconst 0, 1) := by decide +kernel
theorem dX2_climb_36 : decode cX2_climb 36 = .ok (.invokevirtual 56, 3) := by decide +kernel
theorem dX2_climb_39 : decode cX2_climb 39 = .ok (.aload_n 0, 1) := by decide +kernel
theorem dX2_climb_40 : decode cX2_climb 40 = .ok (.getfield 44, 3) := by decide +kernel
theorem dX2_climb_43 : decode cX2_climb 43 = .ok (.aload_n 2, 1) := by decide +kernel
theorem dX2_climb_44 : decode cX2_climb 44 = .ok (.aload_n 0, 1) := by decide +kernel
theorem dX2_climb_45 : decode cX2_climb 45 = .ok (.getfield 23, 3) := by decide +kernel
theorem dX2_climb_48 : decode cX2_climb 48 = .ok (.invokevirtual 60, 3) := by decide +kernel
theorem dX2_climb_51 : decode cX2_climb 51 = .ok (.aload_n 0, 1) := by decide +kernel
theorem dX2_climb_52 : decode cX2_climb 52 = .ok (.getfield 44, 3) := by decide +kernel
theorem dX2_climb_55 : decode cX2_climb 55 = .ok (.aload_n 0, 1) := by decide +kernel
theorem dX2_climb_56 : decode cX2_climb 56 = .ok (.getfield 26, 3) := by decide +kernel
theorem dX2_climb_59 : decode cX2_climb 59 = .ok (.lconst 1, 1) := by decide +kernel
theorem dX2_climb_60 : decode cX2_climb 60 = .ok (.invokevirtual 56, 3) := by decide +kernel
theorem dX2_climb_63 : decode cX2_climb 63 = .ok (.sipush 254, 3) := by decide +kernel
theorem dX2_climb_66 : decode cX2_climb 66 = .ok (.istore 4, 2) := by decide +kernel
theorem dX2_climb_68 : decode cX2_climb 68 = .ok (.iload 4, 2) := by decide +kernel
theorem dX2_climb_70 : decode cX2_climb 70 = .ok (.ifCond .lt 67, 3) := by decide +kernel
theorem dX2_climb_73 : decode cX2_climb 73 = .ok (.aload_n 0, 1) := by decide +kernel
theorem dX2_climb_74 : decode cX2_climb 74 = .ok (.getfield 9, 3) := by decide +kernel
theorem dX2_climb_77 : decode cX2_climb 77 = .ok (.iload 4, 2) := by decide +kernel
theorem dX2_climb_79 : decode cX2_climb 79 = .ok (.invokestatic 61, 3) := by decide +kernel
theorem dX2_climb_82 : decode cX2_climb 82 = .ok (.iconst 1, 1) := by decide +kernel
theorem dX2_climb_83 : decode cX2_climb 83 = .ok (.if_icmp .ne 27, 3) := by decide +kernel
theorem dX2_climb_86 : decode cX2_climb 86 = .ok (.aload_n 0, 1) := by decide +kernel
theorem dX2_climb_87 : decode cX2_climb 87 = .ok (.aload_n 0, 1) := by decide +kernel
theorem dX2_climb_88 : decode cX2_climb 88 = .ok (.getfield 23, 3) := by decide +kernel
theorem dX2_climb_91 : decode cX2_climb 91 = .ok (.aload_n 0, 1) := by decide +kernel
theorem dX2_climb_92 : decode cX2_climb 92 = .ok (.getfield 26, 3) := by decide +kernel
theorem dX2_climb_95 : decode cX2_climb 95 = .ok (.aload_n 0, 1) := by decide +kernel
theorem dX2_climb_96 : decode cX2_climb 96 = .ok (.getfield 17, 3) := by decide +kernel
theorem dX2_climb_99 : decode cX2_climb 99 = .ok (.aload_n 0, 1) := by decide +kernel
theorem dX2_climb_100 : decode cX2_climb 100 = .ok (.getfield 20, 3) := by decide +kernel
theorem dX2_climb_103 : decode cX2_climb 103 = .ok (.aload_n 2, 1) := by decide +kernel
theorem dX2_climb_104 : decode cX2_climb 104 = .ok (.invokevirtual 65, 3) := by decide +kernel
theorem dX2_climb_107 : decode cX2_climb 107 = .ok (.goto 24, 3) := by decide +kernel
theorem dX2_climb_110 : decode cX2_climb 110 = .ok (.aload_n 0, 1) := by decide +kernel
theorem dX2_climb_111 : decode cX2_climb 111 = .ok (.aload_n 0, 1) := by decide +kernel
theorem dX2_climb_112 : decode cX2_climb 112 = .ok (.getfield 17, 3) := by decide +kernel
theorem dX2_climb_115 : decode cX2_climb 115 = .ok (.aload_n 0, 1) := by decide +kernel
theorem dX2_climb_116 : decode cX2_climb 116 = .ok (.getfield 20, 3) := by decide +kernel
theorem dX2_climb_119 : decode cX2_climb 119 = .ok (.aload_n 0, 1) := by decide +kernel
theorem dX2_climb_120 : decode cX2_climb 120 = .ok (.getfield 23, 3) := by decide +kernel
theorem dX2_climb_123 : decode cX2_climb 123 = .ok (.aload_n 0, 1) := by decide +kernel
theorem dX2_climb_124 : decode cX2_climb 124 = .ok (.getfield 26, 3) := by decide +kernel
theorem dX2_climb_127 : decode cX2_climb 127 = .ok (.aload_n 2, 1) := by decide +kernel
theorem dX2_climb_128 : decode cX2_climb 128 = .ok (.invokevirtual 65, 3) := by decide +kernel
theorem dX2_climb_131 : decode cX2_climb 131 = .ok (.iinc 4 (-1), 3) := by decide +kernel
theorem dX2_climb_134 : decode cX2_climb 134 = .ok (.goto (-66), 3) := by decide +kernel
theorem dX2_climb_137 : decode cX2_climb 137 = .ok (.aload_n 0, 1) := by decide +kernel
theorem dX2_climb_138 : decode cX2_climb 138 = .ok (.getfield 44, 3) := by decide +kernel
theorem dX2_climb_141 : decode cX2_climb 141 = .ok (.aload_n 0, 1) := by decide +kernel
theorem dX2_climb_142 : decode cX2_climb 142 = .ok (.getfield 20, 3) := by decide +kernel
theorem dX2_climb_145 : decode cX2_climb 145 = .ok (.aload_n 0, 1) := by decide +kernel
theorem dX2_climb_146 : decode cX2_climb 146 = .ok (.getfield 20, 3) := by decide +kernel
theorem dX2_climb_149 : decode cX2_climb 149 = .ok (.invokevirtual 69, 3) := by decide +kernel
theorem dX2_climb_152 : decode cX2_climb 152 = .ok (.aload_n 0, 1) := by decide +kernel
theorem dX2_climb_153 : decode cX2_climb 153 = .ok (.getfield 44, 3) := by decide +kernel
theorem dX2_climb_156 : decode cX2_climb 156 = .ok (.aload_n 0, 1) := by decide +kernel
theorem dX2_climb_157 : decode cX2_climb 157 = .ok (.getfield 17, 3) := by decide +kernel
theorem dX2_climb_160 : decode cX2_climb 160 = .ok (.aload_n 0, 1) := by decide +kernel
theorem dX2_climb_161 : decode cX2_climb 161 = .ok (.getfield 20, 3) := by decide +kernel
theorem dX2_climb_164 : decode cX2_climb 164 = .ok (.aload_n 3, 1) := by decide +kernel
theorem dX2_climb_165 : decode cX2_climb 165 = .ok (.invokevirtual 72, 3) := by decide +kernel
theorem dX2_climb_168 : decode cX2_climb 168 = .ok (.return_, 1) := by decide +kernel
theorem dX2_step_0 : decode cX2_step 0 = .ok (.aload_n 0, 1) := by decide +kernel
theorem dX2_step_1 : decode cX2_step 1 = .ok (.getfield 44, 3) := by decide +kernel
theorem dX2_step_4 : decode cX2_step 4 = .ok (.aload_n 1, 1) := by decide +kernel
theorem dX2_step_5 : decode cX2_step 5 = .ok (.aload_n 2, 1) := by decide +kernel
theorem dX2_step_6 : decode cX2_step 6 = .ok (.aload_n 0, 1) := by decide +kernel
theorem dX2_step_7 : decode cX2_step 7 = .ok (.getfield 29, 3) := by decide +kernel
theorem dX2_step_10 : decode cX2_step 10 = .ok (.invokevirtual 76, 3) := by decide +kernel
theorem dX2_step_13 : decode cX2_step 13 = .ok (.aload_n 0, 1) := by decide +kernel
theorem dX2_step_14 : decode cX2_step 14 = .ok (.getfield 44, 3) := by decide +kernel
theorem dX2_step_17 : decode cX2_step 17 = .ok (.aload_n 1, 1) := by decide +kernel
theorem dX2_step_18 : decode cX2_step 18 = .ok (.aload_n 2, 1) := by decide +kernel
theorem dX2_step_19 : decode cX2_step 19 = .ok (.aload_n 0, 1) := by decide +kernel
theorem dX2_step_20 : decode cX2_step 20 = .ok (.getfield 32, 3) := by decide +kernel
theorem dX2_step_23 : decode cX2_step 23 = .ok (.invokevirtual 79, 3) := by decide +kernel
theorem dX2_step_26 : decode cX2_step 26 = .ok (.aload_n 0, 1) := by decide +kernel
theorem dX2_step_27 : decode cX2_step 27 = .ok (.getfield 44, 3) := by decide +kernel
theorem dX2_step_30 : decode cX2_step 30 = .ok (.aload_n 3, 1) := by decide +kernel
theorem dX2_step_31 : decode cX2_step 31 = .ok (.aload 4, 2) := by decide +kernel
theorem dX2_step_33 : decode cX2_step 33 = .ok (.aload_n 0, 1) := by decide +kernel
theorem dX2_step_34 : decode cX2_step 34 = .ok (.getfield 35, 3) := by decide +kernel
theorem dX2_step_37 : decode cX2_step 37 = .ok (.invokevirtual 76, 3) := by decide +kernel
theorem dX2_step_40 : decode cX2_step 40 = .ok (.aload_n 0, 1) := by decide +kernel
theorem dX2_step_41 : decode cX2_step 41 = .ok (.getfield 44, 3) := by decide +kernel
theorem dX2_step_44 : decode cX2_step 44 = .ok (.aload_n 3, 1) := by decide +kernel
theorem dX2_step_45 : decode cX2_step 45 = .ok (.aload 4, 2) := by decide +kernel
theorem dX2_step_47 : decode cX2_step 47 = .ok (.aload_n 0, 1) := by decide +kernel
theorem dX2_step_48 : decode cX2_step 48 = .ok (.getfield 38, 3) := by decide +kernel
theorem dX2_step_51 : decode cX2_step 51 = .ok (.invokevirtual 79, 3) := by decide +kernel
theorem dX2_step_54 : decode cX2_step 54 = .ok (.aload_n 0, 1) := by decide +kernel
theorem dX2_step_55 : decode cX2_step 55 = .ok (.getfield 44, 3) := by decide +kernel
theorem dX2_step_58 : decode cX2_step 58 = .ok (.aload_n 0, 1) := by decide +kernel
theorem dX2_step_59 : decode cX2_step 59 = .ok (.getfield 38, 3) := by decide +kernel
theorem dX2_step_62 : decode cX2_step 62 = .ok (.aload_n 0, 1) := by decide +kernel
theorem dX2_step_63 : decode cX2_step 63 = .ok (.getfield 29, 3) := by decide +kernel
theorem dX2_step_66 : decode cX2_step 66 = .ok (.aload_n 0, 1) := by decide +kernel
theorem dX2_step_67 : decode cX2_step 67 = .ok (.getfield 38, 3) := by decide +kernel
theorem dX2_step_70 : decode cX2_step 70 = .ok (.invokevirtual 72, 3) := by decide +kernel
theorem dX2_step_73 : decode cX2_step 73 = .ok (.aload_n 0, 1) := by decide +kernel
theorem dX2_step_74 : decode cX2_step 74 = .ok (.getfield 44, 3) := by decide +kernel
theorem dX2_step_77 : decode cX2_step 77 = .ok (.aload_n 0, 1) := by decide +kernel
theorem dX2_step_78 : decode cX2_step 78 = .ok (.getfield 35, 3) := by decide +kernel
theorem dX2_step_81 : decode cX2_step 81 = .ok (.aload_n 0, 1) := by decide +kernel
theorem dX2_step_82 : decode cX2_step 82 = .ok (.getfield 32, 3) := by decide +kernel
theorem dX2_step_85 : decode cX2_step 85 = .ok (.aload_n 0, 1) := by decide +kernel
theorem dX2_step_86 : decode cX2_step 86 = .ok (.getfield 35, 3) := by decide +kernel
theorem dX2_step_89 : decode cX2_step 89 = .ok (.invokevirtual 72, 3) := by decide +kernel
theorem dX2_step_92 : decode cX2_step 92 = .ok (.aload_n 0, 1) := by decide +kernel
theorem dX2_step_93 : decode cX2_step 93 = .ok (.getfield 44, 3) := by decide +kernel
theorem dX2_step_96 : decode cX2_step 96 = .ok (.aload_n 0, 1) := by decide +kernel
theorem dX2_step_97 : decode cX2_step 97 = .ok (.getfield 38, 3) := by decide +kernel
theorem dX2_step_100 : decode cX2_step 100 = .ok (.aload_n 0, 1) := by decide +kernel
theorem dX2_step_101 : decode cX2_step 101 = .ok (.getfield 35, 3) := by decide +kernel
theorem dX2_step_104 : decode cX2_step 104 = .ok (.aload_n 3, 1) := by decide +kernel
theorem dX2_step_105 : decode cX2_step 105 = .ok (.invokevirtual 76, 3) := by decide +kernel
theorem dX2_step_108 : decode cX2_step 108 = .ok (.aload_n 0, 1) := by decide +kernel
theorem dX2_step_109 : decode cX2_step 109 = .ok (.getfield 44, 3) := by decide +kernel
theorem dX2_step_112 : decode cX2_step 112 = .ok (.aload_n 3, 1) := by decide +kernel
theorem dX2_step_113 : decode cX2_step 113 = .ok (.aload_n 3, 1) := by decide +kernel
theorem dX2_step_114 : decode cX2_step 114 = .ok (.invokevirtual 82, 3) := by decide +kernel
theorem dX2_step_117 : decode cX2_step 117 = .ok (.aload_n 0, 1) := by decide +kernel
theorem dX2_step_118 : decode cX2_step 118 = .ok (.getfield 44, 3) := by decide +kernel
theorem dX2_step_121 : decode cX2_step 121 = .ok (.aload_n 0, 1) := by decide +kernel
theorem dX2_step_122 : decode cX2_step 122 = .ok (.getfield 38, 3) := by decide +kernel
theorem dX2_step_125 : decode cX2_step 125 = .ok (.aload_n 0, 1) := by decide +kernel
theorem dX2_step_126 : decode cX2_step 126 = .ok (.getfield 35, 3) := by decide +kernel
theorem dX2_step_129 : decode cX2_step 129 = .ok (.aload 4, 2) := by decide +kernel
theorem dX2_step_131 : decode cX2_step 131 = .ok (.invokevirtual 79, 3) := by decide +kernel
theorem dX2_step_134 : decode cX2_step 134 = .ok (.aload_n 0, 1) := by decide +kernel
theorem dX2_step_135 : decode cX2_step 135 = .ok (.getfield 44, 3) := by decide +kernel
theorem dX2_step_138 : decode cX2_step 138 = .ok (.aload 4, 2) := by decide +kernel
theorem dX2_step_140 : decode cX2_step 140 = .ok (.aload 4, 2) := by decide +kernel
theorem dX2_step_142 : decode cX2_step 142 = .ok (.invokevirtual 82, 3) := by decide +kernel
theorem dX2_step_145 : decode cX2_step 145 = .ok (.aload_n 0, 1) := by decide +kernel
theorem dX2_step_146 : decode cX2_step 146 = .ok (.getfield 44, 3) := by decide +kernel
theorem dX2_step_149 : decode cX2_step 149 = .ok (.aload 4, 2) := by decide +kernel
theorem dX2_step_151 : decode cX2_step 151 = .ok (.aload 5, 2) := by decide +kernel
theorem dX2_step_153 : decode cX2_step 153 = .ok (.aload 4, 2) := by decide +kernel
theorem dX2_step_155 : decode cX2_step 155 = .ok (.invokevirtual 72, 3) := by decide +kernel
theorem dX2_step_158 : decode cX2_step 158 = .ok (.aload_n 0, 1) := by decide +kernel
theorem dX2_step_159 : decode cX2_step 159 = .ok (.getfield 44, 3) := by decide +kernel
theorem dX2_step_162 : decode cX2_step 162 = .ok (.aload_n 0, 1) := by decide +kernel
theorem dX2_step_163 : decode cX2_step 163 = .ok (.getfield 29, 3) := by decide +kernel
theorem dX2_step_166 : decode cX2_step 166 = .ok (.aload_n 0, 1) := by decide +kernel
theorem dX2_step_167 : decode cX2_step 167 = .ok (.getfield 29, 3) := by decide +kernel
theorem dX2_step_170 : decode cX2_step 170 = .ok (.invokevirtual 82, 3) := by decide +kernel
theorem dX2_step_173 : decode cX2_step 173 = .ok (.aload_n 0, 1) := by decide +kernel
theorem dX2_step_174 : decode cX2_step 174 = .ok (.getfield 44, 3) := by decide +kernel
theorem dX2_step_177 : decode cX2_step 177 = .ok (.aload_n 0, 1) := by decide +kernel
theorem dX2_step_178 : decode cX2_step 178 = .ok (.getfield 32, 3) := by decide +kernel
theorem dX2_step_181 : decode cX2_step 181 = .ok (.aload_n 0, 1) := by decide +kernel
theorem dX2_step_182 : decode cX2_step 182 = .ok (.getfield 32, 3) := by decide +kernel
theorem dX2_step_185 : decode cX2_step 185 = .ok (.invokevirtual 82, 3) := by decide +kernel
theorem dX2_step_188 : decode cX2_step 188 = .ok (.aload_n 0, 1) := by decide +kernel
theorem dX2_step_189 : decode cX2_step 189 = .ok (.getfield 44, 3) := by decide +kernel
theorem dX2_step_192 : decode cX2_step 192 = .ok (.aload_n 0, 1) := by decide +kernel
theorem dX2_step_193 : decode cX2_step 193 = .ok (.getfield 29, 3) := by decide +kernel
theorem dX2_step_196 : decode cX2_step 196 = .ok (.aload_n 0, 1) := by decide +kernel
theorem dX2_step_197 : decode cX2_step 197 = .ok (.getfield 32, 3) := by decide +kernel
theorem dX2_step_200 : decode cX2_step 200 = .ok (.aload_n 0, 1) := by decide +kernel
theorem dX2_step_201 : decode cX2_step 201 = .ok (.getfield 41, 3) := by decide +kernel
theorem dX2_step_204 : decode cX2_step 204 = .ok (.invokevirtual 79, 3) := by decide +kernel
theorem dX2_step_207 : decode cX2_step 207 = .ok (.aload_n 0, 1) := by decide +kernel
theorem dX2_step_208 : decode cX2_step 208 = .ok (.getfield 44, 3) := by decide +kernel
theorem dX2_step_211 : decode cX2_step 211 = .ok (.aload_n 0, 1) := by decide +kernel
theorem dX2_step_212 : decode cX2_step 212 = .ok (.getfield 29, 3) := by decide +kernel
theorem dX2_step_215 : decode cX2_step 215 = .ok (.aload_n 0, 1) := by decide +kernel
theorem dX2_step_216 : decode cX2_step 216 = .ok (.getfield 32, 3) := by decide +kernel
theorem dX2_step_219 : decode cX2_step 219 = .ok (.aload_n 1, 1) := by decide +kernel
theorem dX2_step_220 : decode cX2_step 220 = .ok (.invokevirtual 72, 3) := by decide +kernel
theorem dX2_step_223 : decode cX2_step 223 = .ok (.aload_n 0, 1) := by decide +kernel
theorem dX2_step_224 : decode cX2_step 224 = .ok (.getfield 44, 3) := by decide +kernel
theorem dX2_step_227 : decode cX2_step 227 = .ok (.aload_n 0, 1) := by decide +kernel
theorem dX2_step_228 : decode cX2_step 228 = .ok (.getfield 41, 3) := by decide +kernel
theorem dX2_step_231 : decode cX2_step 231 = .ok (.ldc2_w 85, 3) := by decide +kernel
theorem dX2_step_234 : decode cX2_step 234 = .ok (.aload_n 0, 1) := by decide +kernel
theorem dX2_step_235 : decode cX2_step 235 = .ok (.getfield 32, 3) := by decide +kernel
theorem dX2_step_238 : decode cX2_step 238 = .ok (.invokevirtual 87, 3) := by decide +kernel
theorem dX2_step_241 : decode cX2_step 241 = .ok (.aload_n 0, 1) := by decide +kernel
theorem dX2_step_242 : decode cX2_step 242 = .ok (.getfield 44, 3) := by decide +kernel
theorem dX2_step_245 : decode cX2_step 245 = .ok (.aload_n 0, 1) := by decide +kernel
theorem dX2_step_246 : decode cX2_step 246 = .ok (.getfield 29, 3) := by decide +kernel
theorem dX2_step_249 : decode cX2_step 249 = .ok (.aload_n 0, 1) := by decide +kernel
theorem dX2_step_250 : decode cX2_step 250 = .ok (.getfield 32, 3) := by decide +kernel
theorem dX2_step_253 : decode cX2_step 253 = .ok (.aload_n 0, 1) := by decide +kernel
theorem dX2_step_254 : decode cX2_step 254 = .ok (.getfield 32, 3) := by decide +kernel
theorem dX2_step_257 : decode cX2_step 257 = .ok (.invokevirtual 76, 3) := by decide +kernel
theorem dX2_step_260 : decode cX2_step 260 = .ok (.aload_n 0, 1) := by decide +kernel
theorem dX2_step_261 : decode cX2_step 261 = .ok (.getfield 44, 3) := by decide +kernel
theorem dX2_step_264 : decode cX2_step 264 = .ok (.aload_n 0, 1) := by decide +kernel
theorem dX2_step_265 : decode cX2_step 265 = .ok (.getfield 41, 3) := by decide +kernel
theorem dX2_step_268 : decode cX2_step 268 = .ok (.aload_n 0, 1) := by decide +kernel
theorem dX2_step_269 : decode cX2_step 269 = .ok (.getfield 32, 3) := by decide +kernel
theorem dX2_step_272 : decode cX2_step 272 = .ok (.aload_n 2, 1) := by decide +kernel
theorem dX2_step_273 : decode cX2_step 273 = .ok (.invokevirtual 72, 3) := by decide +kernel
theorem dX2_step_276 : decode cX2_step 276 = .ok (.return_, 1) := by decide +kernel
theorem dX3_init_0 : decode cX3_init 0 = .ok (.aload_n 0, 1) := by decide +kernel
theorem dX3_init_1 : decode cX3_init 1 = .ok (.invokespecial 1, 3) := by decide +kernel
theorem dX3_init_4 : decode cX3_init 4 = .ok (.aload_n 0, 1) := by decide +kernel
theorem dX3_init_5 : decode cX3_init 5 = .ok (.bipush 10, 2) := by decide +kernel
theorem dX3_init_7 : decode cX3_init 7 = .ok (.newarray .long, 2) := by decide +kernel
theorem dX3_init_9 : decode cX3_init 9 = .ok (.putfield 9, 3) := by decide +kernel
theorem dX3_init_12 : decode cX3_init 12 = .ok (.aload_n 0, 1) := by decide +kernel
theorem dX3_init_13 : decode cX3_init 13 = .ok (.bipush 10, 2) := by decide +kernel
theorem dX3_init_15 : decode cX3_init 15 = .ok (.newarray .long, 2) := by decide +kernel
theorem dX3_init_17 : decode cX3_init 17 = .ok (.putfield 15, 3) := by decide +kernel
theorem dX3_init_20 : decode cX3_init 20 = .ok (.aload_n 0, 1) := by decide +kernel
theorem dX3_init_21 : decode cX3_init 21 = .ok (.bipush 10, 2) := by decide +kernel
theorem dX3_init_23 : decode cX3_init 23 = .ok (.newarray .long, 2) := by decide +kernel
theorem dX3_init_25 : decode cX3_init 25 = .ok (.putfield 18, 3) := by decide +kernel
theorem dX3_init_28 : decode cX3_init 28 = .ok (.aload_n 0, 1) := by decide +kernel
theorem dX3_init_29 : decode cX3_init 29 = .ok (.bipush 10, 2) := by decide +kernel
theorem dX3_init_31 : decode cX3_init 31 = .ok (.newarray .long, 2) := by decide +kernel
theorem dX3_init_33 : decode cX3_init 33 = .ok (.putfield 21, 3) := by decide +kernel
theorem dX3_init_36 : decode cX3_init 36 = .ok (.return_, 1) := by decide +kernel
theorem dX4_init_0 : decode cX4_init 0 = .ok (.aload_n 0, 1) := by decide +kernel
theorem dX4_init_1 : decode cX4_init 1 = .ok (.invokespecial 1, 3) := by decide +kernel
theorem dX4_init_4 : decode cX4_init 4 = .ok (.aload_n 0, 1) := by decide +kernel
theorem dX4_init_5 : decode cX4_init 5 = .ok (.iconst 4, 1) := by decide +kernel
theorem dX4_init_6 : decode cX4_init 6 = .ok (.newarray .long, 2) := by decide +kernel
theorem dX4_init_8 : decode cX4_init 8 = .ok (.putfield 9, 3) := by decide +kernel
theorem dX4_init_11 : decode cX4_init 11 = .ok (.aload_n 0, 1) := by decide +kernel
theorem dX4_init_12 : decode cX4_init 12 = .ok (.iconst 4, 1) := by decide +kernel
theorem dX4_init_13 : decode cX4_init 13 = .ok (.newarray .long, 2) := by decide +kernel
theorem dX4_init_15 : decode cX4_init 15 = .ok (.putfield 15, 3) := by decide +kernel
theorem dX4_init_18 : decode cX4_init 18 = .ok (.aload_n 0, 1) := by decide +kernel
theorem dX4_init_19 : decode cX4_init 19 = .ok (.iconst 4, 1) := by decide +kernel
theorem dX4_init_20 : decode cX4_init 20 = .ok (.newarray .long, 2) := by decide +kernel
theorem dX4_init_22 : decode cX4_init 22 = .ok (.putfield 18, 3) := by decide +kernel
theorem dX4_init_25 : decode cX4_init 25 = .ok (.return_, 1) := by decide +kernel
theorem dX4_isBelowOrder_0 : decode cX4_isBelowOrder 0 = .ok (.aload_n 0, 1) := by decide +kernel
theorem dX4_isBelowOrder_1 : decode cX4_isBelowOrder 1 = .ok (.getstatic 21, 3) := by decide +kernel
theorem dX4_isBelowOrder_4 : decode cX4_isBelowOrder 4 = .ok (.invokestatic 24, 3) := by decide +kernel
theorem dX4_isBelowOrder_7 : decode cX4_isBelowOrder 7 = .ok (.ifCond .ge 7, 3) := by decide +kernel
theorem dX4_isBelowOrder_10 : decode cX4_isBelowOrder 10 = .ok (.iconst 1, 1) := by decide +kernel
theorem dX4_isBelowOrder_11 : decode cX4_isBelowOrder 11 = .ok (.goto 4, 3) := by decide +kernel
theorem dX4_isBelowOrder_14 : decode cX4_isBelowOrder 14 = .ok (.iconst 0, 1) := by decide +kernel
theorem dX4_isBelowOrder_15 : decode cX4_isBelowOrder 15 = .ok (.ireturn, 1) := by decide +kernel
theorem dX4_increase_0 : decode cX4_increase 0 = .ok (.aload_n 0, 1) := by decide +kernel
theorem dX4_increase_1 : decode cX4_increase 1 = .ok (.aload_n 1, 1) := by decide +kernel
theorem dX4_increase_2 : decode cX4_increase 2 = .ok (.invokestatic 28, 3) := by decide +kernel
theorem dX4_increase_5 : decode cX4_increase 5 = .ok (.aload_n 0, 1) := by decide +kernel
theorem dX4_increase_6 : decode cX4_increase 6 = .ok (.getstatic 21, 3) := by decide +kernel
theorem dX4_increase_9 : decode cX4_increase 9 = .ok (.invokestatic 24, 3) := by decide +kernel
theorem dX4_increase_12 : decode cX4_increase 12 = .ok (.ifCond .lt 10, 3) := by decide +kernel
theorem dX4_increase_15 : decode cX4_increase 15 = .ok (.aload_n 0, 1) := by decide +kernel
theorem dX4_increase_16 : decode cX4_increase 16 = .ok (.getstatic 21, 3) := by decide +kernel
theorem dX4_increase_19 : decode cX4_increase 19 = .ok (.invokestatic 32, 3) := by decide +kernel
theorem dX4_increase_22 : decode cX4_increase 22 = .ok (.return_, 1) := by decide +kernel
theorem dX4_reduce_0 : decode cX4_reduce 0 = .ok (.aload_n 2, 1) := by decide +kernel
theorem dX4_reduce_1 : decode cX4_reduce 1 = .ok (.lconst 0, 1) := by decide +kernel
theorem dX4_reduce_2 : decode cX4_reduce 2 = .ok (.invokestatic 35, 3) := by decide +kernel
theorem dX4_reduce_5 : decode cX4_reduce 5 = .ok (.iload_n 1, 1) := by decide +kernel
theorem dX4_reduce_6 : decode cX4_reduce 6 = .ok (.iconst 1, 1) := by decide +kernel
theorem dX4_reduce_7 : decode cX4_reduce 7 = .ok (.isub, 1) := by decide +kernel
theorem dX4_reduce_8 : decode cX4_reduce 8 = .ok (.istore_n 3, 1) := by decide +kernel
theorem dX4_reduce_9 : decode cX4_reduce 9 = .ok (.iload_n 3, 1) := by decide +kernel
theorem dX4_reduce_10 : decode cX4_reduce 10 = .ok (.ifCond .lt 30, 3) := by decide +kernel
theorem dX4_reduce_13 : decode cX4_reduce 13 = .ok (.aload_n 2, 1) := by decide +kernel
theorem dX4_reduce_14 : decode cX4_reduce 14 = .ok (.aload_n 2, 1) := by decide +kernel
theorem dX4_reduce_15 : decode cX4_reduce 15 = .ok (.invokestatic 41, 3) := by decide +kernel
theorem dX4_reduce_18 : decode cX4_reduce 18 = .ok (.aload_n 0, 1) := by decide +kernel
theorem dX4_reduce_19 : decode cX4_reduce 19 = .ok (.iload_n 3, 1) := by decide +kernel
theorem dX4_reduce_20 : decode cX4_reduce 20 = .ok (.invokestatic 42, 3) := by decide +kernel
theorem dX4_reduce_23 : decode cX4_reduce 23 = .ok (.iconst 1, 1) := by decide +kernel
theorem dX4_reduce_24 : decode cX4_reduce 24 = .ok (.if_icmp .ne 10, 3) := by decide +kernel
theorem dX4_reduce_27 : decode cX4_reduce 27 = .ok (.aload_n 2, 1) := by decide +kernel
theorem dX4_reduce_28 : decode cX4_reduce 28 = .ok (.getstatic 46, 3) := by decide +kernel
theorem dX4_reduce_31 : decode cX4_reduce 31 = .ok (.invokestatic 41, 3) := by decide +kernel
theorem dX4_reduce_34 : decode cX4_reduce 34 = .ok (.iinc 3 (-1), 3) := by decide +kernel
theorem dX4_reduce_37 : decode cX4_reduce 37 = .ok (.goto (-28), 3) := by decide +kernel
theorem dX4_reduce_40 : decode cX4_reduce 40 = .ok (.return_, 1) := by decide +kernel
theorem dX4_multiplyAndAdd_0 : decode cX4_multiplyAndAdd 0 = .ok (.aload_n 1, 1) := by decide +kernel
theorem dX4_multiplyAndAdd_1 : decode cX4_multiplyAndAdd 1 = .ok (.sipush 256, 3) := by decide +kernel
theorem dX4_multiplyAndAdd_4 : decode cX4_multiplyAndAdd 4 = .ok (.aload_n 0, 1) := by decide +kernel
theorem dX4_multiplyAndAdd_5 : decode cX4_multiplyAndAdd 5 = .ok (.getfield 9, 3) := by decide +kernel
theorem dX4_multiplyAndAdd_8 : decode cX4_multiplyAndAdd 8 = .ok (.invokestatic 49, 3) := by decide +kernel
theorem dX4_multiplyAndAdd_11 : decode cX4_multiplyAndAdd 11 = .ok (.aload_n 3, 1) := by decide +kernel
theorem dX4_multiplyAndAdd_12 : decode cX4_multiplyAndAdd 12 = .ok (.sipush 256, 3) := by decide +kernel
theorem dX4_multiplyAndAdd_15 : decode cX4_multiplyAndAdd 15 = .ok (.aload_n 0, 1) := by decide +kernel
theorem dX4_multiplyAndAdd_16 : decode cX4_multiplyAndAdd 16 = .ok (.getfield 18, 3) := by decide +kernel
theorem dX4_multiplyAndAdd_19 : decode cX4_multiplyAndAdd 19 = .ok (.invokestatic 49, 3) := by decide +kernel
theorem dX4_multiplyAndAdd_22 : decode cX4_multiplyAndAdd 22 = .ok (.aload_n 0, 1) := by decide +kernel
theorem dX4_multiplyAndAdd_23 : decode cX4_multiplyAndAdd 23 = .ok (.getfield 15, 3) := by decide +kernel
theorem dX4_multiplyAndAdd_26 : decode cX4_multiplyAndAdd 26 = .ok (.lconst 0, 1) := by decide +kernel
theorem dX4_multiplyAndAdd_27 : decode cX4_multiplyAndAdd 27 = .ok (.invokestatic 35, 3) := by decide +kernel
theorem dX4_multiplyAndAdd_30 : decode cX4_multiplyAndAdd 30 = .ok (.sipush 255, 3) := by decide +kernel
theorem dX4_multiplyAndAdd_33 : decode cX4_multiplyAndAdd 33 = .ok (.istore 5, 2) := by decide +kernel
theorem dX4_multiplyAndAdd_35 : decode cX4_multiplyAndAdd 35 = .ok (.iload 5, 2) := by decide +kernel
theorem dX4_multiplyAndAdd_37 : decode cX4_multiplyAndAdd 37 = .ok (.ifCond .lt 41, 3) := by decide +kernel
theorem dX4_multiplyAndAdd_40 : decode cX4_multiplyAndAdd 40 = .ok (.aload_n 0, 1) := by decide +kernel
theorem dX4_multiplyAndAdd_41 : decode cX4_multiplyAndAdd 41 = .ok (.getfield 15, 3) := by decide +kernel
theorem dX4_multiplyAndAdd_44 : decode cX4_multiplyAndAdd 44 = .ok (.aload_n 0, 1) := by decide +kernel
theorem dX4_multiplyAndAdd_45 : decode cX4_multiplyAndAdd 45 = .ok (.getfield 15, 3) := by decide +kernel
theorem dX4_multiplyAndAdd_48 : decode cX4_multiplyAndAdd 48 = .ok (.invokestatic 41, 3) := by decide +kernel
theorem dX4_multiplyAndAdd_51 : decode cX4_multiplyAndAdd 51 = .ok (.aload_n 2, 1) := by decide +kernel
theorem dX4_multiplyAndAdd_52 : decode cX4_multiplyAndAdd 52 = .ok (.iload 5, 2) := by decide +kernel
theorem dX4_multiplyAndAdd_54 : decode cX4_multiplyAndAdd 54 = .ok (.invokestatic 42, 3) := by decide +kernel
theorem dX4_multiplyAndAdd_57 : decode cX4_multiplyAndAdd 57 = .ok (.iconst 1, 1) := by decide +kernel
theorem dX4_multiplyAndAdd_58 : decode cX4_multiplyAndAdd 58 = .ok (.if_icmp .ne 14, 3) := by decide +kernel
theorem dX4_multiplyAndAdd_61 : decode cX4_multiplyAndAdd 61 = .ok (.aload_n 0, 1) := by decide +kernel
theorem dX4_multiplyAndAdd_62 : decode cX4_multiplyAndAdd 62 = .ok (.getfield 15, 3) := by decide +kernel
theorem dX4_multiplyAndAdd_65 : decode cX4_multiplyAndAdd 65 = .ok (.aload_n 0, 1) := by decide +kernel
theorem dX4_multiplyAndAdd_66 : decode cX4_multiplyAndAdd 66 = .ok (.getfield 9, 3) := by decide +kernel
theorem dX4_multiplyAndAdd_69 : decode cX4_multiplyAndAdd 69 = .ok (.invokestatic 41, 3) := by decide +kernel
theorem dX4_multiplyAndAdd_72 : decode cX4_multiplyAndAdd 72 = .ok (.iinc 5 (-1), 3) := by decide +kernel
theorem dX4_multiplyAndAdd_75 : decode cX4_multiplyAndAdd 75 = .ok (.goto (-40), 3) := by decide +kernel
theorem dX4_multiplyAndAdd_78 : decode cX4_multiplyAndAdd 78 = .ok (.aload_n 0, 1) := by decide +kernel
theorem dX4_multiplyAndAdd_79 : decode cX4_multiplyAndAdd 79 = .ok (.getfield 15, 3) := by decide +kernel
theorem dX4_multiplyAndAdd_82 : decode cX4_multiplyAndAdd 82 = .ok (.aload_n 0, 1) := by decide +kernel
theorem dX4_multiplyAndAdd_83 : decode cX4_multiplyAndAdd 83 = .ok (.getfield 18, 3) := by decide +kernel
theorem dX4_multiplyAndAdd_86 : decode cX4_multiplyAndAdd 86 = .ok (.invokestatic 41, 3) := by decide +kernel
theorem dX4_multiplyAndAdd_89 : decode cX4_multiplyAndAdd 89 = .ok (.aload_n 0, 1) := by decide +kernel
theorem dX4_multiplyAndAdd_90 : decode cX4_multiplyAndAdd 90 = .ok (.getfield 15, 3) := by decide +kernel
theorem dX4_multiplyAndAdd_93 : decode cX4_multiplyAndAdd 93 = .ok (.aload 4, 2) := by decide +kernel
theorem dX4_multiplyAndAdd_95 : decode cX4_multiplyAndAdd 95 = .ok (.invokestatic 53, 3) := by decide +kernel
theorem dX4_multiplyAndAdd_98 : decode cX4_multiplyAndAdd 98 = .ok (.return_, 1) := by decide +kernel
theorem dX5_init_0 : decode cX5_init 0 = .ok (.aload_n 0, 1) := by decide +kernel
theorem dX5_init_1 : decode cX5_init 1 = .ok (.invokespecial 5, 3) := by decide +kernel
theorem dX5_init_4 : decode cX5_init 4 = .ok (.aload_n 0, 1) := by decide +kernel
theorem dX5_init_5 : decode cX5_init 5 = .ok (.sipush 512, 3) := by decide +kernel
theorem dX5_init_8 : decode cX5_init 8 = .ok (.newarray .byte, 2) := by decide +kernel
theorem dX5_init_10 : decode cX5_init 10 = .ok (.putfield 11, 3) := by decide +kernel
theorem dX5_init_13 : decode cX5_init 13 = .ok (.aload_n 0, 1) := by decide +kernel
theorem dX5_init_14 : decode cX5_init 14 = .ok (.iconst 0, 1) := by decide +kernel
theorem dX5_init_15 : decode cX5_init 15 = .ok (.putfield 15, 3) := by decide +kernel
theorem dX5_init_18 : decode cX5_init 18 = .ok (.aload_n 0, 1) := by decide +kernel
theorem dX5_init_19 : decode cX5_init 19 = .ok (.bipush 80, 2) := by decide +kernel
theorem dX5_init_21 : decode cX5_init 21 = .ok (.newarray .long, 2) := by decide +kernel
theorem dX5_init_23 : decode cX5_init 23 = .ok (.putfield 19, 3) := by decide +kernel
theorem dX5_init_26 : decode cX5_init 26 = .ok (.aload_n 0, 1) := by decide +kernel
theorem dX5_init_27 : decode cX5_init 27 = .ok (.bipush 8, 2) := by decide +kernel
theorem dX5_init_29 : decode cX5_init 29 = .ok (.newarray .long, 2) := by decide +kernel
theorem dX5_init_31 : decode cX5_init 31 = .ok (.putfield 23, 3) := by decide +kernel
theorem dX5_init_34 : decode cX5_init 34 = .ok (.return_, 1) := by decide +kernel
theorem dX5_begin_0 : decode cX5_begin 0 = .ok (.aload_n 0, 1) := by decide +kernel
theorem dX5_begin_1 : decode cX5_begin 1 = .ok (.iconst 0, 1) := by decide +kernel
theorem dX5_begin_2 : decode cX5_begin 2 = .ok (.putfield 15, 3) := by decide +kernel
theorem dX5_begin_5 : decode cX5_begin 5 = .ok (.return_, 1) := by decide +kernel
theorem dX5_takeByte_0 : decode cX5_takeByte 0 = .ok (.aload_n 0, 1) := by decide +kernel
theorem dX5_takeByte_1 : decode cX5_takeByte 1 = .ok (.getfield 15, 3) := by decide +kernel
theorem dX5_takeByte_4 : decode cX5_takeByte 4 = .ok (.sipush 464, 3) := by decide +kernel
theorem dX5_takeByte_7 : decode cX5_takeByte 7 = .ok (.if_icmp .ge 24, 3) := by decide +kernel
theorem dX5_takeByte_10 : decode cX5_takeByte 10 = .ok (.aload_n 0, 1) := by decide +kernel
theorem dX5_takeByte_11 : decode cX5_takeByte 11 = .ok (.getfield 11, 3) := by decide +kernel
theorem dX5_takeByte_14 : decode cX5_takeByte 14 = .ok (.aload_n 0, 1) := by decide +kernel
theorem dX5_takeByte_15 : decode cX5_takeByte 15 = .ok (.getfield 15, 3) := by decide +kernel
theorem dX5_takeByte_18 : decode cX5_takeByte 18 = .ok (.iload_n 1, 1) := by decide +kernel
theorem dX5_takeByte_19 : decode cX5_takeByte 19 = .ok (.i2b, 1) := by decide +kernel
theorem dX5_takeByte_20 : decode cX5_takeByte 20 = .ok (.bastore, 1) := by decide +kernel
theorem dX5_takeByte_21 : decode cX5_takeByte 21 = .ok (.aload_n 0, 1) := by decide +kernel
theorem dX5_takeByte_22 : decode cX5_takeByte 22 = .ok (.dup, 1) := by decide +kernel
theorem dX5_takeByte_23 : decode cX5_takeByte 23 = .ok (.getfield 15, 3) := by decide +kernel
theorem dX5_takeByte_26 : decode cX5_takeByte 26 = .ok (.iconst 1, 1) := by decide +kernel
theorem dX5_takeByte_27 : decode cX5_takeByte 27 = .ok (.iadd, 1) := by decide +kernel
theorem dX5_takeByte_28 : decode cX5_takeByte 28 = .ok (.putfield 15, 3) := by decide +kernel
theorem dX5_takeByte_31 : decode cX5_takeByte 31 = .ok (.return_, 1) := by decide +kernel
theorem dX5_takeRow_0 : decode cX5_takeRow 0 = .ok (.iconst 0, 1) := by decide +kernel
theorem dX5_takeRow_1 : decode cX5_takeRow 1 = .ok (.istore_n 2, 1) := by decide +kernel
theorem dX5_takeRow_2 : decode cX5_takeRow 2 = .ok (.iload_n 2, 1) := by decide +kernel
theorem dX5_takeRow_3 : decode cX5_takeRow 3 = .ok (.bipush 32, 2) := by decide +kernel
theorem dX5_takeRow_5 : decode cX5_takeRow 5 = .ok (.if_icmp .ge 27, 3) := by decide +kernel
theorem dX5_takeRow_8 : decode cX5_takeRow 8 = .ok (.aload_n 0, 1) := by decide +kernel
theorem dX5_takeRow_9 : decode cX5_takeRow 9 = .ok (.aload_n 1, 1) := by decide +kernel
theorem dX5_takeRow_10 : decode cX5_takeRow 10 = .ok (.iload_n 2, 1) := by decide +kernel
theorem dX5_takeRow_11 : decode cX5_takeRow 11 = .ok (.iconst 3, 1) := by decide +kernel
theorem dX5_takeRow_12 : decode cX5_takeRow 12 = .ok (.ishr, 1) := by decide +kernel
theorem dX5_takeRow_13 : decode cX5_takeRow 13 = .ok (.laload, 1) := by decide +kernel
theorem dX5_takeRow_14 : decode cX5_takeRow 14 = .ok (.bipush 8, 2) := by decide +kernel
theorem dX5_takeRow_16 : decode cX5_takeRow 16 = .ok (.iload_n 2, 1) := by decide +kernel
theorem dX5_takeRow_17 : decode cX5_takeRow 17 = .ok (.bipush 7, 2) := by decide +kernel
theorem dX5_takeRow_19 : decode cX5_takeRow 19 = .ok (.iand, 1) := by decide +kernel
theorem dX5_takeRow_20 : decode cX5_takeRow 20 = .ok (.imul, 1) := by decide +kernel
theorem dX5_takeRow_21 : decode cX5_takeRow 21 = .ok (.lushr, 1) := by decide +kernel
theorem dX5_takeRow_22 : decode cX5_takeRow 22 = .ok (.l2i, 1) := by decide +kernel
theorem dX5_takeRow_23 : decode cX5_takeRow 23 = .ok (.invokevirtual 28, 3) := by decide +kernel
theorem dX5_takeRow_26 : decode cX5_takeRow 26 = .ok (.iinc 2 1, 3) := by decide +kernel
theorem dX5_takeRow_29 : decode cX5_takeRow 29 = .ok (.goto (-27), 3) := by decide +kernel
theorem dX5_takeRow_32 : decode cX5_takeRow 32 = .ok (.return_, 1) := by decide +kernel
theorem dX5_takeText_0 : decode cX5_takeText 0 = .ok (.iconst 0, 1) := by decide +kernel
theorem dX5_takeText_1 : decode cX5_takeText 1 = .ok (.istore_n 2, 1) := by decide +kernel
theorem dX5_takeText_2 : decode cX5_takeText 2 = .ok (.iload_n 2, 1) := by decide +kernel
theorem dX5_takeText_3 : decode cX5_takeText 3 = .ok (.aload_n 1, 1) := by decide +kernel
theorem dX5_takeText_4 : decode cX5_takeText 4 = .ok (.getfield 32, 3) := by decide +kernel
theorem dX5_takeText_7 : decode cX5_takeText 7 = .ok (.if_icmp .ge 18, 3) := by decide +kernel
theorem dX5_takeText_10 : decode cX5_takeText 10 = .ok (.aload_n 0, 1) := by decide +kernel
theorem dX5_takeText_11 : decode cX5_takeText 11 = .ok (.aload_n 1, 1) := by decide +kernel
theorem dX5_takeText_12 : decode cX5_takeText 12 = .ok (.iload_n 2, 1) := by decide +kernel
theorem dX5_takeText_13 : decode cX5_takeText 13 = .ok (.invokevirtual 33, 3) := by decide +kernel
theorem dX5_takeText_16 : decode cX5_takeText 16 = .ok (.invokevirtual 28, 3) := by decide +kernel
theorem dX5_takeText_19 : decode cX5_takeText 19 = .ok (.iinc 2 1, 3) := by decide +kernel
theorem dX5_takeText_22 : decode cX5_takeText 22 = .ok (.goto (-20), 3) := by decide +kernel
theorem dX5_takeText_25 : decode cX5_takeText 25 = .ok (.return_, 1) := by decide +kernel
theorem dX5_finish_0 : decode cX5_finish 0 = .ok (.aload_n 0, 1) := by decide +kernel
theorem dX5_finish_1 : decode cX5_finish 1 = .ok (.getfield 15, 3) := by decide +kernel
theorem dX5_finish_4 : decode cX5_finish 4 = .ok (.bipush 17, 2) := by decide +kernel
theorem dX5_finish_6 : decode cX5_finish 6 = .ok (.iadd, 1) := by decide +kernel
theorem dX5_finish_7 : decode cX5_finish 7 = .ok (.sipush 128, 3) := by decide +kernel
theorem dX5_finish_10 : decode cX5_finish 10 = .ok (.iadd, 1) := by decide +kernel
theorem dX5_finish_11 : decode cX5_finish 11 = .ok (.iconst 1, 1) := by decide +kernel
theorem dX5_finish_12 : decode cX5_finish 12 = .ok (.isub, 1) := by decide +kernel
theorem dX5_finish_13 : decode cX5_finish 13 = .ok (.sipush 128, 3) := by decide +kernel
theorem dX5_finish_16 : decode cX5_finish 16 = .ok (.idiv, 1) := by decide +kernel
theorem dX5_finish_17 : decode cX5_finish 17 = .ok (.sipush 128, 3) := by decide +kernel
theorem dX5_finish_20 : decode cX5_finish 20 = .ok (.imul, 1) := by decide +kernel
theorem dX5_finish_21 : decode cX5_finish 21 = .ok (.istore_n 2, 1) := by decide +kernel
theorem dX5_finish_22 : decode cX5_finish 22 = .ok (.aload_n 0, 1) := by decide +kernel
theorem dX5_finish_23 : decode cX5_finish 23 = .ok (.iload_n 2, 1) := by decide +kernel
theorem dX5_finish_24 : decode cX5_finish 24 = .ok (.invokevirtual 37, 3) := by decide +kernel
theorem dX5_finish_27 : decode cX5_finish 27 = .ok (.getstatic 40, 3) := by decide +kernel
theorem dX5_finish_30 : decode cX5_finish 30 = .ok (.iconst 0, 1) := by decide +kernel
theorem dX5_finish_31 : decode cX5_finish 31 = .ok (.aload_n 0, 1) := by decide +kernel
theorem dX5_finish_32 : decode cX5_finish 32 = .ok (.getfield 23, 3) := by decide +kernel
theorem dX5_finish_35 : decode cX5_finish 35 = .ok (.iconst 0, 1) := by decide +kernel
theorem dX5_finish_36 : decode cX5_finish 36 = .ok (.bipush 8, 2) := by decide +kernel
theorem dX5_finish_38 : decode cX5_finish 38 = .ok (.invokestatic 43, 3) := by decide +kernel
theorem dX5_finish_41 : decode cX5_finish 41 = .ok (.iconst 0, 1) := by decide +kernel
theorem dX5_finish_42 : decode cX5_finish 42 = .ok (.istore_n 3, 1) := by decide +kernel
theorem dX5_finish_43 : decode cX5_finish 43 = .ok (.iload_n 3, 1) := by decide +kernel
theorem dX5_finish_44 : decode cX5_finish 44 = .ok (.sipush 128, 3) := by decide +kernel
theorem dX5_finish_47 : decode cX5_finish 47 = .ok (.iadd, 1) := by decide +kernel
theorem dX5_finish_48 : decode cX5_finish 48 = .ok (.iload_n 2, 1) := by decide +kernel
theorem dX5_finish_49 : decode cX5_finish 49 = .ok (.if_icmp .gt 21, 3) := by decide +kernel
theorem dX5_finish_52 : decode cX5_finish 52 = .ok (.aload_n 0, 1) := by decide +kernel
theorem dX5_finish_53 : decode cX5_finish 53 = .ok (.iload_n 3, 1) := by decide +kernel
theorem dX5_finish_54 : decode cX5_finish 54 = .ok (.invokevirtual 49, 3) := by decide +kernel
theorem dX5_finish_57 : decode cX5_finish 57 = .ok (.aload_n 0, 1) := by decide +kernel
theorem dX5_finish_58 : decode cX5_finish 58 = .ok (.invokevirtual 52, 3) := by decide +kernel
theorem dX5_finish_61 : decode cX5_finish 61 = .ok (.iinc 3 128, 6) := by decide +kernel
theorem dX5_finish_67 : decode cX5_finish 67 = .ok (.goto (-24), 3) := by decide +kernel
theorem dX5_finish_70 : decode cX5_finish 70 = .ok (.iconst 0, 1) := by decide +kernel
theorem dX5_finish_71 : decode cX5_finish 71 = .ok (.istore_n 3, 1) := by decide +kernel
theorem dX5_finish_72 : decode cX5_finish 72 = .ok (.iload_n 3, 1) := by decide +kernel
theorem dX5_finish_73 : decode cX5_finish 73 = .ok (.bipush 8, 2) := by decide +kernel
theorem dX5_finish_75 : decode cX5_finish 75 = .ok (.if_icmp .ge 21, 3) := by decide +kernel
theorem dX5_finish_78 : decode cX5_finish 78 = .ok (.aload_n 1, 1) := by decide +kernel
theorem dX5_finish_79 : decode cX5_finish 79 = .ok (.iload_n 3, 1) := by decide +kernel
theorem dX5_finish_80 : decode cX5_finish 80 = .ok (.aload_n 0, 1) := by decide +kernel
theorem dX5_finish_81 : decode cX5_finish 81 = .ok (.getfield 23, 3) := by decide +kernel
theorem dX5_finish_84 : decode cX5_finish 84 = .ok (.iload_n 3, 1) := by decide +kernel
theorem dX5_finish_85 : decode cX5_finish 85 = .ok (.laload, 1) := by decide +kernel
theorem dX5_finish_86 : decode cX5_finish 86 = .ok (.invokestatic 55, 3) := by decide +kernel
theorem dX5_finish_89 : decode cX5_finish 89 = .ok (.lastore, 1) := by decide +kernel
theorem dX5_finish_90 : decode cX5_finish 90 = .ok (.iinc 3 1, 3) := by decide +kernel
theorem dX5_finish_93 : decode cX5_finish 93 = .ok (.goto (-21), 3) := by decide +kernel
theorem dX5_finish_96 : decode cX5_finish 96 = .ok (.return_, 1) := by decide +kernel
theorem dX5_pad_0 : decode cX5_pad 0 = .ok (.aload_n 0, 1) := by decide +kernel
theorem dX5_pad_1 : decode cX5_pad 1 = .ok (.getfield 11, 3) := by decide +kernel
theorem dX5_pad_4 : decode cX5_pad 4 = .ok (.aload_n 0, 1) := by decide +kernel
theorem dX5_pad_5 : decode cX5_pad 5 = .ok (.getfield 15, 3) := by decide +kernel
theorem dX5_pad_8 : decode cX5_pad 8 = .ok (.bipush (-128), 2) := by decide +kernel
theorem dX5_pad_10 : decode cX5_pad 10 = .ok (.bastore, 1) := by decide +kernel
theorem dX5_pad_11 : decode cX5_pad 11 = .ok (.aload_n 0, 1) := by decide +kernel
theorem dX5_pad_12 : decode cX5_pad 12 = .ok (.getfield 15, 3) := by decide +kernel
theorem dX5_pad_15 : decode cX5_pad 15 = .ok (.iconst 1, 1) := by decide +kernel
theorem dX5_pad_16 : decode cX5_pad 16 = .ok (.iadd, 1) := by decide +kernel
theorem dX5_pad_17 : decode cX5_pad 17 = .ok (.istore_n 2, 1) := by decide +kernel
theorem dX5_pad_18 : decode cX5_pad 18 = .ok (.iload_n 2, 1) := by decide +kernel
theorem dX5_pad_19 : decode cX5_pad 19 = .ok (.iload_n 1, 1) := by decide +kernel
theorem dX5_pad_20 : decode cX5_pad 20 = .ok (.if_icmp .ge 16, 3) := by decide +kernel
theorem dX5_pad_23 : decode cX5_pad 23 = .ok (.aload_n 0, 1) := by decide +kernel
theorem dX5_pad_24 : decode cX5_pad 24 = .ok (.getfield 11, 3) := by decide +kernel
theorem dX5_pad_27 : decode cX5_pad 27 = .ok (.iload_n 2, 1) := by decide +kernel
theorem dX5_pad_28 : decode cX5_pad 28 = .ok (.iconst 0, 1) := by decide +kernel
theorem dX5_pad_29 : decode cX5_pad 29 = .ok (.bastore, 1) := by decide +kernel
theorem dX5_pad_30 : decode cX5_pad 30 = .ok (.iinc 2 1, 3) := by decide +kernel
theorem dX5_pad_33 : decode cX5_pad 33 = .ok (.goto (-15), 3) := by decide +kernel
theorem dX5_pad_36 : decode cX5_pad 36 = .ok (.bipush 8, 2) := by decide +kernel
theorem dX5_pad_38 : decode cX5_pad 38 = .ok (.aload_n 0, 1) := by decide +kernel
theorem dX5_pad_39 : decode cX5_pad 39 = .ok (.getfield 15, 3) := by decide +kernel
theorem dX5_pad_42 : decode cX5_pad 42 = .ok (.imul, 1) := by decide +kernel
theorem dX5_pad_43 : decode cX5_pad 43 = .ok (.istore_n 2, 1) := by decide +kernel
theorem dX5_pad_44 : decode cX5_pad 44 = .ok (.aload_n 0, 1) := by decide +kernel
theorem dX5_pad_45 : decode cX5_pad 45 = .ok (.getfield 11, 3) := by decide +kernel
theorem dX5_pad_48 : decode cX5_pad 48 = .ok (.iload_n 1, 1) := by decide +kernel
theorem dX5_pad_49 : decode cX5_pad 49 = .ok (.iconst 1, 1) := by decide +kernel
theorem dX5_pad_50 : decode cX5_pad 50 = .ok (.isub, 1) := by decide +kernel
theorem dX5_pad_51 : decode cX5_pad 51 = .ok (.iload_n 2, 1) := by decide +kernel
theorem dX5_pad_52 : decode cX5_pad 52 = .ok (.i2b, 1) := by decide +kernel
theorem dX5_pad_53 : decode cX5_pad 53 = .ok (.bastore, 1) := by decide +kernel
theorem dX5_pad_54 : decode cX5_pad 54 = .ok (.aload_n 0, 1) := by decide +kernel
theorem dX5_pad_55 : decode cX5_pad 55 = .ok (.getfield 11, 3) := by decide +kernel
theorem dX5_pad_58 : decode cX5_pad 58 = .ok (.iload_n 1, 1) := by decide +kernel
theorem dX5_pad_59 : decode cX5_pad 59 = .ok (.iconst 2, 1) := by decide +kernel
theorem dX5_pad_60 : decode cX5_pad 60 = .ok (.isub, 1) := by decide +kernel
theorem dX5_pad_61 : decode cX5_pad 61 = .ok (.iload_n 2, 1) := by decide +kernel
theorem dX5_pad_62 : decode cX5_pad 62 = .ok (.bipush 8, 2) := by decide +kernel
theorem dX5_pad_64 : decode cX5_pad 64 = .ok (.iushr, 1) := by decide +kernel
theorem dX5_pad_65 : decode cX5_pad 65 = .ok (.i2b, 1) := by decide +kernel
theorem dX5_pad_66 : decode cX5_pad 66 = .ok (.bastore, 1) := by decide +kernel
theorem dX5_pad_67 : decode cX5_pad 67 = .ok (.return_, 1) := by decide +kernel
theorem dX5_fillSchedule_0 : decode cX5_fillSchedule 0 = .ok (.iconst 0, 1) := by decide +kernel
theorem dX5_fillSchedule_1 : decode cX5_fillSchedule 1 = .ok (.istore_n 2, 1) := by decide +kernel
theorem dX5_fillSchedule_2 : decode cX5_fillSchedule 2 = .ok (.iload_n 2, 1) := by decide +kernel
theorem dX5_fillSchedule_3 : decode cX5_fillSchedule 3 = .ok (.bipush 16, 2) := by decide +kernel
theorem dX5_fillSchedule_5 : decode cX5_fillSchedule 5 = .ok (.if_icmp .ge 59, 3) := by decide +kernel
theorem dX5_fillSchedule_8 : decode cX5_fillSchedule 8 = .ok (.lconst 0, 1) := by decide +kernel
theorem dX5_fillSchedule_9 : decode cX5_fillSchedule 9 = .ok (.lstore_n 3, 1) := by decide +kernel
theorem dX5_fillSchedule_10 : decode cX5_fillSchedule 10 = .ok (.iconst 0, 1) := by decide +kernel
theorem dX5_fillSchedule_11 : decode cX5_fillSchedule 11 = .ok (.istore 5, 2) := by decide +kernel
theorem dX5_fillSchedule_13 : decode cX5_fillSchedule 13 = .ok (.iload 5, 2) := by decide +kernel
theorem dX5_fillSchedule_15 : decode cX5_fillSchedule 15 = .ok (.bipush 8, 2) := by decide +kernel
theorem dX5_fillSchedule_17 : decode cX5_fillSchedule 17 = .ok (.if_icmp .ge 34, 3) := by decide +kernel
theorem dX5_fillSchedule_20 : decode cX5_fillSchedule 20 = .ok (.lload_n 3, 1) := by decide +kernel
theorem dX5_fillSchedule_21 : decode cX5_fillSchedule 21 = .ok (.bipush 8, 2) := by decide +kernel
theorem dX5_fillSchedule_23 : decode cX5_fillSchedule 23 = .ok (.lshl, 1) := by decide +kernel
theorem dX5_fillSchedule_24 : decode cX5_fillSchedule 24 = .ok (.aload_n 0, 1) := by decide +kernel
theorem dX5_fillSchedule_25 : decode cX5_fillSchedule 25 = .ok (.getfield 11, 3) := by decide +kernel
theorem dX5_fillSchedule_28 : decode cX5_fillSchedule 28 = .ok (.iload_n 1, 1) := by decide +kernel
theorem dX5_fillSchedule_29 : decode cX5_fillSchedule 29 = .ok (.bipush 8, 2) := by decide +kernel
theorem dX5_fillSchedule_31 : decode cX5_fillSchedule 31 = .ok (.iload_n 2, 1) := by decide +kernel
theorem dX5_fillSchedule_32 : decode cX5_fillSchedule 32 = .ok (.imul, 1) := by decide +kernel
theorem dX5_fillSchedule_33 : decode cX5_fillSchedule 33 = .ok (.iadd, 1) := by decide +kernel
theorem dX5_fillSchedule_34 : decode cX5_fillSchedule 34 = .ok (.iload 5, 2) := by decide +kernel
theorem dX5_fillSchedule_36 : decode cX5_fillSchedule 36 = .ok (.iadd, 1) := by decide +kernel
theorem dX5_fillSchedule_37 : decode cX5_fillSchedule 37 = .ok (.baload, 1) := by decide +kernel
theorem dX5_fillSchedule_38 : decode cX5_fillSchedule 38 = .ok (.sipush 255, 3) := by decide +kernel
theorem dX5_fillSchedule_41 : decode cX5_fillSchedule 41 = .ok (.iand, 1) := by decide +kernel
theorem dX5_fillSchedule_42 : decode cX5_fillSchedule 42 = .ok (.i2l, 1) := by decide +kernel
theorem dX5_fillSchedule_43 : decode cX5_fillSchedule 43 = .ok (.lor, 1) := by decide +kernel
theorem dX5_fillSchedule_44 : decode cX5_fillSchedule 44 = .ok (.lstore_n 3, 1) := by decide +kernel
theorem dX5_fillSchedule_45 : decode cX5_fillSchedule 45 = .ok (.iinc 5 1, 3) := by decide +kernel
theorem dX5_fillSchedule_48 : decode cX5_fillSchedule 48 = .ok (.goto (-35), 3) := by decide +kernel
theorem dX5_fillSchedule_51 : decode cX5_fillSchedule 51 = .ok (.aload_n 0, 1) := by decide +kernel
theorem dX5_fillSchedule_52 : decode cX5_fillSchedule 52 = .ok (.getfield 19, 3) := by decide +kernel
theorem dX5_fillSchedule_55 : decode cX5_fillSchedule 55 = .ok (.iload_n 2, 1) := by decide +kernel
theorem dX5_fillSchedule_56 : decode cX5_fillSchedule 56 = .ok (.lload_n 3, 1) := by decide +kernel
theorem dX5_fillSchedule_57 : decode cX5_fillSchedule 57 = .ok (.lastore, 1) := by decide +kernel
theorem dX5_fillSchedule_58 : decode cX5_fillSchedule 58 = .ok (.iinc 2 1, 3) := by decide +kernel
theorem dX5_fillSchedule_61 : decode cX5_fillSchedule 61 = .ok (.goto (-59), 3) := by decide +kernel
theorem dX5_fillSchedule_64 : decode cX5_fillSchedule 64 = .ok (.bipush 16, 2) := by decide +kernel
theorem dX5_fillSchedule_66 : decode cX5_fillSchedule 66 = .ok (.istore_n 2, 1) := by decide +kernel
theorem dX5_fillSchedule_67 : decode cX5_fillSchedule 67 = .ok (.iload_n 2, 1) := by decide +kernel
theorem dX5_fillSchedule_68 : decode cX5_fillSchedule 68 = .ok (.bipush 80, 2) := by decide +kernel
theorem dX5_fillSchedule_70 : decode cX5_fillSchedule 70 = .ok (.if_icmp .ge 102, 3) := by decide +kernel
theorem dX5_fillSchedule_73 : decode cX5_fillSchedule 73 = .ok (.aload_n 0, 1) := by decide +kernel
theorem dX5_fillSchedule_74 : decode cX5_fillSchedule 74 = .ok (.getfield 19, 3) := by decide +kernel
theorem dX5_fillSchedule_77 : decode cX5_fillSchedule 77 = .ok (.iload_n 2, 1) := by decide +kernel
theorem dX5_fillSchedule_78 : decode cX5_fillSchedule 78 = .ok (.bipush 15, 2) := by decide +kernel
theorem dX5_fillSchedule_80 : decode cX5_fillSchedule 80 = .ok (.isub, 1) := by decide +kernel
theorem dX5_fillSchedule_81 : decode cX5_fillSchedule 81 = .ok (.laload, 1) := by decide +kernel
theorem dX5_fillSchedule_82 : decode cX5_fillSchedule 82 = .ok (.lstore_n 3, 1) := by decide +kernel
theorem dX5_fillSchedule_83 : decode cX5_fillSchedule 83 = .ok (.aload_n 0, 1) := by decide +kernel
theorem dX5_fillSchedule_84 : decode cX5_fillSchedule 84 = .ok (.getfield 19, 3) := by decide +kernel
theorem dX5_fillSchedule_87 : decode cX5_fillSchedule 87 = .ok (.iload_n 2, 1) := by decide +kernel
theorem dX5_fillSchedule_88 : decode cX5_fillSchedule 88 = .ok (.iconst 2, 1) := by decide +kernel
theorem dX5_fillSchedule_89 : decode cX5_fillSchedule 89 = .ok (.isub, 1) := by decide +kernel
theorem dX5_fillSchedule_90 : decode cX5_fillSchedule 90 = .ok (.laload, 1) := by decide +kernel
theorem dX5_fillSchedule_91 : decode cX5_fillSchedule 91 = .ok (.lstore 5, 2) := by decide +kernel
theorem dX5_fillSchedule_93 : decode cX5_fillSchedule 93 = .ok (.lload_n 3, 1) := by decide +kernel
theorem dX5_fillSchedule_94 : decode cX5_fillSchedule 94 = .ok (.iconst 1, 1) := by decide +kernel
theorem dX5_fillSchedule_95 : decode cX5_fillSchedule 95 = .ok (.invokestatic 59, 3) := by decide +kernel
theorem dX5_fillSchedule_98 : decode cX5_fillSchedule 98 = .ok (.lload_n 3, 1) := by decide +kernel
theorem dX5_fillSchedule_99 : decode cX5_fillSchedule 99 = .ok (.bipush 8, 2) := by decide +kernel
theorem dX5_fillSchedule_101 : decode cX5_fillSchedule 101 = .ok (.invokestatic 59, 3) := by decide +kernel
theorem dX5_fillSchedule_104 : decode cX5_fillSchedule 104 = .ok (.lxor, 1) := by decide +kernel
theorem dX5_fillSchedule_105 : decode cX5_fillSchedule 105 = .ok (.lload_n 3, 1) := by decide +kernel
theorem dX5_fillSchedule_106 : decode cX5_fillSchedule 106 = .ok (.bipush 7, 2) := by decide +kernel
theorem dX5_fillSchedule_108 : decode cX5_fillSchedule 108 = .ok (.lushr, 1) := by decide +kernel
theorem dX5_fillSchedule_109 : decode cX5_fillSchedule 109 = .ok (.lxor, 1) := by decide +kernel
theorem dX5_fillSchedule_110 : decode cX5_fillSchedule 110 = .ok (.lstore 7, 2) := by decide +kernel
theorem dX5_fillSchedule_112 : decode cX5_fillSchedule 112 = .ok (.lload 5, 2) := by decide +kernel
theorem dX5_fillSchedule_114 : decode cX5_fillSchedule 114 = .ok (.bipush 19, 2) := by decide +kernel
theorem dX5_fillSchedule_116 : decode cX5_fillSchedule 116 = .ok (.invokestatic 59, 3) := by decide +kernel
theorem dX5_fillSchedule_119 : decode cX5_fillSchedule 119 = .ok (.lload 5, 2) := by decide +kernel
theorem dX5_fillSchedule_121 : decode cX5_fillSchedule 121 = .ok (.bipush 61, 2) := by decide +kernel
theorem dX5_fillSchedule_123 : decode cX5_fillSchedule 123 = .ok (.invokestatic 59, 3) := by decide +kernel
theorem dX5_fillSchedule_126 : decode cX5_fillSchedule 126 = .ok (.lxor, 1) := by decide +kernel
theorem dX5_fillSchedule_127 : decode cX5_fillSchedule 127 = .ok (.lload 5, 2) := by decide +kernel
theorem dX5_fillSchedule_129 : decode cX5_fillSchedule 129 = .ok (.bipush 6, 2) := by decide +kernel
theorem dX5_fillSchedule_131 : decode cX5_fillSchedule 131 = .ok (.lushr, 1) := by decide +kernel
theorem dX5_fillSchedule_132 : decode cX5_fillSchedule 132 = .ok (.lxor, 1) := by decide +kernel
theorem dX5_fillSchedule_133 : decode cX5_fillSchedule 133 = .ok (.lstore 9, 2) := by decide +kernel
theorem dX5_fillSchedule_135 : decode cX5_fillSchedule 135 = .ok (.aload_n 0, 1) := by decide +kernel
theorem dX5_fillSchedule_136 : decode cX5_fillSchedule 136 = .ok (.getfield 19, 3) := by decide +kernel
theorem dX5_fillSchedule_139 : decode cX5_fillSchedule 139 = .ok (.iload_n 2, 1) := by decide +kernel
theorem dX5_fillSchedule_140 : decode cX5_fillSchedule 140 = .ok (.aload_n 0, 1) := by decide +kernel
theorem dX5_fillSchedule_141 : decode cX5_fillSchedule 141 = .ok (.getfield 19, 3) := by decide +kernel
theorem dX5_fillSchedule_144 : decode cX5_fillSchedule 144 = .ok (.iload_n 2, 1) := by decide +kernel
theorem dX5_fillSchedule_145 : decode cX5_fillSchedule 145 = .ok (.bipush 16, 2) := by decide +kernel
theorem dX5_fillSchedule_147 : decode cX5_fillSchedule 147 = .ok (.isub, 1) := by decide +kernel
theorem dX5_fillSchedule_148 : decode cX5_fillSchedule 148 = .ok (.laload, 1) := by decide +kernel
theorem dX5_fillSchedule_149 : decode cX5_fillSchedule 149 = .ok (.lload 7, 2) := by decide +kernel
theorem dX5_fillSchedule_151 : decode cX5_fillSchedule 151 = .ok (.ladd, 1) := by decide +kernel
theorem dX5_fillSchedule_152 : decode cX5_fillSchedule 152 = .ok (.aload_n 0, 1) := by decide +kernel
theorem dX5_fillSchedule_153 : decode cX5_fillSchedule 153 = .ok (.getfield 19, 3) := by decide +kernel
theorem dX5_fillSchedule_156 : decode cX5_fillSchedule 156 = .ok (.iload_n 2, 1) := by decide +kernel
theorem dX5_fillSchedule_157 : decode cX5_fillSchedule 157 = .ok (.bipush 7, 2) := by decide +kernel
theorem dX5_fillSchedule_159 : decode cX5_fillSchedule 159 = .ok (.isub, 1) := by decide +kernel
theorem dX5_fillSchedule_160 : decode cX5_fillSchedule 160 = .ok (.laload, 1) := by decide +kernel
theorem dX5_fillSchedule_161 : decode cX5_fillSchedule 161 = .ok (.ladd, 1) := by decide +kernel
theorem dX5_fillSchedule_162 : decode cX5_fillSchedule 162 = .ok (.lload 9, 2) := by decide +kernel
theorem dX5_fillSchedule_164 : decode cX5_fillSchedule 164 = .ok (.ladd, 1) := by decide +kernel
theorem dX5_fillSchedule_165 : decode cX5_fillSchedule 165 = .ok (.lastore, 1) := by decide +kernel
theorem dX5_fillSchedule_166 : decode cX5_fillSchedule 166 = .ok (.iinc 2 1, 3) := by decide +kernel
theorem dX5_fillSchedule_169 : decode cX5_fillSchedule 169 = .ok (.goto (-102), 3) := by decide +kernel
theorem dX5_fillSchedule_172 : decode cX5_fillSchedule 172 = .ok (.return_, 1) := by decide +kernel
theorem dX5_mix_0 : decode cX5_mix 0 = .ok (.aload_n 0, 1) := by decide +kernel
theorem dX5_mix_1 : decode cX5_mix 1 = .ok (.getfield 23, 3) := by decide +kernel
theorem dX5_mix_4 : decode cX5_mix 4 = .ok (.iconst 0, 1) := by decide +kernel
theorem dX5_mix_5 : decode cX5_mix 5 = .ok (.laload, 1) := by decide +kernel
theorem dX5_mix_6 : decode cX5_mix 6 = .ok (.lstore_n 1, 1) := by decide +kernel
theorem dX5_mix_7 : decode cX5_mix 7 = .ok (.aload_n 0, 1) := by decide +kernel
theorem dX5_mix_8 : decode cX5_mix 8 = .ok (.getfield 23, 3) := by decide +kernel
theorem dX5_mix_11 : decode cX5_mix 11 = .ok (.iconst 1, 1) := by decide +kernel
theorem dX5_mix_12 : decode cX5_mix 12 = .ok (.laload, 1) := by decide +kernel
theorem dX5_mix_13 : decode cX5_mix 13 = .ok (.lstore_n 3, 1) := by decide +kernel
theorem dX5_mix_14 : decode cX5_mix 14 = .ok (.aload_n 0, 1) := by decide +kernel
theorem dX5_mix_15 : decode cX5_mix 15 = .ok (.getfield 23, 3) := by decide +kernel
theorem dX5_mix_18 : decode cX5_mix 18 = .ok (.iconst 2, 1) := by decide +kernel
theorem dX5_mix_19 : decode cX5_mix 19 = .ok (.laload, 1) := by decide +kernel
theorem dX5_mix_20 : decode cX5_mix 20 = .ok (.lstore 5, 2) := by decide +kernel
theorem dX5_mix_22 : decode cX5_mix 22 = .ok (.aload_n 0, 1) := by decide +kernel
theorem dX5_mix_23 : decode cX5_mix 23 = .ok (.getfield 23, 3) := by decide +kernel
theorem dX5_mix_26 : decode cX5_mix 26 = .ok (.iconst 3, 1) := by decide +kernel
theorem dX5_mix_27 : decode cX5_mix 27 = .ok (.laload, 1) := by decide +kernel
theorem dX5_mix_28 : decode cX5_mix 28 = .ok (.lstore 7, 2) := by decide +kernel
theorem dX5_mix_30 : decode cX5_mix 30 = .ok (.aload_n 0, 1) := by decide +kernel
theorem dX5_mix_31 : decode cX5_mix 31 = .ok (.getfield 23, 3) := by decide +kernel
theorem dX5_mix_34 : decode cX5_mix 34 = .ok (.iconst 4, 1) := by decide +kernel
theorem dX5_mix_35 : decode cX5_mix 35 = .ok (.laload, 1) := by decide +kernel
theorem dX5_mix_36 : decode cX5_mix 36 = .ok (.lstore 9, 2) := by decide +kernel
theorem dX5_mix_38 : decode cX5_mix 38 = .ok (.aload_n 0, 1) := by decide +kernel
theorem dX5_mix_39 : decode cX5_mix 39 = .ok (.getfield 23, 3) := by decide +kernel
theorem dX5_mix_42 : decode cX5_mix 42 = .ok (.iconst 5, 1) := by decide +kernel
theorem dX5_mix_43 : decode cX5_mix 43 = .ok (.laload, 1) := by decide +kernel
theorem dX5_mix_44 : decode cX5_mix 44 = .ok (.lstore 11, 2) := by decide +kernel
theorem dX5_mix_46 : decode cX5_mix 46 = .ok (.aload_n 0, 1) := by decide +kernel
theorem dX5_mix_47 : decode cX5_mix 47 = .ok (.getfield 23, 3) := by decide +kernel
theorem dX5_mix_50 : decode cX5_mix 50 = .ok (.bipush 6, 2) := by decide +kernel
theorem dX5_mix_52 : decode cX5_mix 52 = .ok (.laload, 1) := by decide +kernel
theorem dX5_mix_53 : decode cX5_mix 53 = .ok (.lstore 13, 2) := by decide +kernel
theorem dX5_mix_55 : decode cX5_mix 55 = .ok (.aload_n 0, 1) := by decide +kernel
theorem dX5_mix_56 : decode cX5_mix 56 = .ok (.getfield 23, 3) := by decide +kernel
theorem dX5_mix_59 : decode cX5_mix 59 = .ok (.bipush 7, 2) := by decide +kernel
theorem dX5_mix_61 : decode cX5_mix 61 = .ok (.laload, 1) := by decide +kernel
theorem dX5_mix_62 : decode cX5_mix 62 = .ok (.lstore 15, 2) := by decide +kernel
theorem dX5_mix_64 : decode cX5_mix 64 = .ok (.iconst 0, 1) := by decide +kernel
theorem dX5_mix_65 : decode cX5_mix 65 = .ok (.istore 17, 2) := by decide +kernel
theorem dX5_mix_67 : decode cX5_mix 67 = .ok (.iload 17, 2) := by decide +kernel
theorem dX5_mix_69 : decode cX5_mix 69 = .ok (.bipush 80, 2) := by decide +kernel
theorem dX5_mix_71 : decode cX5_mix 71 = .ok (.if_icmp .ge 150, 3) := by decide +kernel
theorem dX5_mix_74 : decode cX5_mix 74 = .ok (.lload 9, 2) := by decide +kernel
theorem dX5_mix_76 : decode cX5_mix 76 = .ok (.bipush 14, 2) := by decide +kernel
theorem dX5_mix_78 : decode cX5_mix 78 = .ok (.invokestatic 59, 3) := by decide +kernel
theorem dX5_mix_81 : decode cX5_mix 81 = .ok (.lload 9, 2) := by decide +kernel
theorem dX5_mix_83 : decode cX5_mix 83 = .ok (.bipush 18, 2) := by decide +kernel
theorem dX5_mix_85 : decode cX5_mix 85 = .ok (.invokestatic 59, 3) := by decide +kernel
theorem dX5_mix_88 : decode cX5_mix 88 = .ok (.lxor, 1) := by decide +kernel
theorem dX5_mix_89 : decode cX5_mix 89 = .ok (.lload 9, 2) := by decide +kernel
theorem dX5_mix_91 : decode cX5_mix 91 = .ok (.bipush 41, 2) := by decide +kernel
theorem dX5_mix_93 : decode cX5_mix 93 = .ok (.invokestatic 59, 3) := by decide +kernel
theorem dX5_mix_96 : decode cX5_mix 96 = .ok (.lxor, 1) := by decide +kernel
theorem dX5_mix_97 : decode cX5_mix 97 = .ok (.lstore 18, 2) := by decide +kernel
theorem dX5_mix_99 : decode cX5_mix 99 = .ok (.lload 9, 2) := by decide +kernel
theorem dX5_mix_101 : decode cX5_mix 101 = .ok (.lload 11, 2) := by decide +kernel
theorem dX5_mix_103 : decode cX5_mix 103 = .ok (.land, 1) := by decide +kernel
theorem dX5_mix_104 : decode cX5_mix 104 = .ok (.lload 9, 2) := by decide +kernel
theorem dX5_mix_106 : decode cX5_mix 106 = .ok (.ldc2_w 63, 3) := by decide +kernel
theorem dX5_mix_109 : decode cX5_mix 109 = .ok (.lxor, 1) := by decide +kernel
theorem dX5_mix_110 : decode cX5_mix 110 = .ok (.lload 13, 2) := by decide +kernel
theorem dX5_mix_112 : decode cX5_mix 112 = .ok (.land, 1) := by decide +kernel
theorem dX5_mix_113 : decode cX5_mix 113 = .ok (.lxor, 1) := by decide +kernel
theorem dX5_mix_114 : decode cX5_mix 114 = .ok (.lstore 20, 2) := by decide +kernel
theorem dX5_mix_116 : decode cX5_mix 116 = .ok (.lload 15, 2) := by decide +kernel
theorem dX5_mix_118 : decode cX5_mix 118 = .ok (.lload 18, 2) := by decide +kernel
theorem dX5_mix_120 : decode cX5_mix 120 = .ok (.ladd, 1) := by decide +kernel
theorem dX5_mix_121 : decode cX5_mix 121 = .ok (.lload 20, 2) := by decide +kernel
theorem dX5_mix_123 : decode cX5_mix 123 = .ok (.ladd, 1) := by decide +kernel
theorem dX5_mix_124 : decode cX5_mix 124 = .ok (.getstatic 65, 3) := by decide +kernel
theorem dX5_mix_127 : decode cX5_mix 127 = .ok (.iload 17, 2) := by decide +kernel
theorem dX5_mix_129 : decode cX5_mix 129 = .ok (.laload, 1) := by decide +kernel
theorem dX5_mix_130 : decode cX5_mix 130 = .ok (.ladd, 1) := by decide +kernel
theorem dX5_mix_131 : decode cX5_mix 131 = .ok (.aload_n 0, 1) := by decide +kernel
theorem dX5_mix_132 : decode cX5_mix 132 = .ok (.getfield 19, 3) := by decide +kernel
theorem dX5_mix_135 : decode cX5_mix 135 = .ok (.iload 17, 2) := by decide +kernel
theorem dX5_mix_137 : decode cX5_mix 137 = .ok (.laload, 1) := by decide +kernel
theorem dX5_mix_138 : decode cX5_mix 138 = .ok (.ladd, 1) := by decide +kernel
theorem dX5_mix_139 : decode cX5_mix 139 = .ok (.lstore 22, 2) := by decide +kernel
theorem dX5_mix_141 : decode cX5_mix 141 = .ok (.lload_n 1, 1) := by decide +kernel
theorem dX5_mix_142 : decode cX5_mix 142 = .ok (.bipush 28, 2) := by decide +kernel
theorem dX5_mix_144 : decode cX5_mix 144 = .ok (.invokestatic 59, 3) := by decide +kernel
theorem dX5_mix_147 : decode cX5_mix 147 = .ok (.lload_n 1, 1) := by decide +kernel
theorem dX5_mix_148 : decode cX5_mix 148 = .ok (.bipush 34, 2) := by decide +kernel
theorem dX5_mix_150 : decode cX5_mix 150 = .ok (.invokestatic 59, 3) := by decide +kernel
theorem dX5_mix_153 : decode cX5_mix 153 = .ok (.lxor, 1) := by decide +kernel
theorem dX5_mix_154 : decode cX5_mix 154 = .ok (.lload_n 1, 1) := by decide +kernel
theorem dX5_mix_155 : decode cX5_mix 155 = .ok (.bipush 39, 2) := by decide +kernel
theorem dX5_mix_157 : decode cX5_mix 157 = .ok (.invokestatic 59, 3) := by decide +kernel
theorem dX5_mix_160 : decode cX5_mix 160 = .ok (.lxor, 1) := by decide +kernel
theorem dX5_mix_161 : decode cX5_mix 161 = .ok (.lstore 24, 2) := by decide +kernel
theorem dX5_mix_163 : decode cX5_mix 163 = .ok (.lload_n 1, 1) := by decide +kernel
theorem dX5_mix_164 : decode cX5_mix 164 = .ok (.lload_n 3, 1) := by decide +kernel
theorem dX5_mix_165 : decode cX5_mix 165 = .ok (.land, 1) := by decide +kernel
theorem dX5_mix_166 : decode cX5_mix 166 = .ok (.lload_n 1, 1) := by decide +kernel
theorem dX5_mix_167 : decode cX5_mix 167 = .ok (.lload 5, 2) := by decide +kernel
theorem dX5_mix_169 : decode cX5_mix 169 = .ok (.land, 1) := by decide +kernel
theorem dX5_mix_170 : decode cX5_mix 170 = .ok (.lxor, 1) := by decide +kernel
theorem dX5_mix_171 : decode cX5_mix 171 = .ok (.lload_n 3, 1) := by decide +kernel
theorem dX5_mix_172 : decode cX5_mix 172 = .ok (.lload 5, 2) := by decide +kernel
theorem dX5_mix_174 : decode cX5_mix 174 = .ok (.land, 1) := by decide +kernel
theorem dX5_mix_175 : decode cX5_mix 175 = .ok (.lxor, 1) := by decide +kernel
theorem dX5_mix_176 : decode cX5_mix 176 = .ok (.lstore 26, 2) := by decide +kernel
theorem dX5_mix_178 : decode cX5_mix 178 = .ok (.lload 13, 2) := by decide +kernel
theorem dX5_mix_180 : decode cX5_mix 180 = .ok (.lstore 15, 2) := by decide +kernel
theorem dX5_mix_182 : decode cX5_mix 182 = .ok (.lload 11, 2) := by decide +kernel
theorem dX5_mix_184 : decode cX5_mix 184 = .ok (.lstore 13, 2) := by decide +kernel
theorem dX5_mix_186 : decode cX5_mix 186 = .ok (.lload 9, 2) := by decide +kernel
theorem dX5_mix_188 : decode cX5_mix 188 = .ok (.lstore 11, 2) := by decide +kernel
theorem dX5_mix_190 : decode cX5_mix 190 = .ok (.lload 7, 2) := by decide +kernel
theorem dX5_mix_192 : decode cX5_mix 192 = .ok (.lload 22, 2) := by decide +kernel
theorem dX5_mix_194 : decode cX5_mix 194 = .ok (.ladd, 1) := by decide +kernel
theorem dX5_mix_195 : decode cX5_mix 195 = .ok (.lstore 9, 2) := by decide +kernel
theorem dX5_mix_197 : decode cX5_mix 197 = .ok (.lload 5, 2) := by decide +kernel
theorem dX5_mix_199 : decode cX5_mix 199 = .ok (.lstore 7, 2) := by decide +kernel
theorem dX5_mix_201 : decode cX5_mix 201 = .ok (.lload_n 3, 1) := by decide +kernel
theorem dX5_mix_202 : decode cX5_mix 202 = .ok (.lstore 5, 2) := by decide +kernel
theorem dX5_mix_204 : decode cX5_mix 204 = .ok (.lload_n 1, 1) := by decide +kernel
theorem dX5_mix_205 : decode cX5_mix 205 = .ok (.lstore_n 3, 1) := by decide +kernel
theorem dX5_mix_206 : decode cX5_mix 206 = .ok (.lload 22, 2) := by decide +kernel
theorem dX5_mix_208 : decode cX5_mix 208 = .ok (.lload 24, 2) := by decide +kernel
theorem dX5_mix_210 : decode cX5_mix 210 = .ok (.ladd, 1) := by decide +kernel
theorem dX5_mix_211 : decode cX5_mix 211 = .ok (.lload 26, 2) := by decide +kernel
theorem dX5_mix_213 : decode cX5_mix 213 = .ok (.ladd, 1) := by decide +kernel
theorem dX5_mix_214 : decode cX5_mix 214 = .ok (.lstore_n 1, 1) := by decide +kernel
theorem dX5_mix_215 : decode cX5_mix 215 = .ok (.iinc 17 1, 3) := by decide +kernel
theorem dX5_mix_218 : decode cX5_mix 218 = .ok (.goto (-151), 3) := by decide +kernel
theorem dX5_mix_221 : decode cX5_mix 221 = .ok (.aload_n 0, 1) := by decide +kernel
theorem dX5_mix_222 : decode cX5_mix 222 = .ok (.getfield 23, 3) := by decide +kernel
theorem dX5_mix_225 : decode cX5_mix 225 = .ok (.iconst 0, 1) := by decide +kernel
theorem dX5_mix_226 : decode cX5_mix 226 = .ok (.dup2, 1) := by decide +kernel
theorem dX5_mix_227 : decode cX5_mix 227 = .ok (.laload, 1) := by decide +kernel
theorem dX5_mix_228 : decode cX5_mix 228 = .ok (.lload_n 1, 1) := by decide +kernel
theorem dX5_mix_229 : decode cX5_mix 229 = .ok (.ladd, 1) := by decide +kernel
theorem dX5_mix_230 : decode cX5_mix 230 = .ok (.lastore, 1) := by decide +kernel
theorem dX5_mix_231 : decode cX5_mix 231 = .ok (.aload_n 0, 1) := by decide +kernel
theorem dX5_mix_232 : decode cX5_mix 232 = .ok (.getfield 23, 3) := by decide +kernel
theorem dX5_mix_235 : decode cX5_mix 235 = .ok (.iconst 1, 1) := by decide +kernel
theorem dX5_mix_236 : decode cX5_mix 236 = .ok (.dup2, 1) := by decide +kernel
theorem dX5_mix_237 : decode cX5_mix 237 = .ok (.laload, 1) := by decide +kernel
theorem dX5_mix_238 : decode cX5_mix 238 = .ok (.lload_n 3, 1) := by decide +kernel
theorem dX5_mix_239 : decode cX5_mix 239 = .ok (.ladd, 1) := by decide +kernel
theorem dX5_mix_240 : decode cX5_mix 240 = .ok (.lastore, 1) := by decide +kernel
theorem dX5_mix_241 : decode cX5_mix 241 = .ok (.aload_n 0, 1) := by decide +kernel
theorem dX5_mix_242 : decode cX5_mix 242 = .ok (.getfield 23, 3) := by decide +kernel
theorem dX5_mix_245 : decode cX5_mix 245 = .ok (.iconst 2, 1) := by decide +kernel
theorem dX5_mix_246 : decode cX5_mix 246 = .ok (.dup2, 1) := by decide +kernel
theorem dX5_mix_247 : decode cX5_mix 247 = .ok (.laload, 1) := by decide +kernel
theorem dX5_mix_248 : decode cX5_mix 248 = .ok (.lload 5, 2) := by decide +kernel
theorem dX5_mix_250 : decode cX5_mix 250 = .ok (.ladd, 1) := by decide +kernel
theorem dX5_mix_251 : decode cX5_mix 251 = .ok (.lastore, 1) := by decide +kernel
theorem dX5_mix_252 : decode cX5_mix 252 = .ok (.aload_n 0, 1) := by decide +kernel
theorem dX5_mix_253 : decode cX5_mix 253 = .ok (.getfield 23, 3) := by decide +kernel
theorem dX5_mix_256 : decode cX5_mix 256 = .ok (.iconst 3, 1) := by decide +kernel
theorem dX5_mix_257 : decode cX5_mix 257 = .ok (.dup2, 1) := by decide +kernel
theorem dX5_mix_258 : decode cX5_mix 258 = .ok (.laload, 1) := by decide +kernel
theorem dX5_mix_259 : decode cX5_mix 259 = .ok (.lload 7, 2) := by decide +kernel
theorem dX5_mix_261 : decode cX5_mix 261 = .ok (.ladd, 1) := by decide +kernel
theorem dX5_mix_262 : decode cX5_mix 262 = .ok (.lastore, 1) := by decide +kernel
theorem dX5_mix_263 : decode cX5_mix 263 = .ok (.aload_n 0, 1) := by decide +kernel
theorem dX5_mix_264 : decode cX5_mix 264 = .ok (.getfield 23, 3) := by decide +kernel
theorem dX5_mix_267 : decode cX5_mix 267 = .ok (.iconst 4, 1) := by decide +kernel
theorem dX5_mix_268 : decode cX5_mix 268 = .ok (.dup2, 1) := by decide +kernel
theorem dX5_mix_269 : decode cX5_mix 269 = .ok (.laload, 1) := by decide +kernel
theorem dX5_mix_270 : decode cX5_mix 270 = .ok (.lload 9, 2) := by decide +kernel
theorem dX5_mix_272 : decode cX5_mix 272 = .ok (.ladd, 1) := by decide +kernel
theorem dX5_mix_273 : decode cX5_mix 273 = .ok (.lastore, 1) := by decide +kernel
theorem dX5_mix_274 : decode cX5_mix 274 = .ok (.aload_n 0, 1) := by decide +kernel
theorem dX5_mix_275 : decode cX5_mix 275 = .ok (.getfield 23, 3) := by decide +kernel
theorem dX5_mix_278 : decode cX5_mix 278 = .ok (.iconst 5, 1) := by decide +kernel
theorem dX5_mix_279 : decode cX5_mix 279 = .ok (.dup2, 1) := by decide +kernel
theorem dX5_mix_280 : decode cX5_mix 280 = .ok (.laload, 1) := by decide +kernel
theorem dX5_mix_281 : decode cX5_mix 281 = .ok (.lload 11, 2) := by decide +kernel
theorem dX5_mix_283 : decode cX5_mix 283 = .ok (.ladd, 1) := by decide +kernel
theorem dX5_mix_284 : decode cX5_mix 284 = .ok (.lastore, 1) := by decide +kernel
theorem dX5_mix_285 : decode cX5_mix 285 = .ok (.aload_n 0, 1) := by decide +kernel
theorem dX5_mix_286 : decode cX5_mix 286 = .ok (.getfield 23, 3) := by decide +kernel
theorem dX5_mix_289 : decode cX5_mix 289 = .ok (.bipush 6, 2) := by decide +kernel
theorem dX5_mix_291 : decode cX5_mix 291 = .ok (.dup2, 1) := by decide +kernel
theorem dX5_mix_292 : decode cX5_mix 292 = .ok (.laload, 1) := by decide +kernel
theorem dX5_mix_293 : decode cX5_mix 293 = .ok (.lload 13, 2) := by decide +kernel
theorem dX5_mix_295 : decode cX5_mix 295 = .ok (.ladd, 1) := by decide +kernel
theorem dX5_mix_296 : decode cX5_mix 296 = .ok (.lastore, 1) := by decide +kernel
theorem dX5_mix_297 : decode cX5_mix 297 = .ok (.aload_n 0, 1) := by decide +kernel
theorem dX5_mix_298 : decode cX5_mix 298 = .ok (.getfield 23, 3) := by decide +kernel
theorem dX5_mix_301 : decode cX5_mix 301 = .ok (.bipush 7, 2) := by decide +kernel
theorem dX5_mix_303 : decode cX5_mix 303 = .ok (.dup2, 1) := by decide +kernel
theorem dX5_mix_304 : decode cX5_mix 304 = .ok (.laload, 1) := by decide +kernel
theorem dX5_mix_305 : decode cX5_mix 305 = .ok (.lload 15, 2) := by decide +kernel
theorem dX5_mix_307 : decode cX5_mix 307 = .ok (.ladd, 1) := by decide +kernel
theorem dX5_mix_308 : decode cX5_mix 308 = .ok (.lastore, 1) := by decide +kernel
theorem dX5_mix_309 : decode cX5_mix 309 = .ok (.return_, 1) := by decide +kernel
theorem dX5_rotated_0 : decode cX5_rotated 0 = .ok (.lload_n 0, 1) := by decide +kernel
theorem dX5_rotated_1 : decode cX5_rotated 1 = .ok (.iload_n 2, 1) := by decide +kernel
theorem dX5_rotated_2 : decode cX5_rotated 2 = .ok (.lushr, 1) := by decide +kernel
theorem dX5_rotated_3 : decode cX5_rotated 3 = .ok (.lload_n 0, 1) := by decide +kernel
theorem dX5_rotated_4 : decode cX5_rotated 4 = .ok (.bipush 64, 2) := by decide +kernel
theorem dX5_rotated_6 : decode cX5_rotated 6 = .ok (.iload_n 2, 1) := by decide +kernel
theorem dX5_rotated_7 : decode cX5_rotated 7 = .ok (.isub, 1) := by decide +kernel
theorem dX5_rotated_8 : decode cX5_rotated 8 = .ok (.lshl, 1) := by decide +kernel
theorem dX5_rotated_9 : decode cX5_rotated 9 = .ok (.lor, 1) := by decide +kernel
theorem dX5_rotated_10 : decode cX5_rotated 10 = .ok (.lreturn, 1) := by decide +kernel
theorem dX5_turned_0 : decode cX5_turned 0 = .ok (.lconst 0, 1) := by decide +kernel
theorem dX5_turned_1 : decode cX5_turned 1 = .ok (.lstore_n 2, 1) := by decide +kernel
theorem dX5_turned_2 : decode cX5_turned 2 = .ok (.iconst 0, 1) := by decide +kernel
theorem dX5_turned_3 : decode cX5_turned 3 = .ok (.istore 4, 2) := by decide +kernel
theorem dX5_turned_5 : decode cX5_turned 5 = .ok (.iload 4, 2) := by decide +kernel
theorem dX5_turned_7 : decode cX5_turned 7 = .ok (.bipush 8, 2) := by decide +kernel
theorem dX5_turned_9 : decode cX5_turned 9 = .ok (.if_icmp .ge 26, 3) := by decide +kernel
theorem dX5_turned_12 : decode cX5_turned 12 = .ok (.lload_n 2, 1) := by decide +kernel
theorem dX5_turned_13 : decode cX5_turned 13 = .ok (.bipush 8, 2) := by decide +kernel
theorem dX5_turned_15 : decode cX5_turned 15 = .ok (.lshl, 1) := by decide +kernel
theorem dX5_turned_16 : decode cX5_turned 16 = .ok (.lload_n 0, 1) := by decide +kernel
theorem dX5_turned_17 : decode cX5_turned 17 = .ok (.bipush 8, 2) := by decide +kernel
theorem dX5_turned_19 : decode cX5_turned 19 = .ok (.iload 4, 2) := by decide +kernel
theorem dX5_turned_21 : decode cX5_turned 21 = .ok (.imul, 1) := by decide +kernel
theorem dX5_turned_22 : decode cX5_turned 22 = .ok (.lushr, 1) := by decide +kernel
theorem dX5_turned_23 : decode cX5_turned 23 = .ok (.ldc2_w 68, 3) := by decide +kernel
theorem dX5_turned_26 : decode cX5_turned 26 = .ok (.land, 1) := by decide +kernel
theorem dX5_turned_27 : decode cX5_turned 27 = .ok (.lor, 1) := by decide +kernel
theorem dX5_turned_28 : decode cX5_turned 28 = .ok (.lstore_n 2, 1) := by decide +kernel
theorem dX5_turned_29 : decode cX5_turned 29 = .ok (.iinc 4 1, 3) := by decide +kernel
theorem dX5_turned_32 : decode cX5_turned 32 = .ok (.goto (-27), 3) := by decide +kernel
theorem dX5_turned_35 : decode cX5_turned 35 = .ok (.lload_n 2, 1) := by decide +kernel
theorem dX5_turned_36 : decode cX5_turned 36 = .ok (.lreturn, 1) := by decide +kernel
theorem dX6_init_0 : decode cX6_init 0 = .ok (.aload_n 0, 1) := by decide +kernel
theorem dX6_init_1 : decode cX6_init 1 = .ok (.invokespecial 1, 3) := by decide +kernel
theorem dX6_init_4 : decode cX6_init 4 = .ok (.aload_n 0, 1) := by decide +kernel
theorem dX6_init_5 : decode cX6_init 5 = .ok (.bipush 8, 2) := by decide +kernel
theorem dX6_init_7 : decode cX6_init 7 = .ok (.newarray .long, 2) := by decide +kernel
theorem dX6_init_9 : decode cX6_init 9 = .ok (.putfield 9, 3) := by decide +kernel
theorem dX6_init_12 : decode cX6_init 12 = .ok (.aload_n 0, 1) := by decide +kernel
theorem dX6_init_13 : decode cX6_init 13 = .ok (.iconst 4, 1) := by decide +kernel
theorem dX6_init_14 : decode cX6_init 14 = .ok (.newarray .long, 2) := by decide +kernel
theorem dX6_init_16 : decode cX6_init 16 = .ok (.putfield 17, 3) := by decide +kernel
theorem dX6_init_19 : decode cX6_init 19 = .ok (.aload_n 0, 1) := by decide +kernel
theorem dX6_init_20 : decode cX6_init 20 = .ok (.iconst 4, 1) := by decide +kernel
theorem dX6_init_21 : decode cX6_init 21 = .ok (.newarray .long, 2) := by decide +kernel
theorem dX6_init_23 : decode cX6_init 23 = .ok (.putfield 20, 3) := by decide +kernel
theorem dX6_init_26 : decode cX6_init 26 = .ok (.aload_n 0, 1) := by decide +kernel
theorem dX6_init_27 : decode cX6_init 27 = .ok (.iconst 4, 1) := by decide +kernel
theorem dX6_init_28 : decode cX6_init 28 = .ok (.newarray .long, 2) := by decide +kernel
theorem dX6_init_30 : decode cX6_init 30 = .ok (.putfield 23, 3) := by decide +kernel
theorem dX6_init_33 : decode cX6_init 33 = .ok (.aload_n 0, 1) := by decide +kernel
theorem dX6_init_34 : decode cX6_init 34 = .ok (.iconst 4, 1) := by decide +kernel
theorem dX6_init_35 : decode cX6_init 35 = .ok (.newarray .long, 2) := by decide +kernel
theorem dX6_init_37 : decode cX6_init 37 = .ok (.putfield 26, 3) := by decide +kernel
theorem dX6_init_40 : decode cX6_init 40 = .ok (.aload_n 0, 1) := by decide +kernel
theorem dX6_init_41 : decode cX6_init 41 = .ok (.iconst 4, 1) := by decide +kernel
theorem dX6_init_42 : decode cX6_init 42 = .ok (.newarray .long, 2) := by decide +kernel
theorem dX6_init_44 : decode cX6_init 44 = .ok (.putfield 29, 3) := by decide +kernel
theorem dX6_init_47 : decode cX6_init 47 = .ok (.aload_n 0, 1) := by decide +kernel
theorem dX6_init_48 : decode cX6_init 48 = .ok (.new 32, 3) := by decide +kernel
theorem dX6_init_51 : decode cX6_init 51 = .ok (.dup, 1) := by decide +kernel
theorem dX6_init_52 : decode cX6_init 52 = .ok (.invokespecial 34, 3) := by decide +kernel
theorem dX6_init_55 : decode cX6_init 55 = .ok (.putfield 35, 3) := by decide +kernel
theorem dX6_init_58 : decode cX6_init 58 = .ok (.aload_n 0, 1) := by decide +kernel
theorem dX6_init_59 : decode cX6_init 59 = .ok (.new 32, 3) := by decide +kernel
theorem dX6_init_62 : decode cX6_init 62 = .ok (.dup, 1) := by decide +kernel
theorem dX6_init_63 : decode cX6_init 63 = .ok (.invokespecial 34, 3) := by decide +kernel
theorem dX6_init_66 : decode cX6_init 66 = .ok (.putfield 39, 3) := by decide +kernel
theorem dX6_init_69 : decode cX6_init 69 = .ok (.aload_n 0, 1) := by decide +kernel
theorem dX6_init_70 : decode cX6_init 70 = .ok (.new 32, 3) := by decide +kernel
theorem dX6_init_73 : decode cX6_init 73 = .ok (.dup, 1) := by decide +kernel
theorem dX6_init_74 : decode cX6_init 74 = .ok (.invokespecial 34, 3) := by decide +kernel
theorem dX6_init_77 : decode cX6_init 77 = .ok (.putfield 42, 3) := by decide +kernel
theorem dX6_init_80 : decode cX6_init 80 = .ok (.aload_n 0, 1) := by decide +kernel
theorem dX6_init_81 : decode cX6_init 81 = .ok (.aload_n 1, 1) := by decide +kernel
theorem dX6_init_82 : decode cX6_init 82 = .ok (.putfield 45, 3) := by decide +kernel
theorem dX6_init_85 : decode cX6_init 85 = .ok (.aload_n 0, 1) := by decide +kernel
theorem dX6_init_86 : decode cX6_init 86 = .ok (.aload_n 2, 1) := by decide +kernel
theorem dX6_init_87 : decode cX6_init 87 = .ok (.putfield 49, 3) := by decide +kernel
theorem dX6_init_90 : decode cX6_init 90 = .ok (.aload_n 0, 1) := by decide +kernel
theorem dX6_init_91 : decode cX6_init 91 = .ok (.aload_n 3, 1) := by decide +kernel
theorem dX6_init_92 : decode cX6_init 92 = .ok (.putfield 53, 3) := by decide +kernel
theorem dX6_init_95 : decode cX6_init 95 = .ok (.return_, 1) := by decide +kernel
theorem dX6_makeKey_0 : decode cX6_makeKey 0 = .ok (.aload_n 0, 1) := by decide +kernel
theorem dX6_makeKey_1 : decode cX6_makeKey 1 = .ok (.aload_n 1, 1) := by decide +kernel
theorem dX6_makeKey_2 : decode cX6_makeKey 2 = .ok (.invokevirtual 57, 3) := by decide +kernel
theorem dX6_makeKey_5 : decode cX6_makeKey 5 = .ok (.aload_n 0, 1) := by decide +kernel
theorem dX6_makeKey_6 : decode cX6_makeKey 6 = .ok (.getfield 45, 3) := by decide +kernel
theorem dX6_makeKey_9 : decode cX6_makeKey 9 = .ok (.aload_n 0, 1) := by decide +kernel
theorem dX6_makeKey_10 : decode cX6_makeKey 10 = .ok (.getfield 17, 3) := by decide +kernel
theorem dX6_makeKey_13 : decode cX6_makeKey 13 = .ok (.aload_n 0, 1) := by decide +kernel
theorem dX6_makeKey_14 : decode cX6_makeKey 14 = .ok (.getfield 45, 3) := by decide +kernel
theorem dX6_makeKey_17 : decode cX6_makeKey 17 = .ok (.getfield 61, 3) := by decide +kernel
theorem dX6_makeKey_20 : decode cX6_makeKey 20 = .ok (.aload_n 0, 1) := by decide +kernel
theorem dX6_makeKey_21 : decode cX6_makeKey 21 = .ok (.getfield 42, 3) := by decide +kernel
theorem dX6_makeKey_24 : decode cX6_makeKey 24 = .ok (.invokevirtual 66, 3) := by decide +kernel
theorem dX6_makeKey_27 : decode cX6_makeKey 27 = .ok (.aload_n 0, 1) := by decide +kernel
theorem dX6_makeKey_28 : decode cX6_makeKey 28 = .ok (.getfield 45, 3) := by decide +kernel
theorem dX6_makeKey_31 : decode cX6_makeKey 31 = .ok (.aload_n 0, 1) := by decide +kernel
theorem dX6_makeKey_32 : decode cX6_makeKey 32 = .ok (.getfield 42, 3) := by decide +kernel
theorem dX6_makeKey_35 : decode cX6_makeKey 35 = .ok (.aload_n 2, 1) := by decide +kernel
theorem dX6_makeKey_36 : decode cX6_makeKey 36 = .ok (.invokevirtual 70, 3) := by decide +kernel
theorem dX6_makeKey_39 : decode cX6_makeKey 39 = .ok (.return_, 1) := by decide +kernel
theorem dX6_makeSignature_0 : decode cX6_makeSignature 0 = .ok (.aload_n 0, 1) := by decide +kernel
theorem dX6_makeSignature_1 : decode cX6_makeSignature 1 = .ok (.aload_n 1, 1) := by decide +kernel
theorem dX6_makeSignature_2 : decode cX6_makeSignature 2 = .ok (.invokevirtual 57, 3) := by decide +kernel
theorem dX6_makeSignature_5 : decode cX6_makeSignature 5 = .ok (.aload_n 0, 1) := by decide +kernel
theorem dX6_makeSignature_6 : decode cX6_makeSignature 6 = .ok (.getfield 45, 3) := by decide +kernel
theorem dX6_makeSignature_9 : decode cX6_makeSignature 9 = .ok (.aload_n 0, 1) := by decide +kernel
theorem dX6_makeSignature_10 : decode cX6_makeSignature 10 = .ok (.getfield 17, 3) := by decide +kernel
theorem dX6_makeSignature_13 : decode cX6_makeSignature 13 = .ok (.aload_n 0, 1) := by decide +kernel
theorem dX6_makeSignature_14 : decode cX6_makeSignature 14 = .ok (.getfield 45, 3) := by decide +kernel
theorem dX6_makeSignature_17 : decode cX6_makeSignature 17 = .ok (.getfield 61, 3) := by decide +kernel
theorem dX6_makeSignature_20 : decode cX6_makeSignature 20 = .ok (.aload_n 0, 1) := by decide +kernel
theorem dX6_makeSignature_21 : decode cX6_makeSignature 21 = .ok (.getfield 42, 3) := by decide +kernel
theorem dX6_makeSignature_24 : decode cX6_makeSignature 24 = .ok (.invokevirtual 66, 3) := by decide +kernel
theorem dX6_makeSignature_27 : decode cX6_makeSignature 27 = .ok (.aload_n 0, 1) := by decide +kernel
theorem dX6_makeSignature_28 : decode cX6_makeSignature 28 = .ok (.getfield 45, 3) := by decide +kernel
theorem dX6_makeSignature_31 : decode cX6_makeSignature 31 = .ok (.aload_n 0, 1) := by decide +kernel
theorem dX6_makeSignature_32 : decode cX6_makeSignature 32 = .ok (.getfield 42, 3) := by decide +kernel
theorem dX6_makeSignature_35 : decode cX6_makeSignature 35 = .ok (.aload_n 0, 1) := by decide +kernel
theorem dX6_makeSignature_36 : decode cX6_makeSignature 36 = .ok (.getfield 29, 3) := by decide +kernel
theorem dX6_makeSignature_39 : decode cX6_makeSignature 39 = .ok (.invokevirtual 70, 3) := by decide +kernel
theorem dX6_makeSignature_42 : decode cX6_makeSignature 42 = .ok (.aload_n 0, 1) := by decide +kernel
theorem dX6_makeSignature_43 : decode cX6_makeSignature 43 = .ok (.getfield 53, 3) := by decide +kernel
theorem dX6_makeSignature_46 : decode cX6_makeSignature 46 = .ok (.invokevirtual 74, 3) := by decide +kernel
theorem dX6_makeSignature_49 : decode cX6_makeSignature 49 = .ok (.aload_n 0, 1) := by decide +kernel
theorem dX6_makeSignature_50 : decode cX6_makeSignature 50 = .ok (.getfield 53, 3) := by decide +kernel
theorem dX6_makeSignature_53 : decode cX6_makeSignature 53 = .ok (.aload_n 0, 1) := by decide +kernel
theorem dX6_makeSignature_54 : decode cX6_makeSignature 54 = .ok (.getfield 20, 3) := by decide +kernel
theorem dX6_makeSignature_57 : decode cX6_makeSignature 57 = .ok (.invokevirtual 77, 3) := by decide +kernel
theorem dX6_makeSignature_60 : decode cX6_makeSignature 60 = .ok (.aload_n 0, 1) := by decide +kernel
theorem dX6_makeSignature_61 : decode cX6_makeSignature 61 = .ok (.getfield 53, 3) := by decide +kernel
theorem dX6_makeSignature_64 : decode cX6_makeSignature 64 = .ok (.aload_n 2, 1) := by decide +kernel
theorem dX6_makeSignature_65 : decode cX6_makeSignature 65 = .ok (.invokevirtual 80, 3) := by decide +kernel
theorem dX6_makeSignature_68 : decode cX6_makeSignature 68 = .ok (.aload_n 0, 1) := by decide +kernel
theorem dX6_makeSignature_69 : decode cX6_makeSignature 69 = .ok (.getfield 53, 3) := by decide +kernel
theorem dX6_makeSignature_72 : decode cX6_makeSignature 72 = .ok (.aload_n 0, 1) := by decide +kernel
theorem dX6_makeSignature_73 : decode cX6_makeSignature 73 = .ok (.getfield 9, 3) := by decide +kernel
theorem dX6_makeSignature_76 : decode cX6_makeSignature 76 = .ok (.invokevirtual 84, 3) := by decide +kernel
theorem dX6_makeSignature_79 : decode cX6_makeSignature 79 = .ok (.aload_n 0, 1) := by decide +kernel
theorem dX6_makeSignature_80 : decode cX6_makeSignature 80 = .ok (.getfield 9, 3) := by decide +kernel
theorem dX6_makeSignature_83 : decode cX6_makeSignature 83 = .ok (.sipush 512, 3) := by decide +kernel
theorem dX6_makeSignature_86 : decode cX6_makeSignature 86 = .ok (.aload_n 0, 1) := by decide +kernel
theorem dX6_makeSignature_87 : decode cX6_makeSignature 87 = .ok (.getfield 23, 3) := by decide +kernel
theorem dX6_makeSignature_90 : decode cX6_makeSignature 90 = .ok (.invokestatic 87, 3) := by decide +kernel
theorem dX6_makeSignature_93 : decode cX6_makeSignature 93 = .ok (.aload_n 0, 1) := by decide +kernel
theorem dX6_makeSignature_94 : decode cX6_makeSignature 94 = .ok (.getfield 45, 3) := by decide +kernel
theorem dX6_makeSignature_97 : decode cX6_makeSignature 97 = .ok (.aload_n 0, 1) := by decide +kernel
theorem dX6_makeSignature_98 : decode cX6_makeSignature 98 = .ok (.getfield 23, 3) := by decide +kernel
theorem dX6_makeSignature_101 : decode cX6_makeSignature 101 = .ok (.aload_n 0, 1) := by decide +kernel
theorem dX6_makeSignature_102 : decode cX6_makeSignature 102 = .ok (.getfield 45, 3) := by decide +kernel
theorem dX6_makeSignature_105 : decode cX6_makeSignature 105 = .ok (.getfield 61, 3) := by decide +kernel
theorem dX6_makeSignature_108 : decode cX6_makeSignature 108 = .ok (.aload_n 0, 1) := by decide +kernel
theorem dX6_makeSignature_109 : decode cX6_makeSignature 109 = .ok (.getfield 42, 3) := by decide +kernel
theorem dX6_makeSignature_112 : decode cX6_makeSignature 112 = .ok (.invokevirtual 66, 3) := by decide +kernel
theorem dX6_makeSignature_115 : decode cX6_makeSignature 115 = .ok (.aload_n 0, 1) := by decide +kernel
theorem dX6_makeSignature_116 : decode cX6_makeSignature 116 = .ok (.getfield 45, 3) := by decide +kernel
theorem dX6_makeSignature_119 : decode cX6_makeSignature 119 = .ok (.aload_n 0, 1) := by decide +kernel
theorem dX6_makeSignature_120 : decode cX6_makeSignature 120 = .ok (.getfield 42, 3) := by decide +kernel
theorem dX6_makeSignature_123 : decode cX6_makeSignature 123 = .ok (.aload_n 3, 1) := by decide +kernel
theorem dX6_makeSignature_124 : decode cX6_makeSignature 124 = .ok (.invokevirtual 70, 3) := by decide +kernel
theorem dX6_makeSignature_127 : decode cX6_makeSignature 127 = .ok (.aload_n 0, 1) := by decide +kernel
theorem dX6_makeSignature_128 : decode cX6_makeSignature 128 = .ok (.aload_n 3, 1) := by decide +kernel
theorem dX6_makeSignature_129 : decode cX6_makeSignature 129 = .ok (.aload_n 0, 1) := by decide +kernel
theorem dX6_makeSignature_130 : decode cX6_makeSignature 130 = .ok (.getfield 29, 3) := by decide +kernel
theorem dX6_makeSignature_133 : decode cX6_makeSignature 133 = .ok (.aload_n 2, 1) := by decide +kernel
theorem dX6_makeSignature_134 : decode cX6_makeSignature 134 = .ok (.invokevirtual 93, 3) := by decide +kernel
theorem dX6_makeSignature_137 : decode cX6_makeSignature 137 = .ok (.aload_n 0, 1) := by decide +kernel
theorem dX6_makeSignature_138 : decode cX6_makeSignature 138 = .ok (.getfield 49, 3) := by decide +kernel
theorem dX6_makeSignature_141 : decode cX6_makeSignature 141 = .ok (.aload_n 0, 1) := by decide +kernel
theorem dX6_makeSignature_142 : decode cX6_makeSignature 142 = .ok (.getfield 26, 3) := by decide +kernel
theorem dX6_makeSignature_145 : decode cX6_makeSignature 145 = .ok (.aload_n 0, 1) := by decide +kernel
theorem dX6_makeSignature_146 : decode cX6_makeSignature 146 = .ok (.getfield 17, 3) := by decide +kernel
theorem dX6_makeSignature_149 : decode cX6_makeSignature 149 = .ok (.aload_n 0, 1) := by decide +kernel
theorem dX6_makeSignature_150 : decode cX6_makeSignature 150 = .ok (.getfield 23, 3) := by decide +kernel
theorem dX6_makeSignature_153 : decode cX6_makeSignature 153 = .ok (.aload 4, 2) := by decide +kernel
theorem dX6_makeSignature_155 : decode cX6_makeSignature 155 = .ok (.invokevirtual 97, 3) := by decide +kernel
theorem dX6_makeSignature_158 : decode cX6_makeSignature 158 = .ok (.return_, 1) := by decide +kernel
theorem dX6_isRight_0 : decode cX6_isRight 0 = .ok (.aload_n 3, 1) := by decide +kernel
theorem dX6_isRight_1 : decode cX6_isRight 1 = .ok (.invokestatic 101, 3) := by decide +kernel
theorem dX6_isRight_4 : decode cX6_isRight 4 = .ok (.ifCond .ne 5, 3) := by decide +kernel
theorem dX6_isRight_7 : decode cX6_isRight 7 = .ok (.iconst 0, 1) := by decide +kernel
theorem dX6_isRight_8 : decode cX6_isRight 8 = .ok (.ireturn, 1) := by decide +kernel
theorem dX6_isRight_9 : decode cX6_isRight 9 = .ok (.aload_n 0, 1) := by decide +kernel
theorem dX6_isRight_10 : decode cX6_isRight 10 = .ok (.getfield 45, 3) := by decide +kernel
theorem dX6_isRight_13 : decode cX6_isRight 13 = .ok (.aload_n 1, 1) := by decide +kernel
theorem dX6_isRight_14 : decode cX6_isRight 14 = .ok (.aload_n 0, 1) := by decide +kernel
theorem dX6_isRight_15 : decode cX6_isRight 15 = .ok (.getfield 35, 3) := by decide +kernel
theorem dX6_isRight_18 : decode cX6_isRight 18 = .ok (.invokevirtual 105, 3) := by decide +kernel
theorem dX6_isRight_21 : decode cX6_isRight 21 = .ok (.ifCond .eq 18, 3) := by decide +kernel
theorem dX6_isRight_24 : decode cX6_isRight 24 = .ok (.aload_n 0, 1) := by decide +kernel
theorem dX6_isRight_25 : decode cX6_isRight 25 = .ok (.getfield 45, 3) := by decide +kernel
theorem dX6_isRight_28 : decode cX6_isRight 28 = .ok (.aload_n 2, 1) := by decide +kernel
theorem dX6_isRight_29 : decode cX6_isRight 29 = .ok (.aload_n 0, 1) := by decide +kernel
theorem dX6_isRight_30 : decode cX6_isRight 30 = .ok (.getfield 39, 3) := by decide +kernel
theorem dX6_isRight_33 : decode cX6_isRight 33 = .ok (.invokevirtual 105, 3) := by decide +kernel
theorem dX6_isRight_36 : decode cX6_isRight 36 = .ok (.ifCond .ne 5, 3) := by decide +kernel
theorem dX6_isRight_39 : decode cX6_isRight 39 = .ok (.iconst 0, 1) := by decide +kernel
theorem dX6_isRight_40 : decode cX6_isRight 40 = .ok (.ireturn, 1) := by decide +kernel
theorem dX6_isRight_41 : decode cX6_isRight 41 = .ok (.aload_n 0, 1) := by decide +kernel
theorem dX6_isRight_42 : decode cX6_isRight 42 = .ok (.aload_n 2, 1) := by decide +kernel
theorem dX6_isRight_43 : decode cX6_isRight 43 = .ok (.aload_n 1, 1) := by decide +kernel
theorem dX6_isRight_44 : decode cX6_isRight 44 = .ok (.aload 4, 2) := by decide +kernel
theorem dX6_isRight_46 : decode cX6_isRight 46 = .ok (.invokevirtual 93, 3) := by decide +kernel
theorem dX6_isRight_49 : decode cX6_isRight 49 = .ok (.aload_n 0, 1) := by decide +kernel
theorem dX6_isRight_50 : decode cX6_isRight 50 = .ok (.getfield 45, 3) := by decide +kernel
theorem dX6_isRight_53 : decode cX6_isRight 53 = .ok (.aload_n 0, 1) := by decide +kernel
theorem dX6_isRight_54 : decode cX6_isRight 54 = .ok (.getfield 26, 3) := by decide +kernel
theorem dX6_isRight_57 : decode cX6_isRight 57 = .ok (.aload_n 0, 1) := by decide +kernel
theorem dX6_isRight_58 : decode cX6_isRight 58 = .ok (.getfield 35, 3) := by decide +kernel
theorem dX6_isRight_61 : decode cX6_isRight 61 = .ok (.aload_n 0, 1) := by decide +kernel
theorem dX6_isRight_62 : decode cX6_isRight 62 = .ok (.getfield 35, 3) := by decide +kernel
theorem dX6_isRight_65 : decode cX6_isRight 65 = .ok (.invokevirtual 66, 3) := by decide +kernel
theorem dX6_isRight_68 : decode cX6_isRight 68 = .ok (.aload_n 0, 1) := by decide +kernel
theorem dX6_isRight_69 : decode cX6_isRight 69 = .ok (.getfield 45, 3) := by decide +kernel
theorem dX6_isRight_72 : decode cX6_isRight 72 = .ok (.aload_n 0, 1) := by decide +kernel
theorem dX6_isRight_73 : decode cX6_isRight 73 = .ok (.getfield 35, 3) := by decide +kernel
theorem dX6_isRight_76 : decode cX6_isRight 76 = .ok (.aload_n 0, 1) := by decide +kernel
theorem dX6_isRight_77 : decode cX6_isRight 77 = .ok (.getfield 39, 3) := by decide +kernel
theorem dX6_isRight_80 : decode cX6_isRight 80 = .ok (.aload_n 0, 1) := by decide +kernel
theorem dX6_isRight_81 : decode cX6_isRight 81 = .ok (.getfield 35, 3) := by decide +kernel
theorem dX6_isRight_84 : decode cX6_isRight 84 = .ok (.invokevirtual 109, 3) := by decide +kernel
theorem dX6_isRight_87 : decode cX6_isRight 87 = .ok (.aload_n 0, 1) := by decide +kernel
theorem dX6_isRight_88 : decode cX6_isRight 88 = .ok (.getfield 45, 3) := by decide +kernel
theorem dX6_isRight_91 : decode cX6_isRight 91 = .ok (.aload_n 0, 1) := by decide +kernel
theorem dX6_isRight_92 : decode cX6_isRight 92 = .ok (.getfield 35, 3) := by decide +kernel
theorem dX6_isRight_95 : decode cX6_isRight 95 = .ok (.invokevirtual 113, 3) := by decide +kernel
theorem dX6_isRight_98 : decode cX6_isRight 98 = .ok (.aload_n 0, 1) := by decide +kernel
theorem dX6_isRight_99 : decode cX6_isRight 99 = .ok (.getfield 45, 3) := by decide +kernel
theorem dX6_isRight_102 : decode cX6_isRight 102 = .ok (.aload_n 3, 1) := by decide +kernel
theorem dX6_isRight_103 : decode cX6_isRight 103 = .ok (.aload_n 0, 1) := by decide +kernel
theorem dX6_isRight_104 : decode cX6_isRight 104 = .ok (.getfield 45, 3) := by decide +kernel
theorem dX6_isRight_107 : decode cX6_isRight 107 = .ok (.getfield 61, 3) := by decide +kernel
theorem dX6_isRight_110 : decode cX6_isRight 110 = .ok (.aload_n 0, 1) := by decide +kernel
theorem dX6_isRight_111 : decode cX6_isRight 111 = .ok (.getfield 42, 3) := by decide +kernel
theorem dX6_isRight_114 : decode cX6_isRight 114 = .ok (.invokevirtual 66, 3) := by decide +kernel
theorem dX6_isRight_117 : decode cX6_isRight 117 = .ok (.aload_n 0, 1) := by decide +kernel
theorem dX6_isRight_118 : decode cX6_isRight 118 = .ok (.getfield 45, 3) := by decide +kernel
theorem dX6_isRight_121 : decode cX6_isRight 121 = .ok (.aload_n 0, 1) := by decide +kernel
theorem dX6_isRight_122 : decode cX6_isRight 122 = .ok (.getfield 42, 3) := by decide +kernel
theorem dX6_isRight_125 : decode cX6_isRight 125 = .ok (.aload_n 0, 1) := by decide +kernel
theorem dX6_isRight_126 : decode cX6_isRight 126 = .ok (.getfield 35, 3) := by decide +kernel
theorem dX6_isRight_129 : decode cX6_isRight 129 = .ok (.aload_n 0, 1) := by decide +kernel
theorem dX6_isRight_130 : decode cX6_isRight 130 = .ok (.getfield 42, 3) := by decide +kernel
theorem dX6_isRight_133 : decode cX6_isRight 133 = .ok (.invokevirtual 109, 3) := by decide +kernel
theorem dX6_isRight_136 : decode cX6_isRight 136 = .ok (.iconst 0, 1) := by decide +kernel
theorem dX6_isRight_137 : decode cX6_isRight 137 = .ok (.istore 5, 2) := by decide +kernel
theorem dX6_isRight_139 : decode cX6_isRight 139 = .ok (.iload 5, 2) := by decide +kernel
theorem dX6_isRight_141 : decode cX6_isRight 141 = .ok (.iconst 3, 1) := by decide +kernel
theorem dX6_isRight_142 : decode cX6_isRight 142 = .ok (.if_icmp .ge 24, 3) := by decide +kernel
theorem dX6_isRight_145 : decode cX6_isRight 145 = .ok (.aload_n 0, 1) := by decide +kernel
theorem dX6_isRight_146 : decode cX6_isRight 146 = .ok (.getfield 45, 3) := by decide +kernel
theorem dX6_isRight_149 : decode cX6_isRight 149 = .ok (.aload_n 0, 1) := by decide +kernel
theorem dX6_isRight_150 : decode cX6_isRight 150 = .ok (.getfield 42, 3) := by decide +kernel
theorem dX6_isRight_153 : decode cX6_isRight 153 = .ok (.aload_n 0, 1) := by decide +kernel
theorem dX6_isRight_154 : decode cX6_isRight 154 = .ok (.getfield 42, 3) := by decide +kernel
theorem dX6_isRight_157 : decode cX6_isRight 157 = .ok (.invokevirtual 117, 3) := by decide +kernel
theorem dX6_isRight_160 : decode cX6_isRight 160 = .ok (.iinc 5 1, 3) := by decide +kernel
theorem dX6_isRight_163 : decode cX6_isRight 163 = .ok (.goto (-24), 3) := by decide +kernel
theorem dX6_isRight_166 : decode cX6_isRight 166 = .ok (.aload_n 0, 1) := by decide +kernel
theorem dX6_isRight_167 : decode cX6_isRight 167 = .ok (.getfield 45, 3) := by decide +kernel
theorem dX6_isRight_170 : decode cX6_isRight 170 = .ok (.aload_n 0, 1) := by decide +kernel
theorem dX6_isRight_171 : decode cX6_isRight 171 = .ok (.getfield 42, 3) := by decide +kernel
theorem dX6_isRight_174 : decode cX6_isRight 174 = .ok (.invokevirtual 121, 3) := by decide +kernel
theorem dX6_isRight_177 : decode cX6_isRight 177 = .ok (.ireturn, 1) := by decide +kernel
theorem dX6_unfold_0 : decode cX6_unfold 0 = .ok (.aload_n 0, 1) := by decide +kernel
theorem dX6_unfold_1 : decode cX6_unfold 1 = .ok (.getfield 53, 3) := by decide +kernel
theorem dX6_unfold_4 : decode cX6_unfold 4 = .ok (.invokevirtual 74, 3) := by decide +kernel
theorem dX6_unfold_7 : decode cX6_unfold 7 = .ok (.aload_n 0, 1) := by decide +kernel
theorem dX6_unfold_8 : decode cX6_unfold 8 = .ok (.getfield 53, 3) := by decide +kernel
theorem dX6_unfold_11 : decode cX6_unfold 11 = .ok (.aload_n 1, 1) := by decide +kernel
theorem dX6_unfold_12 : decode cX6_unfold 12 = .ok (.invokevirtual 77, 3) := by decide +kernel
theorem dX6_unfold_15 : decode cX6_unfold 15 = .ok (.aload_n 0, 1) := by decide +kernel
theorem dX6_unfold_16 : decode cX6_unfold 16 = .ok (.getfield 53, 3) := by decide +kernel
theorem dX6_unfold_19 : decode cX6_unfold 19 = .ok (.aload_n 0, 1) := by decide +kernel
theorem dX6_unfold_20 : decode cX6_unfold 20 = .ok (.getfield 9, 3) := by decide +kernel
theorem dX6_unfold_23 : decode cX6_unfold 23 = .ok (.invokevirtual 84, 3) := by decide +kernel
theorem dX6_unfold_26 : decode cX6_unfold 26 = .ok (.aload_n 0, 1) := by decide +kernel
theorem dX6_unfold_27 : decode cX6_unfold 27 = .ok (.getfield 9, 3) := by decide +kernel
theorem dX6_unfold_30 : decode cX6_unfold 30 = .ok (.iconst 0, 1) := by decide +kernel
theorem dX6_unfold_31 : decode cX6_unfold 31 = .ok (.aload_n 0, 1) := by decide +kernel
theorem dX6_unfold_32 : decode cX6_unfold 32 = .ok (.getfield 17, 3) := by decide +kernel
theorem dX6_unfold_35 : decode cX6_unfold 35 = .ok (.iconst 0, 1) := by decide +kernel
theorem dX6_unfold_36 : decode cX6_unfold 36 = .ok (.iconst 4, 1) := by decide +kernel
theorem dX6_unfold_37 : decode cX6_unfold 37 = .ok (.invokestatic 125, 3) := by decide +kernel
theorem dX6_unfold_40 : decode cX6_unfold 40 = .ok (.aload_n 0, 1) := by decide +kernel
theorem dX6_unfold_41 : decode cX6_unfold 41 = .ok (.getfield 9, 3) := by decide +kernel
theorem dX6_unfold_44 : decode cX6_unfold 44 = .ok (.iconst 4, 1) := by decide +kernel
theorem dX6_unfold_45 : decode cX6_unfold 45 = .ok (.aload_n 0, 1) := by decide +kernel
theorem dX6_unfold_46 : decode cX6_unfold 46 = .ok (.getfield 20, 3) := by decide +kernel
theorem dX6_unfold_49 : decode cX6_unfold 49 = .ok (.iconst 0, 1) := by decide +kernel
theorem dX6_unfold_50 : decode cX6_unfold 50 = .ok (.iconst 4, 1) := by decide +kernel
theorem dX6_unfold_51 : decode cX6_unfold 51 = .ok (.invokestatic 125, 3) := by decide +kernel
theorem dX6_unfold_54 : decode cX6_unfold 54 = .ok (.aload_n 0, 1) := by decide +kernel
theorem dX6_unfold_55 : decode cX6_unfold 55 = .ok (.getfield 17, 3) := by decide +kernel
theorem dX6_unfold_58 : decode cX6_unfold 58 = .ok (.invokestatic 131, 3) := by decide +kernel
theorem dX6_unfold_61 : decode cX6_unfold 61 = .ok (.return_, 1) := by decide +kernel
theorem dX6_findChallenge_0 : decode cX6_findChallenge 0 = .ok (.aload_n 0, 1) := by decide +kernel
theorem dX6_findChallenge_1 : decode cX6_findChallenge 1 = .ok (.getfield 53, 3) := by decide +kernel
theorem dX6_findChallenge_4 : decode cX6_findChallenge 4 = .ok (.invokevirtual 74, 3) := by decide +kernel
theorem dX6_findChallenge_7 : decode cX6_findChallenge 7 = .ok (.aload_n 0, 1) := by decide +kernel
theorem dX6_findChallenge_8 : decode cX6_findChallenge 8 = .ok (.getfield 53, 3) := by decide +kernel
theorem dX6_findChallenge_11 : decode cX6_findChallenge 11 = .ok (.aload_n 1, 1) := by decide +kernel
theorem dX6_findChallenge_12 : decode cX6_findChallenge 12 = .ok (.invokevirtual 77, 3) := by decide +kernel
theorem dX6_findChallenge_15 : decode cX6_findChallenge 15 = .ok (.aload_n 0, 1) := by decide +kernel
theorem dX6_findChallenge_16 : decode cX6_findChallenge 16 = .ok (.getfield 53, 3) := by decide +kernel
theorem dX6_findChallenge_19 : decode cX6_findChallenge 19 = .ok (.aload_n 2, 1) := by decide +kernel
theorem dX6_findChallenge_20 : decode cX6_findChallenge 20 = .ok (.invokevirtual 77, 3) := by decide +kernel
theorem dX6_findChallenge_23 : decode cX6_findChallenge 23 = .ok (.aload_n 0, 1) := by decide +kernel
theorem dX6_findChallenge_24 : decode cX6_findChallenge 24 = .ok (.getfield 53, 3) := by decide +kernel
theorem dX6_findChallenge_27 : decode cX6_findChallenge 27 = .ok (.aload_n 3, 1) := by decide +kernel
theorem dX6_findChallenge_28 : decode cX6_findChallenge 28 = .ok (.invokevirtual 80, 3) := by decide +kernel
theorem dX6_findChallenge_31 : decode cX6_findChallenge 31 = .ok (.aload_n 0, 1) := by decide +kernel
theorem dX6_findChallenge_32 : decode cX6_findChallenge 32 = .ok (.getfield 53, 3) := by decide +kernel
theorem dX6_findChallenge_35 : decode cX6_findChallenge 35 = .ok (.aload_n 0, 1) := by decide +kernel
theorem dX6_findChallenge_36 : decode cX6_findChallenge 36 = .ok (.getfield 9, 3) := by decide +kernel
theorem dX6_findChallenge_39 : decode cX6_findChallenge 39 = .ok (.invokevirtual 84, 3) := by decide +kernel
theorem dX6_findChallenge_42 : decode cX6_findChallenge 42 = .ok (.aload_n 0, 1) := by decide +kernel
theorem dX6_findChallenge_43 : decode cX6_findChallenge 43 = .ok (.getfield 9, 3) := by decide +kernel
theorem dX6_findChallenge_46 : decode cX6_findChallenge 46 = .ok (.sipush 512, 3) := by decide +kernel
theorem dX6_findChallenge_49 : decode cX6_findChallenge 49 = .ok (.aload_n 0, 1) := by decide +kernel
theorem dX6_findChallenge_50 : decode cX6_findChallenge 50 = .ok (.getfield 26, 3) := by decide +kernel
theorem dX6_findChallenge_53 : decode cX6_findChallenge 53 = .ok (.invokestatic 87, 3) := by decide +kernel
theorem dX6_findChallenge_56 : decode cX6_findChallenge 56 = .ok (.return_, 1) := by decide +kernel
theorem dX7_init_0 : decode cX7_init 0 = .ok (.aload_n 0, 1) := by decide +kernel
theorem dX7_init_1 : decode cX7_init 1 = .ok (.invokespecial 1, 3) := by decide +kernel
theorem dX7_init_4 : decode cX7_init 4 = .ok (.aload_n 0, 1) := by decide +kernel
theorem dX7_init_5 : decode cX7_init 5 = .ok (.sipush 400, 3) := by decide +kernel
theorem dX7_init_8 : decode cX7_init 8 = .ok (.newarray .byte, 2) := by decide +kernel
theorem dX7_init_10 : decode cX7_init 10 = .ok (.putfield 9, 3) := by decide +kernel
theorem dX7_init_13 : decode cX7_init 13 = .ok (.aload_n 0, 1) := by decide +kernel
theorem dX7_init_14 : decode cX7_init 14 = .ok (.iconst 0, 1) := by decide +kernel
theorem dX7_init_15 : decode cX7_init 15 = .ok (.putfield 13, 3) := by decide +kernel
theorem dX7_init_18 : decode cX7_init 18 = .ok (.return_, 1) := by decide +kernel
theorem dX7_append_0 : decode cX7_append 0 = .ok (.iconst 0, 1) := by decide +kernel
theorem dX7_append_1 : decode cX7_append 1 = .ok (.istore 4, 2) := by decide +kernel
theorem dX7_append_3 : decode cX7_append 3 = .ok (.iload 4, 2) := by decide +kernel
theorem dX7_append_5 : decode cX7_append 5 = .ok (.iload_n 3, 1) := by decide +kernel
theorem dX7_append_6 : decode cX7_append 6 = .ok (.if_icmp .ge 47, 3) := by decide +kernel
theorem dX7_append_9 : decode cX7_append 9 = .ok (.aload_n 0, 1) := by decide +kernel
theorem dX7_append_10 : decode cX7_append 10 = .ok (.getfield 13, 3) := by decide +kernel
theorem dX7_append_13 : decode cX7_append 13 = .ok (.sipush 400, 3) := by decide +kernel
theorem dX7_append_16 : decode cX7_append 16 = .ok (.if_icmp .ge 37, 3) := by decide +kernel
theorem dX7_append_19 : decode cX7_append 19 = .ok (.aload_n 0, 1) := by decide +kernel
theorem dX7_append_20 : decode cX7_append 20 = .ok (.getfield 9, 3) := by decide +kernel
theorem dX7_append_23 : decode cX7_append 23 = .ok (.aload_n 0, 1) := by decide +kernel
theorem dX7_append_24 : decode cX7_append 24 = .ok (.getfield 13, 3) := by decide +kernel
theorem dX7_append_27 : decode cX7_append 27 = .ok (.lload_n 1, 1) := by decide +kernel
theorem dX7_append_28 : decode cX7_append 28 = .ok (.bipush 8, 2) := by decide +kernel
theorem dX7_append_30 : decode cX7_append 30 = .ok (.iload 4, 2) := by decide +kernel
theorem dX7_append_32 : decode cX7_append 32 = .ok (.imul, 1) := by decide +kernel
theorem dX7_append_33 : decode cX7_append 33 = .ok (.lushr, 1) := by decide +kernel
theorem dX7_append_34 : decode cX7_append 34 = .ok (.l2i, 1) := by decide +kernel
theorem dX7_append_35 : decode cX7_append 35 = .ok (.i2b, 1) := by decide +kernel
theorem dX7_append_36 : decode cX7_append 36 = .ok (.bastore, 1) := by decide +kernel
theorem dX7_append_37 : decode cX7_append 37 = .ok (.aload_n 0, 1) := by decide +kernel
theorem dX7_append_38 : decode cX7_append 38 = .ok (.dup, 1) := by decide +kernel
theorem dX7_append_39 : decode cX7_append 39 = .ok (.getfield 13, 3) := by decide +kernel
theorem dX7_append_42 : decode cX7_append 42 = .ok (.iconst 1, 1) := by decide +kernel
theorem dX7_append_43 : decode cX7_append 43 = .ok (.iadd, 1) := by decide +kernel
theorem dX7_append_44 : decode cX7_append 44 = .ok (.putfield 13, 3) := by decide +kernel
theorem dX7_append_47 : decode cX7_append 47 = .ok (.iinc 4 1, 3) := by decide +kernel
theorem dX7_append_50 : decode cX7_append 50 = .ok (.goto (-47), 3) := by decide +kernel
theorem dX7_append_53 : decode cX7_append 53 = .ok (.return_, 1) := by decide +kernel
theorem dX7_byteAt_0 : decode cX7_byteAt 0 = .ok (.aload_n 0, 1) := by decide +kernel
theorem dX7_byteAt_1 : decode cX7_byteAt 1 = .ok (.getfield 9, 3) := by decide +kernel
theorem dX7_byteAt_4 : decode cX7_byteAt 4 = .ok (.iload_n 1, 1) := by decide +kernel
theorem dX7_byteAt_5 : decode cX7_byteAt 5 = .ok (.baload, 1) := by decide +kernel
theorem dX7_byteAt_6 : decode cX7_byteAt 6 = .ok (.sipush 255, 3) := by decide +kernel
theorem dX7_byteAt_9 : decode cX7_byteAt 9 = .ok (.iand, 1) := by decide +kernel
theorem dX7_byteAt_10 : decode cX7_byteAt 10 = .ok (.ireturn, 1) := by decide +kernel
theorem dX8_bit_0 : decode cX8_bit 0 = .ok (.aload_n 0, 1) := by decide +kernel
theorem dX8_bit_1 : decode cX8_bit 1 = .ok (.iload_n 1, 1) := by decide +kernel
theorem dX8_bit_2 : decode cX8_bit 2 = .ok (.bipush 6, 2) := by decide +kernel
theorem dX8_bit_4 : decode cX8_bit 4 = .ok (.ishr, 1) := by decide +kernel
theorem dX8_bit_5 : decode cX8_bit 5 = .ok (.laload, 1) := by decide +kernel
theorem dX8_bit_6 : decode cX8_bit 6 = .ok (.iload_n 1, 1) := by decide +kernel
theorem dX8_bit_7 : decode cX8_bit 7 = .ok (.bipush 63, 2) := by decide +kernel
theorem dX8_bit_9 : decode cX8_bit 9 = .ok (.iand, 1) := by decide +kernel
theorem dX8_bit_10 : decode cX8_bit 10 = .ok (.lushr, 1) := by decide +kernel
theorem dX8_bit_11 : decode cX8_bit 11 = .ok (.l2i, 1) := by decide +kernel
theorem dX8_bit_12 : decode cX8_bit 12 = .ok (.iconst 1, 1) := by decide +kernel
theorem dX8_bit_13 : decode cX8_bit 13 = .ok (.iand, 1) := by decide +kernel
theorem dX8_bit_14 : decode cX8_bit 14 = .ok (.ireturn, 1) := by decide +kernel
theorem dX8_nibble_0 : decode cX8_nibble 0 = .ok (.aload_n 0, 1) := by decide +kernel
theorem dX8_nibble_1 : decode cX8_nibble 1 = .ok (.iload_n 1, 1) := by decide +kernel
theorem dX8_nibble_2 : decode cX8_nibble 2 = .ok (.iconst 4, 1) := by decide +kernel
theorem dX8_nibble_3 : decode cX8_nibble 3 = .ok (.ishr, 1) := by decide +kernel
theorem dX8_nibble_4 : decode cX8_nibble 4 = .ok (.laload, 1) := by decide +kernel
theorem dX8_nibble_5 : decode cX8_nibble 5 = .ok (.iconst 4, 1) := by decide +kernel
theorem dX8_nibble_6 : decode cX8_nibble 6 = .ok (.iload_n 1, 1) := by decide +kernel
theorem dX8_nibble_7 : decode cX8_nibble 7 = .ok (.bipush 15, 2) := by decide +kernel
theorem dX8_nibble_9 : decode cX8_nibble 9 = .ok (.iand, 1) := by decide +kernel
theorem dX8_nibble_10 : decode cX8_nibble 10 = .ok (.imul, 1) := by decide +kernel
theorem dX8_nibble_11 : decode cX8_nibble 11 = .ok (.lushr, 1) := by decide +kernel
theorem dX8_nibble_12 : decode cX8_nibble 12 = .ok (.l2i, 1) := by decide +kernel
theorem dX8_nibble_13 : decode cX8_nibble 13 = .ok (.bipush 15, 2) := by decide +kernel
theorem dX8_nibble_15 : decode cX8_nibble 15 = .ok (.iand, 1) := by decide +kernel
theorem dX8_nibble_16 : decode cX8_nibble 16 = .ok (.ireturn, 1) := by decide +kernel
theorem dX8_move_0 : decode cX8_move 0 = .ok (.aload_n 0, 1) := by decide +kernel
theorem dX8_move_1 : decode cX8_move 1 = .ok (.iconst 0, 1) := by decide +kernel
theorem dX8_move_2 : decode cX8_move 2 = .ok (.aload_n 1, 1) := by decide +kernel
theorem dX8_move_3 : decode cX8_move 3 = .ok (.iconst 0, 1) := by decide +kernel
theorem dX8_move_4 : decode cX8_move 4 = .ok (.iconst 4, 1) := by decide +kernel
theorem dX8_move_5 : decode cX8_move 5 = .ok (.invokestatic 9, 3) := by decide +kernel
theorem dX8_move_8 : decode cX8_move 8 = .ok (.return_, 1) := by decide +kernel
theorem dX8_order_0 : decode cX8_order 0 = .ok (.iconst 3, 1) := by decide +kernel
theorem dX8_order_1 : decode cX8_order 1 = .ok (.istore_n 2, 1) := by decide +kernel
theorem dX8_order_2 : decode cX8_order 2 = .ok (.iload_n 2, 1) := by decide +kernel
theorem dX8_order_3 : decode cX8_order 3 = .ok (.ifCond .lt 43, 3) := by decide +kernel
theorem dX8_order_6 : decode cX8_order 6 = .ok (.aload_n 0, 1) := by decide +kernel
theorem dX8_order_7 : decode cX8_order 7 = .ok (.iload_n 2, 1) := by decide +kernel
theorem dX8_order_8 : decode cX8_order 8 = .ok (.laload, 1) := by decide +kernel
theorem dX8_order_9 : decode cX8_order 9 = .ok (.aload_n 1, 1) := by decide +kernel
theorem dX8_order_10 : decode cX8_order 10 = .ok (.iload_n 2, 1) := by decide +kernel
theorem dX8_order_11 : decode cX8_order 11 = .ok (.laload, 1) := by decide +kernel
theorem dX8_order_12 : decode cX8_order 12 = .ok (.lcmp, 1) := by decide +kernel
theorem dX8_order_13 : decode cX8_order 13 = .ok (.ifCond .eq 27, 3) := by decide +kernel
theorem dX8_order_16 : decode cX8_order 16 = .ok (.aload_n 0, 1) := by decide +kernel
theorem dX8_order_17 : decode cX8_order 17 = .ok (.iload_n 2, 1) := by decide +kernel
theorem dX8_order_18 : decode cX8_order 18 = .ok (.laload, 1) := by decide +kernel
theorem dX8_order_19 : decode cX8_order 19 = .ok (.ldc2_w 15, 3) := by decide +kernel
theorem dX8_order_22 : decode cX8_order 22 = .ok (.lxor, 1) := by decide +kernel
theorem dX8_order_23 : decode cX8_order 23 = .ok (.aload_n 1, 1) := by decide +kernel
theorem dX8_order_24 : decode cX8_order 24 = .ok (.iload_n 2, 1) := by decide +kernel
theorem dX8_order_25 : decode cX8_order 25 = .ok (.laload, 1) := by decide +kernel
theorem dX8_order_26 : decode cX8_order 26 = .ok (.ldc2_w 15, 3) := by decide +kernel
theorem dX8_order_29 : decode cX8_order 29 = .ok (.lxor, 1) := by decide +kernel
theorem dX8_order_30 : decode cX8_order 30 = .ok (.lcmp, 1) := by decide +kernel
theorem dX8_order_31 : decode cX8_order 31 = .ok (.ifCond .ge 7, 3) := by decide +kernel
theorem dX8_order_34 : decode cX8_order 34 = .ok (.iconst (-1), 1) := by decide +kernel
theorem dX8_order_35 : decode cX8_order 35 = .ok (.goto 4, 3) := by decide +kernel
theorem dX8_order_38 : decode cX8_order 38 = .ok (.iconst 1, 1) := by decide +kernel
theorem dX8_order_39 : decode cX8_order 39 = .ok (.ireturn, 1) := by decide +kernel
theorem dX8_order_40 : decode cX8_order 40 = .ok (.iinc 2 (-1), 3) := by decide +kernel
theorem dX8_order_43 : decode cX8_order 43 = .ok (.goto (-41), 3) := by decide +kernel
theorem dX8_order_46 : decode cX8_order 46 = .ok (.iconst 0, 1) := by decide +kernel
theorem dX8_order_47 : decode cX8_order 47 = .ok (.ireturn, 1) := by decide +kernel
theorem dX8_bitLength_0 : decode cX8_bitLength 0 = .ok (.sipush 255, 3) := by decide +kernel
theorem dX8_bitLength_3 : decode cX8_bitLength 3 = .ok (.istore_n 1, 1) := by decide +kernel
theorem dX8_bitLength_4 : decode cX8_bitLength 4 = .ok (.iload_n 1, 1) := by decide +kernel
theorem dX8_bitLength_5 : decode cX8_bitLength 5 = .ok (.ifCond .lt 22, 3) := by decide +kernel
theorem dX8_bitLength_8 : decode cX8_bitLength 8 = .ok (.aload_n 0, 1) := by decide +kernel
theorem dX8_bitLength_9 : decode cX8_bitLength 9 = .ok (.iload_n 1, 1) := by decide +kernel
theorem dX8_bitLength_10 : decode cX8_bitLength 10 = .ok (.invokestatic 17, 3) := by decide +kernel
theorem dX8_bitLength_13 : decode cX8_bitLength 13 = .ok (.iconst 1, 1) := by decide +kernel
theorem dX8_bitLength_14 : decode cX8_bitLength 14 = .ok (.if_icmp .ne 7, 3) := by decide +kernel
theorem dX8_bitLength_17 : decode cX8_bitLength 17 = .ok (.iload_n 1, 1) := by decide +kernel
theorem dX8_bitLength_18 : decode cX8_bitLength 18 = .ok (.iconst 1, 1) := by decide +kernel
theorem dX8_bitLength_19 : decode cX8_bitLength 19 = .ok (.iadd, 1) := by decide +kernel
theorem dX8_bitLength_20 : decode cX8_bitLength 20 = .ok (.ireturn, 1) := by decide +kernel
theorem dX8_bitLength_21 : decode cX8_bitLength 21 = .ok (.iinc 1 (-1), 3) := by decide +kernel
theorem dX8_bitLength_24 : decode cX8_bitLength 24 = .ok (.goto (-20), 3) := by decide +kernel
theorem dX8_bitLength_27 : decode cX8_bitLength 27 = .ok (.iconst 0, 1) := by decide +kernel
theorem dX8_bitLength_28 : decode cX8_bitLength 28 = .ok (.ireturn, 1) := by decide +kernel
theorem dX8_increase_0 : decode cX8_increase 0 = .ok (.lconst 0, 1) := by decide +kernel
theorem dX8_increase_1 : decode cX8_increase 1 = .ok (.lstore_n 2, 1) := by decide +kernel
theorem dX8_increase_2 : decode cX8_increase 2 = .ok (.iconst 0, 1) := by decide +kernel
theorem dX8_increase_3 : decode cX8_increase 3 = .ok (.istore 4, 2) := by decide +kernel
theorem dX8_increase_5 : decode cX8_increase 5 = .ok (.iload 4, 2) := by decide +kernel
theorem dX8_increase_7 : decode cX8_increase 7 = .ok (.iconst 4, 1) := by decide +kernel
theorem dX8_increase_8 : decode cX8_increase 8 = .ok (.if_icmp .ge 58, 3) := by decide +kernel
theorem dX8_increase_11 : decode cX8_increase 11 = .ok (.aload_n 0, 1) := by decide +kernel
theorem dX8_increase_12 : decode cX8_increase 12 = .ok (.iload 4, 2) := by decide +kernel
theorem dX8_increase_14 : decode cX8_increase 14 = .ok (.laload, 1) := by decide +kernel
theorem dX8_increase_15 : decode cX8_increase 15 = .ok (.lstore 5, 2) := by decide +kernel
theorem dX8_increase_17 : decode cX8_increase 17 = .ok (.aload_n 1, 1) := by decide +kernel
theorem dX8_increase_18 : decode cX8_increase 18 = .ok (.iload 4, 2) := by decide +kernel
theorem dX8_increase_20 : decode cX8_increase 20 = .ok (.laload, 1) := by decide +kernel
theorem dX8_increase_21 : decode cX8_increase 21 = .ok (.lstore 7, 2) := by decide +kernel
theorem dX8_increase_23 : decode cX8_increase 23 = .ok (.lload 5, 2) := by decide +kernel
theorem dX8_increase_25 : decode cX8_increase 25 = .ok (.lload 7, 2) := by decide +kernel
theorem dX8_increase_27 : decode cX8_increase 27 = .ok (.ladd, 1) := by decide +kernel
theorem dX8_increase_28 : decode cX8_increase 28 = .ok (.lload_n 2, 1) := by decide +kernel
theorem dX8_increase_29 : decode cX8_increase 29 = .ok (.ladd, 1) := by decide +kernel
theorem dX8_increase_30 : decode cX8_increase 30 = .ok (.lstore 9, 2) := by decide +kernel
theorem dX8_increase_32 : decode cX8_increase 32 = .ok (.lload 5, 2) := by decide +kernel
theorem dX8_increase_34 : decode cX8_increase 34 = .ok (.lload 7, 2) := by decide +kernel
theorem dX8_increase_36 : decode cX8_increase 36 = .ok (.land, 1) := by decide +kernel
theorem dX8_increase_37 : decode cX8_increase 37 = .ok (.lload 5, 2) := by decide +kernel
theorem dX8_increase_39 : decode cX8_increase 39 = .ok (.lload 7, 2) := by decide +kernel
theorem dX8_increase_41 : decode cX8_increase 41 = .ok (.lor, 1) := by decide +kernel
theorem dX8_increase_42 : decode cX8_increase 42 = .ok (.lload 9, 2) := by decide +kernel
theorem dX8_increase_44 : decode cX8_increase 44 = .ok (.ldc2_w 21, 3) := by decide +kernel
theorem dX8_increase_47 : decode cX8_increase 47 = .ok (.lxor, 1) := by decide +kernel
theorem dX8_increase_48 : decode cX8_increase 48 = .ok (.land, 1) := by decide +kernel
theorem dX8_increase_49 : decode cX8_increase 49 = .ok (.lor, 1) := by decide +kernel
theorem dX8_increase_50 : decode cX8_increase 50 = .ok (.bipush 63, 2) := by decide +kernel
theorem dX8_increase_52 : decode cX8_increase 52 = .ok (.lushr, 1) := by decide +kernel
theorem dX8_increase_53 : decode cX8_increase 53 = .ok (.lstore_n 2, 1) := by decide +kernel
theorem dX8_increase_54 : decode cX8_increase 54 = .ok (.aload_n 0, 1) := by decide +kernel
theorem dX8_increase_55 : decode cX8_increase 55 = .ok (.iload 4, 2) := by decide +kernel
theorem dX8_increase_57 : decode cX8_increase 57 = .ok (.lload 9, 2) := by decide +kernel
theorem dX8_increase_59 : decode cX8_increase 59 = .ok (.lastore, 1) := by decide +kernel
theorem dX8_increase_60 : decode cX8_increase 60 = .ok (.iinc 4 1, 3) := by decide +kernel
theorem dX8_increase_63 : decode cX8_increase 63 = .ok (.goto (-58), 3) := by decide +kernel
theorem dX8_increase_66 : decode cX8_increase 66 = .ok (.return_, 1) := by decide +kernel
theorem dX8_decrease_0 : decode cX8_decrease 0 = .ok (.lconst 0, 1) := by decide +kernel
theorem dX8_decrease_1 : decode cX8_decrease 1 = .ok (.lstore_n 2, 1) := by decide +kernel
theorem dX8_decrease_2 : decode cX8_decrease 2 = .ok (.iconst 0, 1) := by decide +kernel
theorem dX8_decrease_3 : decode cX8_decrease 3 = .ok (.istore 4, 2) := by decide +kernel
theorem dX8_decrease_5 : decode cX8_decrease 5 = .ok (.iload 4, 2) := by decide +kernel
theorem dX8_decrease_7 : decode cX8_decrease 7 = .ok (.iconst 4, 1) := by decide +kernel
theorem dX8_decrease_8 : decode cX8_decrease 8 = .ok (.if_icmp .ge 62, 3) := by decide +kernel
theorem dX8_decrease_11 : decode cX8_decrease 11 = .ok (.aload_n 0, 1) := by decide +kernel
theorem dX8_decrease_12 : decode cX8_decrease 12 = .ok (.iload 4, 2) := by decide +kernel
theorem dX8_decrease_14 : decode cX8_decrease 14 = .ok (.laload, 1) := by decide +kernel
theorem dX8_decrease_15 : decode cX8_decrease 15 = .ok (.lstore 5, 2) := by decide +kernel
theorem dX8_decrease_17 : decode cX8_decrease 17 = .ok (.aload_n 1, 1) := by decide +kernel
theorem dX8_decrease_18 : decode cX8_decrease 18 = .ok (.iload 4, 2) := by decide +kernel
theorem dX8_decrease_20 : decode cX8_decrease 20 = .ok (.laload, 1) := by decide +kernel
theorem dX8_decrease_21 : decode cX8_decrease 21 = .ok (.lstore 7, 2) := by decide +kernel
theorem dX8_decrease_23 : decode cX8_decrease 23 = .ok (.lload 5, 2) := by decide +kernel
theorem dX8_decrease_25 : decode cX8_decrease 25 = .ok (.lload 7, 2) := by decide +kernel
theorem dX8_decrease_27 : decode cX8_decrease 27 = .ok (.lsub, 1) := by decide +kernel
theorem dX8_decrease_28 : decode cX8_decrease 28 = .ok (.lload_n 2, 1) := by decide +kernel
theorem dX8_decrease_29 : decode cX8_decrease 29 = .ok (.lsub, 1) := by decide +kernel
theorem dX8_decrease_30 : decode cX8_decrease 30 = .ok (.lstore 9, 2) := by decide +kernel
theorem dX8_decrease_32 : decode cX8_decrease 32 = .ok (.lload 5, 2) := by decide +kernel
theorem dX8_decrease_34 : decode cX8_decrease 34 = .ok (.ldc2_w 21, 3) := by decide +kernel
theorem dX8_decrease_37 : decode cX8_decrease 37 = .ok (.lxor, 1) := by decide +kernel
theorem dX8_decrease_38 : decode cX8_decrease 38 = .ok (.lload 7, 2) := by decide +kernel
theorem dX8_decrease_40 : decode cX8_decrease 40 = .ok (.land, 1) := by decide +kernel
theorem dX8_decrease_41 : decode cX8_decrease 41 = .ok (.lload 5, 2) := by decide +kernel
theorem dX8_decrease_43 : decode cX8_decrease 43 = .ok (.ldc2_w 21, 3) := by decide +kernel
theorem dX8_decrease_46 : decode cX8_decrease 46 = .ok (.lxor, 1) := by decide +kernel
theorem dX8_decrease_47 : decode cX8_decrease 47 = .ok (.lload 7, 2) := by decide +kernel
theorem dX8_decrease_49 : decode cX8_decrease 49 = .ok (.lor, 1) := by decide +kernel
theorem dX8_decrease_50 : decode cX8_decrease 50 = .ok (.lload 9, 2) := by decide +kernel
theorem dX8_decrease_52 : decode cX8_decrease 52 = .ok (.land, 1) := by decide +kernel
theorem dX8_decrease_53 : decode cX8_decrease 53 = .ok (.lor, 1) := by decide +kernel
theorem dX8_decrease_54 : decode cX8_decrease 54 = .ok (.bipush 63, 2) := by decide +kernel
theorem dX8_decrease_56 : decode cX8_decrease 56 = .ok (.lushr, 1) := by decide +kernel
theorem dX8_decrease_57 : decode cX8_decrease 57 = .ok (.lstore_n 2, 1) := by decide +kernel
theorem dX8_decrease_58 : decode cX8_decrease 58 = .ok (.aload_n 0, 1) := by decide +kernel
theorem dX8_decrease_59 : decode cX8_decrease 59 = .ok (.iload 4, 2) := by decide +kernel
theorem dX8_decrease_61 : decode cX8_decrease 61 = .ok (.lload 9, 2) := by decide +kernel
theorem dX8_decrease_63 : decode cX8_decrease 63 = .ok (.lastore, 1) := by decide +kernel
theorem dX8_decrease_64 : decode cX8_decrease 64 = .ok (.iinc 4 1, 3) := by decide +kernel
theorem dX8_decrease_67 : decode cX8_decrease 67 = .ok (.goto (-62), 3) := by decide +kernel
theorem dX8_decrease_70 : decode cX8_decrease 70 = .ok (.return_, 1) := by decide +kernel
theorem dX8_clamp_0 : decode cX8_clamp 0 = .ok (.aload_n 0, 1) := by decide +kernel
theorem dX8_clamp_1 : decode cX8_clamp 1 = .ok (.iconst 0, 1) := by decide +kernel
theorem dX8_clamp_2 : decode cX8_clamp 2 = .ok (.dup2, 1) := by decide +kernel
theorem dX8_clamp_3 : decode cX8_clamp 3 = .ok (.laload, 1) := by decide +kernel
theorem dX8_clamp_4 : decode cX8_clamp 4 = .ok (.ldc2_w 23, 3) := by decide +kernel
theorem dX8_clamp_7 : decode cX8_clamp 7 = .ok (.land, 1) := by decide +kernel
theorem dX8_clamp_8 : decode cX8_clamp 8 = .ok (.lastore, 1) := by decide +kernel
theorem dX8_clamp_9 : decode cX8_clamp 9 = .ok (.aload_n 0, 1) := by decide +kernel
theorem dX8_clamp_10 : decode cX8_clamp 10 = .ok (.iconst 3, 1) := by decide +kernel
theorem dX8_clamp_11 : decode cX8_clamp 11 = .ok (.aload_n 0, 1) := by decide +kernel
theorem dX8_clamp_12 : decode cX8_clamp 12 = .ok (.iconst 3, 1) := by decide +kernel
theorem dX8_clamp_13 : decode cX8_clamp 13 = .ok (.laload, 1) := by decide +kernel
theorem dX8_clamp_14 : decode cX8_clamp 14 = .ok (.ldc2_w 25, 3) := by decide +kernel
theorem dX8_clamp_17 : decode cX8_clamp 17 = .ok (.land, 1) := by decide +kernel
theorem dX8_clamp_18 : decode cX8_clamp 18 = .ok (.ldc2_w 27, 3) := by decide +kernel
theorem dX8_clamp_21 : decode cX8_clamp 21 = .ok (.lor, 1) := by decide +kernel
theorem dX8_clamp_22 : decode cX8_clamp 22 = .ok (.lastore, 1) := by decide +kernel
theorem dX8_clamp_23 : decode cX8_clamp 23 = .ok (.return_, 1) := by decide +kernel
theorem dJ7_fill_d0a16_0 : decode cJ7_fill_d0a16 0 = .ok (.iconst 0, 1) := by decide +kernel
theorem dJ7_fill_d0a16_1 : decode cJ7_fill_d0a16 1 = .ok (.istore_n 3, 1) := by decide +kernel
theorem dJ7_fill_d0a16_2 : decode cJ7_fill_d0a16 2 = .ok (.aload_n 0, 1) := by decide +kernel
theorem dJ7_fill_d0a16_3 : decode cJ7_fill_d0a16 3 = .ok (.arraylength, 1) := by decide +kernel
theorem dJ7_fill_d0a16_4 : decode cJ7_fill_d0a16 4 = .ok (.istore 4, 2) := by decide +kernel
theorem dJ7_fill_d0a16_6 : decode cJ7_fill_d0a16 6 = .ok (.iload_n 3, 1) := by decide +kernel
theorem dJ7_fill_d0a16_7 : decode cJ7_fill_d0a16 7 = .ok (.iload 4, 2) := by decide +kernel
theorem dJ7_fill_d0a16_9 : decode cJ7_fill_d0a16 9 = .ok (.if_icmp .ge 13, 3) := by decide +kernel
theorem dJ7_fill_d0a16_12 : decode cJ7_fill_d0a16 12 = .ok (.aload_n 0, 1) := by decide +kernel
theorem dJ7_fill_d0a16_13 : decode cJ7_fill_d0a16 13 = .ok (.iload_n 3, 1) := by decide +kernel
theorem dJ7_fill_d0a16_14 : decode cJ7_fill_d0a16 14 = .ok (.lload_n 1, 1) := by decide +kernel
theorem dJ7_fill_d0a16_15 : decode cJ7_fill_d0a16 15 = .ok (.lastore, 1) := by decide +kernel
theorem dJ7_fill_d0a16_16 : decode cJ7_fill_d0a16 16 = .ok (.iinc 3 1, 3) := by decide +kernel
theorem dJ7_fill_d0a16_19 : decode cJ7_fill_d0a16 19 = .ok (.goto (-13), 3) := by decide +kernel
theorem dJ7_fill_d0a16_22 : decode cJ7_fill_d0a16 22 = .ok (.return_, 1) := by decide +kernel
