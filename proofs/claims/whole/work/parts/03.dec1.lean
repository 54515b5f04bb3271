theorem dX0_init_0 : decode cX0_init 0 = .ok (.aload_n 0, 1) := by decide +kernel
theorem dX0_init_1 : decode cX0_init 1 = .ok (.invokespecial 3, 3) := by decide +kernel
theorem dX0_init_4 : decode cX0_init 4 = .ok (.aload_n 0, 1) := by decide +kernel
theorem dX0_init_5 : decode cX0_init 5 = .ok (.bipush 20, 2) := by decide +kernel
theorem dX0_init_7 : decode cX0_init 7 = .ok (.newarray .int, 2) := by decide +kernel
theorem dX0_init_9 : decode cX0_init 9 = .ok (.putfield 9, 3) := by decide +kernel
theorem dX0_init_12 : decode cX0_init 12 = .ok (.aload_n 0, 1) := by decide +kernel
theorem dX0_init_13 : decode cX0_init 13 = .ok (.bipush 20, 2) := by decide +kernel
theorem dX0_init_15 : decode cX0_init 15 = .ok (.newarray .int, 2) := by decide +kernel
theorem dX0_init_17 : decode cX0_init 17 = .ok (.putfield 15, 3) := by decide +kernel
theorem dX0_init_20 : decode cX0_init 20 = .ok (.aload_n 0, 1) := by decide +kernel
theorem dX0_init_21 : decode cX0_init 21 = .ok (.bipush 20, 2) := by decide +kernel
theorem dX0_init_23 : decode cX0_init 23 = .ok (.newarray .int, 2) := by decide +kernel
theorem dX0_init_25 : decode cX0_init 25 = .ok (.putfield 18, 3) := by decide +kernel
theorem dX0_init_28 : decode cX0_init 28 = .ok (.return_, 1) := by decide +kernel
theorem dX0_add_0 : decode cX0_add 0 = .ok (.aload_n 0, 1) := by decide +kernel
theorem dX0_add_1 : decode cX0_add 1 = .ok (.getfield 21, 3) := by decide +kernel
theorem dX0_add_4 : decode cX0_add 4 = .ok (.bipush 20, 2) := by decide +kernel
theorem dX0_add_6 : decode cX0_add 6 = .ok (.if_icmp .lt 4, 3) := by decide +kernel
theorem dX0_add_9 : decode cX0_add 9 = .ok (.return_, 1) := by decide +kernel
theorem dX0_add_10 : decode cX0_add 10 = .ok (.aload_n 0, 1) := by decide +kernel
theorem dX0_add_11 : decode cX0_add 11 = .ok (.getfield 21, 3) := by decide +kernel
theorem dX0_add_14 : decode cX0_add 14 = .ok (.istore 4, 2) := by decide +kernel
theorem dX0_add_16 : decode cX0_add 16 = .ok (.iload 4, 2) := by decide +kernel
theorem dX0_add_18 : decode cX0_add 18 = .ok (.ifCond .le 32, 3) := by decide +kernel
theorem dX0_add_21 : decode cX0_add 21 = .ok (.aload_n 0, 1) := by decide +kernel
theorem dX0_add_22 : decode cX0_add 22 = .ok (.getfield 9, 3) := by decide +kernel
theorem dX0_add_25 : decode cX0_add 25 = .ok (.iload 4, 2) := by decide +kernel
theorem dX0_add_27 : decode cX0_add 27 = .ok (.iconst 1, 1) := by decide +kernel
theorem dX0_add_28 : decode cX0_add 28 = .ok (.isub, 1) := by decide +kernel
theorem dX0_add_29 : decode cX0_add 29 = .ok (.iaload, 1) := by decide +kernel
theorem dX0_add_30 : decode cX0_add 30 = .ok (.iload_n 1, 1) := by decide +kernel
theorem dX0_add_31 : decode cX0_add 31 = .ok (.if_icmp .le 19, 3) := by decide +kernel
theorem dX0_add_34 : decode cX0_add 34 = .ok (.aload_n 0, 1) := by decide +kernel
theorem dX0_add_35 : decode cX0_add 35 = .ok (.iload 4, 2) := by decide +kernel
theorem dX0_add_37 : decode cX0_add 37 = .ok (.iconst 1, 1) := by decide +kernel
theorem dX0_add_38 : decode cX0_add 38 = .ok (.isub, 1) := by decide +kernel
theorem dX0_add_39 : decode cX0_add 39 = .ok (.iload 4, 2) := by decide +kernel
theorem dX0_add_41 : decode cX0_add 41 = .ok (.invokevirtual 25, 3) := by decide +kernel
theorem dX0_add_44 : decode cX0_add 44 = .ok (.iinc 4 (-1), 3) := by decide +kernel
theorem dX0_add_47 : decode cX0_add 47 = .ok (.goto (-31), 3) := by decide +kernel
theorem dX0_add_50 : decode cX0_add 50 = .ok (.aload_n 0, 1) := by decide +kernel
theorem dX0_add_51 : decode cX0_add 51 = .ok (.getfield 9, 3) := by decide +kernel
theorem dX0_add_54 : decode cX0_add 54 = .ok (.iload 4, 2) := by decide +kernel
theorem dX0_add_56 : decode cX0_add 56 = .ok (.iload_n 1, 1) := by decide +kernel
theorem dX0_add_57 : decode cX0_add 57 = .ok (.iastore, 1) := by decide +kernel
theorem dX0_add_58 : decode cX0_add 58 = .ok (.aload_n 0, 1) := by decide +kernel
theorem dX0_add_59 : decode cX0_add 59 = .ok (.getfield 15, 3) := by decide +kernel
theorem dX0_add_62 : decode cX0_add 62 = .ok (.iload 4, 2) := by decide +kernel
theorem dX0_add_64 : decode cX0_add 64 = .ok (.iload_n 2, 1) := by decide +kernel
theorem dX0_add_65 : decode cX0_add 65 = .ok (.iastore, 1) := by decide +kernel
theorem dX0_add_66 : decode cX0_add 66 = .ok (.aload_n 0, 1) := by decide +kernel
theorem dX0_add_67 : decode cX0_add 67 = .ok (.getfield 18, 3) := by decide +kernel
theorem dX0_add_70 : decode cX0_add 70 = .ok (.iload 4, 2) := by decide +kernel
theorem dX0_add_72 : decode cX0_add 72 = .ok (.iload_n 3, 1) := by decide +kernel
theorem dX0_add_73 : decode cX0_add 73 = .ok (.iastore, 1) := by decide +kernel
theorem dX0_add_74 : decode cX0_add 74 = .ok (.aload_n 0, 1) := by decide +kernel
theorem dX0_add_75 : decode cX0_add 75 = .ok (.dup, 1) := by decide +kernel
theorem dX0_add_76 : decode cX0_add 76 = .ok (.getfield 21, 3) := by decide +kernel
theorem dX0_add_79 : decode cX0_add 79 = .ok (.iconst 1, 1) := by decide +kernel
theorem dX0_add_80 : decode cX0_add 80 = .ok (.iadd, 1) := by decide +kernel
theorem dX0_add_81 : decode cX0_add 81 = .ok (.putfield 21, 3) := by decide +kernel
theorem dX0_add_84 : decode cX0_add 84 = .ok (.return_, 1) := by decide +kernel
theorem dX0_dropBefore_0 : decode cX0_dropBefore 0 = .ok (.iconst 0, 1) := by decide +kernel
theorem dX0_dropBefore_1 : decode cX0_dropBefore 1 = .ok (.istore_n 2, 1) := by decide +kernel
theorem dX0_dropBefore_2 : decode cX0_dropBefore 2 = .ok (.iload_n 2, 1) := by decide +kernel
theorem dX0_dropBefore_3 : decode cX0_dropBefore 3 = .ok (.aload_n 0, 1) := by decide +kernel
theorem dX0_dropBefore_4 : decode cX0_dropBefore 4 = .ok (.getfield 21, 3) := by decide +kernel
theorem dX0_dropBefore_7 : decode cX0_dropBefore 7 = .ok (.if_icmp .ge 19, 3) := by decide +kernel
theorem dX0_dropBefore_10 : decode cX0_dropBefore 10 = .ok (.aload_n 0, 1) := by decide +kernel
theorem dX0_dropBefore_11 : decode cX0_dropBefore 11 = .ok (.getfield 9, 3) := by decide +kernel
theorem dX0_dropBefore_14 : decode cX0_dropBefore 14 = .ok (.iload_n 2, 1) := by decide +kernel
theorem dX0_dropBefore_15 : decode cX0_dropBefore 15 = .ok (.iaload, 1) := by decide +kernel
theorem dX0_dropBefore_16 : decode cX0_dropBefore 16 = .ok (.iload_n 1, 1) := by decide +kernel
theorem dX0_dropBefore_17 : decode cX0_dropBefore 17 = .ok (.if_icmp .ge 9, 3) := by decide +kernel
theorem dX0_dropBefore_20 : decode cX0_dropBefore 20 = .ok (.iinc 2 1, 3) := by decide +kernel
theorem dX0_dropBefore_23 : decode cX0_dropBefore 23 = .ok (.goto (-21), 3) := by decide +kernel
theorem dX0_dropBefore_26 : decode cX0_dropBefore 26 = .ok (.iload_n 2, 1) := by decide +kernel
theorem dX0_dropBefore_27 : decode cX0_dropBefore 27 = .ok (.istore_n 3, 1) := by decide +kernel
theorem dX0_dropBefore_28 : decode cX0_dropBefore 28 = .ok (.iload_n 3, 1) := by decide +kernel
theorem dX0_dropBefore_29 : decode cX0_dropBefore 29 = .ok (.aload_n 0, 1) := by decide +kernel
theorem dX0_dropBefore_30 : decode cX0_dropBefore 30 = .ok (.getfield 21, 3) := by decide +kernel
theorem dX0_dropBefore_33 : decode cX0_dropBefore 33 = .ok (.if_icmp .ge 17, 3) := by decide +kernel
theorem dX0_dropBefore_36 : decode cX0_dropBefore 36 = .ok (.aload_n 0, 1) := by decide +kernel
theorem dX0_dropBefore_37 : decode cX0_dropBefore 37 = .ok (.iload_n 3, 1) := by decide +kernel
theorem dX0_dropBefore_38 : decode cX0_dropBefore 38 = .ok (.iload_n 3, 1) := by decide +kernel
theorem dX0_dropBefore_39 : decode cX0_dropBefore 39 = .ok (.iload_n 2, 1) := by decide +kernel
theorem dX0_dropBefore_40 : decode cX0_dropBefore 40 = .ok (.isub, 1) := by decide +kernel
theorem dX0_dropBefore_41 : decode cX0_dropBefore 41 = .ok (.invokevirtual 25, 3) := by decide +kernel
theorem dX0_dropBefore_44 : decode cX0_dropBefore 44 = .ok (.iinc 3 1, 3) := by decide +kernel
theorem dX0_dropBefore_47 : decode cX0_dropBefore 47 = .ok (.goto (-19), 3) := by decide +kernel
theorem dX0_dropBefore_50 : decode cX0_dropBefore 50 = .ok (.aload_n 0, 1) := by decide +kernel
theorem dX0_dropBefore_51 : decode cX0_dropBefore 51 = .ok (.dup, 1) := by decide +kernel
theorem dX0_dropBefore_52 : decode cX0_dropBefore 52 = .ok (.getfield 21, 3) := by decide +kernel
theorem dX0_dropBefore_55 : decode cX0_dropBefore 55 = .ok (.iload_n 2, 1) := by decide +kernel
theorem dX0_dropBefore_56 : decode cX0_dropBefore 56 = .ok (.isub, 1) := by decide +kernel
theorem dX0_dropBefore_57 : decode cX0_dropBefore 57 = .ok (.putfield 21, 3) := by decide +kernel
theorem dX0_dropBefore_60 : decode cX0_dropBefore 60 = .ok (.return_, 1) := by decide +kernel
theorem dX0_move_0 : decode cX0_move 0 = .ok (.aload_n 0, 1) := by decide +kernel
theorem dX0_move_1 : decode cX0_move 1 = .ok (.getfield 9, 3) := by decide +kernel
theorem dX0_move_4 : decode cX0_move 4 = .ok (.iload_n 2, 1) := by decide +kernel
theorem dX0_move_5 : decode cX0_move 5 = .ok (.aload_n 0, 1) := by decide +kernel
theorem dX0_move_6 : decode cX0_move 6 = .ok (.getfield 9, 3) := by decide +kernel
theorem dX0_move_9 : decode cX0_move 9 = .ok (.iload_n 1, 1) := by decide +kernel
theorem dX0_move_10 : decode cX0_move 10 = .ok (.iaload, 1) := by decide +kernel
theorem dX0_move_11 : decode cX0_move 11 = .ok (.iastore, 1) := by decide +kernel
theorem dX0_move_12 : decode cX0_move 12 = .ok (.aload_n 0, 1) := by decide +kernel
theorem dX0_move_13 : decode cX0_move 13 = .ok (.getfield 15, 3) := by decide +kernel
theorem dX0_move_16 : decode cX0_move 16 = .ok (.iload_n 2, 1) := by decide +kernel
theorem dX0_move_17 : decode cX0_move 17 = .ok (.aload_n 0, 1) := by decide +kernel
theorem dX0_move_18 : decode cX0_move 18 = .ok (.getfield 15, 3) := by decide +kernel
theorem dX0_move_21 : decode cX0_move 21 = .ok (.iload_n 1, 1) := by decide +kernel
theorem dX0_move_22 : decode cX0_move 22 = .ok (.iaload, 1) := by decide +kernel
theorem dX0_move_23 : decode cX0_move 23 = .ok (.iastore, 1) := by decide +kernel
theorem dX0_move_24 : decode cX0_move 24 = .ok (.aload_n 0, 1) := by decide +kernel
theorem dX0_move_25 : decode cX0_move 25 = .ok (.getfield 18, 3) := by decide +kernel
theorem dX0_move_28 : decode cX0_move 28 = .ok (.iload_n 2, 1) := by decide +kernel
theorem dX0_move_29 : decode cX0_move 29 = .ok (.aload_n 0, 1) := by decide +kernel
theorem dX0_move_30 : decode cX0_move 30 = .ok (.getfield 18, 3) := by decide +kernel
theorem dX0_move_33 : decode cX0_move 33 = .ok (.iload_n 1, 1) := by decide +kernel
theorem dX0_move_34 : decode cX0_move 34 = .ok (.iaload, 1) := by decide +kernel
theorem dX0_move_35 : decode cX0_move 35 = .ok (.iastore, 1) := by decide +kernel
theorem dX0_move_36 : decode cX0_move 36 = .ok (.return_, 1) := by decide +kernel
theorem dX1_init_0 : decode cX1_init 0 = .ok (.aload_n 0, 1) := by decide +kernel
theorem dX1_init_1 : decode cX1_init 1 = .ok (.invokespecial 3, 3) := by decide +kernel
theorem dX1_init_4 : decode cX1_init 4 = .ok (.return_, 1) := by decide +kernel
theorem dX1_purchase_0 : decode cX1_purchase 0 = .ok (.aload_n 0, 1) := by decide +kernel
theorem dX1_purchase_1 : decode cX1_purchase 1 = .ok (.iload_n 2, 1) := by decide +kernel
theorem dX1_purchase_2 : decode cX1_purchase 2 = .ok (.iload 4, 2) := by decide +kernel
theorem dX1_purchase_4 : decode cX1_purchase 4 = .ok (.invokevirtual 9, 3) := by decide +kernel
theorem dX1_purchase_7 : decode cX1_purchase 7 = .ok (.iconst 0, 1) := by decide +kernel
theorem dX1_purchase_8 : decode cX1_purchase 8 = .ok (.istore 6, 2) := by decide +kernel
theorem dX1_purchase_10 : decode cX1_purchase 10 = .ok (.iload 6, 2) := by decide +kernel
theorem dX1_purchase_12 : decode cX1_purchase 12 = .ok (.iload 5, 2) := by decide +kernel
theorem dX1_purchase_14 : decode cX1_purchase 14 = .ok (.if_icmp .ge 70, 3) := by decide +kernel
theorem dX1_purchase_17 : decode cX1_purchase 17 = .ok (.aload_n 0, 1) := by decide +kernel
theorem dX1_purchase_18 : decode cX1_purchase 18 = .ok (.getfield 15, 3) := by decide +kernel
theorem dX1_purchase_21 : decode cX1_purchase 21 = .ok (.ifCond .le 63, 3) := by decide +kernel
theorem dX1_purchase_24 : decode cX1_purchase 24 = .ok (.aload_n 1, 1) := by decide +kernel
theorem dX1_purchase_25 : decode cX1_purchase 25 = .ok (.aload_n 0, 1) := by decide +kernel
theorem dX1_purchase_26 : decode cX1_purchase 26 = .ok (.getfield 15, 3) := by decide +kernel
theorem dX1_purchase_29 : decode cX1_purchase 29 = .ok (.invokevirtual 19, 3) := by decide +kernel
theorem dX1_purchase_32 : decode cX1_purchase 32 = .ok (.istore 7, 2) := by decide +kernel
theorem dX1_purchase_34 : decode cX1_purchase 34 = .ok (.iload 7, 2) := by decide +kernel
theorem dX1_purchase_36 : decode cX1_purchase 36 = .ok (.iload_n 3, 1) := by decide +kernel
theorem dX1_purchase_37 : decode cX1_purchase 37 = .ok (.iadd, 1) := by decide +kernel
theorem dX1_purchase_38 : decode cX1_purchase 38 = .ok (.aload_n 0, 1) := by decide +kernel
theorem dX1_purchase_39 : decode cX1_purchase 39 = .ok (.getfield 25, 3) := by decide +kernel
theorem dX1_purchase_42 : decode cX1_purchase 42 = .ok (.if_icmp .le 6, 3) := by decide +kernel
theorem dX1_purchase_45 : decode cX1_purchase 45 = .ok (.goto 39, 3) := by decide +kernel
theorem dX1_purchase_48 : decode cX1_purchase 48 = .ok (.aload_n 0, 1) := by decide +kernel
theorem dX1_purchase_49 : decode cX1_purchase 49 = .ok (.dup, 1) := by decide +kernel
theorem dX1_purchase_50 : decode cX1_purchase 50 = .ok (.getfield 25, 3) := by decide +kernel
theorem dX1_purchase_53 : decode cX1_purchase 53 = .ok (.iload 7, 2) := by decide +kernel
theorem dX1_purchase_55 : decode cX1_purchase 55 = .ok (.iload_n 3, 1) := by decide +kernel
theorem dX1_purchase_56 : decode cX1_purchase 56 = .ok (.iadd, 1) := by decide +kernel
theorem dX1_purchase_57 : decode cX1_purchase 57 = .ok (.isub, 1) := by decide +kernel
theorem dX1_purchase_58 : decode cX1_purchase 58 = .ok (.putfield 25, 3) := by decide +kernel
theorem dX1_purchase_61 : decode cX1_purchase 61 = .ok (.aload_n 0, 1) := by decide +kernel
theorem dX1_purchase_62 : decode cX1_purchase 62 = .ok (.dup, 1) := by decide +kernel
theorem dX1_purchase_63 : decode cX1_purchase 63 = .ok (.getfield 15, 3) := by decide +kernel
theorem dX1_purchase_66 : decode cX1_purchase 66 = .ok (.iconst 1, 1) := by decide +kernel
theorem dX1_purchase_67 : decode cX1_purchase 67 = .ok (.isub, 1) := by decide +kernel
theorem dX1_purchase_68 : decode cX1_purchase 68 = .ok (.putfield 15, 3) := by decide +kernel
theorem dX1_purchase_71 : decode cX1_purchase 71 = .ok (.aload_n 0, 1) := by decide +kernel
theorem dX1_purchase_72 : decode cX1_purchase 72 = .ok (.iload 7, 2) := by decide +kernel
theorem dX1_purchase_74 : decode cX1_purchase 74 = .ok (.iload_n 3, 1) := by decide +kernel
theorem dX1_purchase_75 : decode cX1_purchase 75 = .ok (.invokevirtual 28, 3) := by decide +kernel
theorem dX1_purchase_78 : decode cX1_purchase 78 = .ok (.iinc 6 1, 3) := by decide +kernel
theorem dX1_purchase_81 : decode cX1_purchase 81 = .ok (.goto (-71), 3) := by decide +kernel
theorem dX1_purchase_84 : decode cX1_purchase 84 = .ok (.return_, 1) := by decide +kernel
theorem dX1_sale_0 : decode cX1_sale 0 = .ok (.aload_n 0, 1) := by decide +kernel
theorem dX1_sale_1 : decode cX1_sale 1 = .ok (.iload_n 2, 1) := by decide +kernel
theorem dX1_sale_2 : decode cX1_sale 2 = .ok (.iload 4, 2) := by decide +kernel
theorem dX1_sale_4 : decode cX1_sale 4 = .ok (.invokevirtual 9, 3) := by decide +kernel
theorem dX1_sale_7 : decode cX1_sale 7 = .ok (.iconst 0, 1) := by decide +kernel
theorem dX1_sale_8 : decode cX1_sale 8 = .ok (.istore 6, 2) := by decide +kernel
theorem dX1_sale_10 : decode cX1_sale 10 = .ok (.iload 6, 2) := by decide +kernel
theorem dX1_sale_12 : decode cX1_sale 12 = .ok (.iload 5, 2) := by decide +kernel
theorem dX1_sale_14 : decode cX1_sale 14 = .ok (.if_icmp .ge 89, 3) := by decide +kernel
theorem dX1_sale_17 : decode cX1_sale 17 = .ok (.aload_n 0, 1) := by decide +kernel
theorem dX1_sale_18 : decode cX1_sale 18 = .ok (.getfield 15, 3) := by decide +kernel
theorem dX1_sale_21 : decode cX1_sale 21 = .ok (.sipush 1000, 3) := by decide +kernel
theorem dX1_sale_24 : decode cX1_sale 24 = .ok (.if_icmp .ge 79, 3) := by decide +kernel
theorem dX1_sale_27 : decode cX1_sale 27 = .ok (.aload_n 1, 1) := by decide +kernel
theorem dX1_sale_28 : decode cX1_sale 28 = .ok (.aload_n 0, 1) := by decide +kernel
theorem dX1_sale_29 : decode cX1_sale 29 = .ok (.getfield 15, 3) := by decide +kernel
theorem dX1_sale_32 : decode cX1_sale 32 = .ok (.iconst 1, 1) := by decide +kernel
theorem dX1_sale_33 : decode cX1_sale 33 = .ok (.iadd, 1) := by decide +kernel
theorem dX1_sale_34 : decode cX1_sale 34 = .ok (.invokevirtual 19, 3) := by decide +kernel
theorem dX1_sale_37 : decode cX1_sale 37 = .ok (.istore 7, 2) := by decide +kernel
theorem dX1_sale_39 : decode cX1_sale 39 = .ok (.iload_n 3, 1) := by decide +kernel
theorem dX1_sale_40 : decode cX1_sale 40 = .ok (.iload 7, 2) := by decide +kernel
theorem dX1_sale_42 : decode cX1_sale 42 = .ok (.invokestatic 31, 3) := by decide +kernel
theorem dX1_sale_45 : decode cX1_sale 45 = .ok (.istore 8, 2) := by decide +kernel
theorem dX1_sale_47 : decode cX1_sale 47 = .ok (.aload_n 0, 1) := by decide +kernel
theorem dX1_sale_48 : decode cX1_sale 48 = .ok (.getfield 25, 3) := by decide +kernel
theorem dX1_sale_51 : decode cX1_sale 51 = .ok (.iload 7, 2) := by decide +kernel
theorem dX1_sale_53 : decode cX1_sale 53 = .ok (.iadd, 1) := by decide +kernel
theorem dX1_sale_54 : decode cX1_sale 54 = .ok (.iload 8, 2) := by decide +kernel
theorem dX1_sale_56 : decode cX1_sale 56 = .ok (.isub, 1) := by decide +kernel
theorem dX1_sale_57 : decode cX1_sale 57 = .ok (.ldc 37, 2) := by decide +kernel
theorem dX1_sale_59 : decode cX1_sale 59 = .ok (.if_icmp .le 6, 3) := by decide +kernel
theorem dX1_sale_62 : decode cX1_sale 62 = .ok (.goto 41, 3) := by decide +kernel
theorem dX1_sale_65 : decode cX1_sale 65 = .ok (.aload_n 0, 1) := by decide +kernel
theorem dX1_sale_66 : decode cX1_sale 66 = .ok (.dup, 1) := by decide +kernel
theorem dX1_sale_67 : decode cX1_sale 67 = .ok (.getfield 25, 3) := by decide +kernel
theorem dX1_sale_70 : decode cX1_sale 70 = .ok (.iload 7, 2) := by decide +kernel
theorem dX1_sale_72 : decode cX1_sale 72 = .ok (.iload 8, 2) := by decide +kernel
theorem dX1_sale_74 : decode cX1_sale 74 = .ok (.isub, 1) := by decide +kernel
theorem dX1_sale_75 : decode cX1_sale 75 = .ok (.iadd, 1) := by decide +kernel
theorem dX1_sale_76 : decode cX1_sale 76 = .ok (.putfield 25, 3) := by decide +kernel
theorem dX1_sale_79 : decode cX1_sale 79 = .ok (.aload_n 0, 1) := by decide +kernel
theorem dX1_sale_80 : decode cX1_sale 80 = .ok (.dup, 1) := by decide +kernel
theorem dX1_sale_81 : decode cX1_sale 81 = .ok (.getfield 15, 3) := by decide +kernel
theorem dX1_sale_84 : decode cX1_sale 84 = .ok (.iconst 1, 1) := by decide +kernel
theorem dX1_sale_85 : decode cX1_sale 85 = .ok (.iadd, 1) := by decide +kernel
theorem dX1_sale_86 : decode cX1_sale 86 = .ok (.putfield 15, 3) := by decide +kernel
theorem dX1_sale_89 : decode cX1_sale 89 = .ok (.aload_n 0, 1) := by decide +kernel
theorem dX1_sale_90 : decode cX1_sale 90 = .ok (.iload 7, 2) := by decide +kernel
theorem dX1_sale_92 : decode cX1_sale 92 = .ok (.iload 8, 2) := by decide +kernel
theorem dX1_sale_94 : decode cX1_sale 94 = .ok (.invokevirtual 28, 3) := by decide +kernel
theorem dX1_sale_97 : decode cX1_sale 97 = .ok (.iinc 6 1, 3) := by decide +kernel
theorem dX1_sale_100 : decode cX1_sale 100 = .ok (.goto (-90), 3) := by decide +kernel
theorem dX1_sale_103 : decode cX1_sale 103 = .ok (.return_, 1) := by decide +kernel
theorem dX1_begin_0 : decode cX1_begin 0 = .ok (.aload_n 0, 1) := by decide +kernel
theorem dX1_begin_1 : decode cX1_begin 1 = .ok (.iconst 0, 1) := by decide +kernel
theorem dX1_begin_2 : decode cX1_begin 2 = .ok (.putfield 38, 3) := by decide +kernel
theorem dX1_begin_5 : decode cX1_begin 5 = .ok (.aload_n 0, 1) := by decide +kernel
theorem dX1_begin_6 : decode cX1_begin 6 = .ok (.iload_n 1, 1) := by decide +kernel
theorem dX1_begin_7 : decode cX1_begin 7 = .ok (.putfield 15, 3) := by decide +kernel
theorem dX1_begin_10 : decode cX1_begin 10 = .ok (.aload_n 0, 1) := by decide +kernel
theorem dX1_begin_11 : decode cX1_begin 11 = .ok (.iload_n 2, 1) := by decide +kernel
theorem dX1_begin_12 : decode cX1_begin 12 = .ok (.putfield 25, 3) := by decide +kernel
theorem dX1_begin_15 : decode cX1_begin 15 = .ok (.aload_n 0, 1) := by decide +kernel
theorem dX1_begin_16 : decode cX1_begin 16 = .ok (.iconst 0, 1) := by decide +kernel
theorem dX1_begin_17 : decode cX1_begin 17 = .ok (.putfield 41, 3) := by decide +kernel
theorem dX1_begin_20 : decode cX1_begin 20 = .ok (.aload_n 0, 1) := by decide +kernel
theorem dX1_begin_21 : decode cX1_begin 21 = .ok (.iconst 0, 1) := by decide +kernel
theorem dX1_begin_22 : decode cX1_begin 22 = .ok (.putfield 44, 3) := by decide +kernel
theorem dX1_begin_25 : decode cX1_begin 25 = .ok (.return_, 1) := by decide +kernel
theorem dX1_count_0 : decode cX1_count 0 = .ok (.aload_n 0, 1) := by decide +kernel
theorem dX1_count_1 : decode cX1_count 1 = .ok (.dup, 1) := by decide +kernel
theorem dX1_count_2 : decode cX1_count 2 = .ok (.getfield 38, 3) := by decide +kernel
theorem dX1_count_5 : decode cX1_count 5 = .ok (.iconst 1, 1) := by decide +kernel
theorem dX1_count_6 : decode cX1_count 6 = .ok (.iadd, 1) := by decide +kernel
theorem dX1_count_7 : decode cX1_count 7 = .ok (.putfield 38, 3) := by decide +kernel
theorem dX1_count_10 : decode cX1_count 10 = .ok (.aload_n 0, 1) := by decide +kernel
theorem dX1_count_11 : decode cX1_count 11 = .ok (.dup, 1) := by decide +kernel
theorem dX1_count_12 : decode cX1_count 12 = .ok (.getfield 41, 3) := by decide +kernel
theorem dX1_count_15 : decode cX1_count 15 = .ok (.iload_n 1, 1) := by decide +kernel
theorem dX1_count_16 : decode cX1_count 16 = .ok (.iadd, 1) := by decide +kernel
theorem dX1_count_17 : decode cX1_count 17 = .ok (.putfield 41, 3) := by decide +kernel
theorem dX1_count_20 : decode cX1_count 20 = .ok (.aload_n 0, 1) := by decide +kernel
theorem dX1_count_21 : decode cX1_count 21 = .ok (.dup, 1) := by decide +kernel
theorem dX1_count_22 : decode cX1_count 22 = .ok (.getfield 44, 3) := by decide +kernel
theorem dX1_count_25 : decode cX1_count 25 = .ok (.iload_n 2, 1) := by decide +kernel
theorem dX1_count_26 : decode cX1_count 26 = .ok (.iadd, 1) := by decide +kernel
theorem dX1_count_27 : decode cX1_count 27 = .ok (.putfield 44, 3) := by decide +kernel
theorem dX1_count_30 : decode cX1_count 30 = .ok (.return_, 1) := by decide +kernel
theorem dX2_init_0 : decode cX2_init 0 = .ok (.aload_n 0, 1) := by decide +kernel
theorem dX2_init_1 : decode cX2_init 1 = .ok (.invokespecial 3, 3) := by decide +kernel
theorem dX2_init_4 : decode cX2_init 4 = .ok (.return_, 1) := by decide +kernel
theorem dX2_follow_0 : decode cX2_follow 0 = .ok (.aload_n 0, 1) := by decide +kernel
theorem dX2_follow_1 : decode cX2_follow 1 = .ok (.iload_n 3, 1) := by decide +kernel
theorem dX2_follow_2 : decode cX2_follow 2 = .ok (.putfield 9, 3) := by decide +kernel
theorem dX2_follow_5 : decode cX2_follow 5 = .ok (.aload_n 0, 1) := by decide +kernel
theorem dX2_follow_6 : decode cX2_follow 6 = .ok (.iconst 0, 1) := by decide +kernel
theorem dX2_follow_7 : decode cX2_follow 7 = .ok (.putfield 15, 3) := by decide +kernel
theorem dX2_follow_10 : decode cX2_follow 10 = .ok (.aload_n 0, 1) := by decide +kernel
theorem dX2_follow_11 : decode cX2_follow 11 = .ok (.iconst 0, 1) := by decide +kernel
theorem dX2_follow_12 : decode cX2_follow 12 = .ok (.putfield 18, 3) := by decide +kernel
theorem dX2_follow_15 : decode cX2_follow 15 = .ok (.aload_n 0, 1) := by decide +kernel
theorem dX2_follow_16 : decode cX2_follow 16 = .ok (.iconst 0, 1) := by decide +kernel
theorem dX2_follow_17 : decode cX2_follow 17 = .ok (.putfield 21, 3) := by decide +kernel
theorem dX2_follow_20 : decode cX2_follow 20 = .ok (.aload_n 0, 1) := by decide +kernel
theorem dX2_follow_21 : decode cX2_follow 21 = .ok (.iconst 0, 1) := by decide +kernel
theorem dX2_follow_22 : decode cX2_follow 22 = .ok (.putfield 24, 3) := by decide +kernel
theorem dX2_follow_25 : decode cX2_follow 25 = .ok (.aload_n 0, 1) := by decide +kernel
theorem dX2_follow_26 : decode cX2_follow 26 = .ok (.bipush (-6), 2) := by decide +kernel
theorem dX2_follow_28 : decode cX2_follow 28 = .ok (.putfield 27, 3) := by decide +kernel
theorem dX2_follow_31 : decode cX2_follow 31 = .ok (.iconst 0, 1) := by decide +kernel
theorem dX2_follow_32 : decode cX2_follow 32 = .ok (.istore 6, 2) := by decide +kernel
theorem dX2_follow_34 : decode cX2_follow 34 = .ok (.iload 4, 2) := by decide +kernel
theorem dX2_follow_36 : decode cX2_follow 36 = .ok (.istore 7, 2) := by decide +kernel
theorem dX2_follow_38 : decode cX2_follow 38 = .ok (.iload 7, 2) := by decide +kernel
theorem dX2_follow_40 : decode cX2_follow 40 = .ok (.iload 5, 2) := by decide +kernel
theorem dX2_follow_42 : decode cX2_follow 42 = .ok (.if_icmp .ge 80, 3) := by decide +kernel
theorem dX2_follow_45 : decode cX2_follow 45 = .ok (.iload 6, 2) := by decide +kernel
theorem dX2_follow_47 : decode cX2_follow 47 = .ok (.aload_n 2, 1) := by decide +kernel
theorem dX2_follow_48 : decode cX2_follow 48 = .ok (.getfield 30, 3) := by decide +kernel
theorem dX2_follow_51 : decode cX2_follow 51 = .ok (.if_icmp .ge 58, 3) := by decide +kernel
theorem dX2_follow_54 : decode cX2_follow 54 = .ok (.aload_n 2, 1) := by decide +kernel
theorem dX2_follow_55 : decode cX2_follow 55 = .ok (.getfield 35, 3) := by decide +kernel
theorem dX2_follow_58 : decode cX2_follow 58 = .ok (.iload 6, 2) := by decide +kernel
theorem dX2_follow_60 : decode cX2_follow 60 = .ok (.iaload, 1) := by decide +kernel
theorem dX2_follow_61 : decode cX2_follow 61 = .ok (.iload 7, 2) := by decide +kernel
theorem dX2_follow_63 : decode cX2_follow 63 = .ok (.if_icmp .gt 46, 3) := by decide +kernel
theorem dX2_follow_66 : decode cX2_follow 66 = .ok (.aload_n 2, 1) := by decide +kernel
theorem dX2_follow_67 : decode cX2_follow 67 = .ok (.getfield 35, 3) := by decide +kernel
theorem dX2_follow_70 : decode cX2_follow 70 = .ok (.iload 6, 2) := by decide +kernel
theorem dX2_follow_72 : decode cX2_follow 72 = .ok (.iaload, 1) := by decide +kernel
theorem dX2_follow_73 : decode cX2_follow 73 = .ok (.iload 7, 2) := by decide +kernel
theorem dX2_follow_75 : decode cX2_follow 75 = .ok (.if_icmp .ne 28, 3) := by decide +kernel
theorem dX2_follow_78 : decode cX2_follow 78 = .ok (.aload_n 2, 1) := by decide +kernel
theorem dX2_follow_79 : decode cX2_follow 79 = .ok (.getfield 39, 3) := by decide +kernel
theorem dX2_follow_82 : decode cX2_follow 82 = .ok (.iload 6, 2) := by decide +kernel
theorem dX2_follow_84 : decode cX2_follow 84 = .ok (.iaload, 1) := by decide +kernel
theorem dX2_follow_85 : decode cX2_follow 85 = .ok (.aload_n 1, 1) := by decide +kernel
theorem dX2_follow_86 : decode cX2_follow 86 = .ok (.getfield 42, 3) := by decide +kernel
theorem dX2_follow_89 : decode cX2_follow 89 = .ok (.if_icmp .ne 14, 3) := by decide +kernel
theorem dX2_follow_92 : decode cX2_follow 92 = .ok (.aload_n 0, 1) := by decide +kernel
theorem dX2_follow_93 : decode cX2_follow 93 = .ok (.aload_n 2, 1) := by decide +kernel
theorem dX2_follow_94 : decode cX2_follow 94 = .ok (.getfield 47, 3) := by decide +kernel
theorem dX2_follow_97 : decode cX2_follow 97 = .ok (.iload 6, 2) := by decide +kernel
theorem dX2_follow_99 : decode cX2_follow 99 = .ok (.iaload, 1) := by decide +kernel
theorem dX2_follow_100 : decode cX2_follow 100 = .ok (.invokevirtual 50, 3) := by decide +kernel
theorem dX2_follow_103 : decode cX2_follow 103 = .ok (.iinc 6 1, 3) := by decide +kernel
theorem dX2_follow_106 : decode cX2_follow 106 = .ok (.goto (-61), 3) := by decide +kernel
theorem dX2_follow_109 : decode cX2_follow 109 = .ok (.aload_n 0, 1) := by decide +kernel
theorem dX2_follow_110 : decode cX2_follow 110 = .ok (.aload_n 1, 1) := by decide +kernel
theorem dX2_follow_111 : decode cX2_follow 111 = .ok (.iload 7, 2) := by decide +kernel
theorem dX2_follow_113 : decode cX2_follow 113 = .ok (.invokevirtual 54, 3) := by decide +kernel
theorem dX2_follow_116 : decode cX2_follow 116 = .ok (.iinc 7 1, 3) := by decide +kernel
theorem dX2_follow_119 : decode cX2_follow 119 = .ok (.goto (-81), 3) := by decide +kernel
theorem dX2_follow_122 : decode cX2_follow 122 = .ok (.return_, 1) := by decide +kernel
theorem dX2_bring_0 : decode cX2_bring 0 = .ok (.iconst 0, 1) := by decide +kernel
theorem dX2_bring_1 : decode cX2_bring 1 = .ok (.sipush 1000, 3) := by decide +kernel
theorem dX2_bring_4 : decode cX2_bring 4 = .ok (.aload_n 0, 1) := by decide +kernel
theorem dX2_bring_5 : decode cX2_bring 5 = .ok (.getfield 9, 3) := by decide +kernel
theorem dX2_bring_8 : decode cX2_bring 8 = .ok (.iload_n 1, 1) := by decide +kernel
theorem dX2_bring_9 : decode cX2_bring 9 = .ok (.iadd, 1) := by decide +kernel
theorem dX2_bring_10 : decode cX2_bring 10 = .ok (.invokestatic 58, 3) := by decide +kernel
theorem dX2_bring_13 : decode cX2_bring 13 = .ok (.invokestatic 64, 3) := by decide +kernel
theorem dX2_bring_16 : decode cX2_bring 16 = .ok (.istore_n 2, 1) := by decide +kernel
theorem dX2_bring_17 : decode cX2_bring 17 = .ok (.aload_n 0, 1) := by decide +kernel
theorem dX2_bring_18 : decode cX2_bring 18 = .ok (.dup, 1) := by decide +kernel
theorem dX2_bring_19 : decode cX2_bring 19 = .ok (.getfield 21, 3) := by decide +kernel
theorem dX2_bring_22 : decode cX2_bring 22 = .ok (.iload_n 2, 1) := by decide +kernel
theorem dX2_bring_23 : decode cX2_bring 23 = .ok (.aload_n 0, 1) := by decide +kernel
theorem dX2_bring_24 : decode cX2_bring 24 = .ok (.getfield 9, 3) := by decide +kernel
theorem dX2_bring_27 : decode cX2_bring 27 = .ok (.isub, 1) := by decide +kernel
theorem dX2_bring_28 : decode cX2_bring 28 = .ok (.iadd, 1) := by decide +kernel
theorem dX2_bring_29 : decode cX2_bring 29 = .ok (.putfield 21, 3) := by decide +kernel
theorem dX2_bring_32 : decode cX2_bring 32 = .ok (.aload_n 0, 1) := by decide +kernel
theorem dX2_bring_33 : decode cX2_bring 33 = .ok (.iload_n 2, 1) := by decide +kernel
theorem dX2_bring_34 : decode cX2_bring 34 = .ok (.putfield 9, 3) := by decide +kernel
theorem dX2_bring_37 : decode cX2_bring 37 = .ok (.return_, 1) := by decide +kernel
theorem dX2_makeAndUse_0 : decode cX2_makeAndUse 0 = .ok (.aload_n 1, 1) := by decide +kernel
theorem dX2_makeAndUse_1 : decode cX2_makeAndUse 1 = .ok (.getfield 67, 3) := by decide +kernel
theorem dX2_makeAndUse_4 : decode cX2_makeAndUse 4 = .ok (.sipush 1000, 3) := by decide +kernel
theorem dX2_makeAndUse_7 : decode cX2_makeAndUse 7 = .ok (.aload_n 0, 1) := by decide +kernel
theorem dX2_makeAndUse_8 : decode cX2_makeAndUse 8 = .ok (.getfield 9, 3) := by decide +kernel
theorem dX2_makeAndUse_11 : decode cX2_makeAndUse 11 = .ok (.isub, 1) := by decide +kernel
theorem dX2_makeAndUse_12 : decode cX2_makeAndUse 12 = .ok (.invokestatic 58, 3) := by decide +kernel
theorem dX2_makeAndUse_15 : decode cX2_makeAndUse 15 = .ok (.istore_n 3, 1) := by decide +kernel
theorem dX2_makeAndUse_16 : decode cX2_makeAndUse 16 = .ok (.aload_n 1, 1) := by decide +kernel
theorem dX2_makeAndUse_17 : decode cX2_makeAndUse 17 = .ok (.getfield 70, 3) := by decide +kernel
theorem dX2_makeAndUse_20 : decode cX2_makeAndUse 20 = .ok (.aload_n 0, 1) := by decide +kernel
theorem dX2_makeAndUse_21 : decode cX2_makeAndUse 21 = .ok (.getfield 9, 3) := by decide +kernel
theorem dX2_makeAndUse_24 : decode cX2_makeAndUse 24 = .ok (.iload_n 3, 1) := by decide +kernel
theorem dX2_makeAndUse_25 : decode cX2_makeAndUse 25 = .ok (.iadd, 1) := by decide +kernel
theorem dX2_makeAndUse_26 : decode cX2_makeAndUse 26 = .ok (.invokestatic 58, 3) := by decide +kernel
theorem dX2_makeAndUse_29 : decode cX2_makeAndUse 29 = .ok (.istore 4, 2) := by decide +kernel
theorem dX2_makeAndUse_31 : decode cX2_makeAndUse 31 = .ok (.aload_n 0, 1) := by decide +kernel
theorem dX2_makeAndUse_32 : decode cX2_makeAndUse 32 = .ok (.dup, 1) := by decide +kernel
theorem dX2_makeAndUse_33 : decode cX2_makeAndUse 33 = .ok (.getfield 9, 3) := by decide +kernel
theorem dX2_makeAndUse_36 : decode cX2_makeAndUse 36 = .ok (.iload_n 3, 1) := by decide +kernel
theorem dX2_makeAndUse_37 : decode cX2_makeAndUse 37 = .ok (.iload 4, 2) := by decide +kernel
theorem dX2_makeAndUse_39 : decode cX2_makeAndUse 39 = .ok (.isub, 1) := by decide +kernel
theorem dX2_makeAndUse_40 : decode cX2_makeAndUse 40 = .ok (.iadd, 1) := by decide +kernel
theorem dX2_makeAndUse_41 : decode cX2_makeAndUse 41 = .ok (.putfield 9, 3) := by decide +kernel
theorem dX2_makeAndUse_44 : decode cX2_makeAndUse 44 = .ok (.aload_n 0, 1) := by decide +kernel
theorem dX2_makeAndUse_45 : decode cX2_makeAndUse 45 = .ok (.dup, 1) := by decide +kernel
theorem dX2_makeAndUse_46 : decode cX2_makeAndUse 46 = .ok (.getfield 15, 3) := by decide +kernel
theorem dX2_makeAndUse_49 : decode cX2_makeAndUse 49 = .ok (.iload_n 3, 1) := by decide +kernel
theorem dX2_makeAndUse_50 : decode cX2_makeAndUse 50 = .ok (.iadd, 1) := by decide +kernel
theorem dX2_makeAndUse_51 : decode cX2_makeAndUse 51 = .ok (.putfield 15, 3) := by decide +kernel
theorem dX2_makeAndUse_54 : decode cX2_makeAndUse 54 = .ok (.aload_n 0, 1) := by decide +kernel
theorem dX2_makeAndUse_55 : decode cX2_makeAndUse 55 = .ok (.dup, 1) := by decide +kernel
theorem dX2_makeAndUse_56 : decode cX2_makeAndUse 56 = .ok (.getfield 18, 3) := by decide +kernel
theorem dX2_makeAndUse_59 : decode cX2_makeAndUse 59 = .ok (.iload 4, 2) := by decide +kernel
theorem dX2_makeAndUse_61 : decode cX2_makeAndUse 61 = .ok (.iadd, 1) := by decide +kernel
theorem dX2_makeAndUse_62 : decode cX2_makeAndUse 62 = .ok (.putfield 18, 3) := by decide +kernel
theorem dX2_makeAndUse_65 : decode cX2_makeAndUse 65 = .ok (.iload 4, 2) := by decide +kernel
theorem dX2_makeAndUse_67 : decode cX2_makeAndUse 67 = .ok (.aload_n 1, 1) := by decide +kernel
theorem dX2_makeAndUse_68 : decode cX2_makeAndUse 68 = .ok (.getfield 70, 3) := by decide +kernel
theorem dX2_makeAndUse_71 : decode cX2_makeAndUse 71 = .ok (.if_icmp .ge 40, 3) := by decide +kernel
theorem dX2_makeAndUse_74 : decode cX2_makeAndUse 74 = .ok (.aload_n 0, 1) := by decide +kernel
theorem dX2_makeAndUse_75 : decode cX2_makeAndUse 75 = .ok (.dup, 1) := by decide +kernel
theorem dX2_makeAndUse_76 : decode cX2_makeAndUse 76 = .ok (.getfield 24, 3) := by decide +kernel
theorem dX2_makeAndUse_79 : decode cX2_makeAndUse 79 = .ok (.aload_n 1, 1) := by decide +kernel
theorem dX2_makeAndUse_80 : decode cX2_makeAndUse 80 = .ok (.getfield 70, 3) := by decide +kernel
theorem dX2_makeAndUse_83 : decode cX2_makeAndUse 83 = .ok (.iload 4, 2) := by decide +kernel
theorem dX2_makeAndUse_85 : decode cX2_makeAndUse 85 = .ok (.isub, 1) := by decide +kernel
theorem dX2_makeAndUse_86 : decode cX2_makeAndUse 86 = .ok (.iadd, 1) := by decide +kernel
theorem dX2_makeAndUse_87 : decode cX2_makeAndUse 87 = .ok (.putfield 24, 3) := by decide +kernel
theorem dX2_makeAndUse_90 : decode cX2_makeAndUse 90 = .ok (.aload_n 0, 1) := by decide +kernel
theorem dX2_makeAndUse_91 : decode cX2_makeAndUse 91 = .ok (.aload_n 0, 1) := by decide +kernel
theorem dX2_makeAndUse_92 : decode cX2_makeAndUse 92 = .ok (.getfield 27, 3) := by decide +kernel
theorem dX2_makeAndUse_95 : decode cX2_makeAndUse 95 = .ok (.bipush (-6), 2) := by decide +kernel
theorem dX2_makeAndUse_97 : decode cX2_makeAndUse 97 = .ok (.if_icmp .ne 7, 3) := by decide +kernel
theorem dX2_makeAndUse_100 : decode cX2_makeAndUse 100 = .ok (.iload_n 2, 1) := by decide +kernel
theorem dX2_makeAndUse_101 : decode cX2_makeAndUse 101 = .ok (.goto 7, 3) := by decide +kernel
theorem dX2_makeAndUse_104 : decode cX2_makeAndUse 104 = .ok (.aload_n 0, 1) := by decide +kernel
theorem dX2_makeAndUse_105 : decode cX2_makeAndUse 105 = .ok (.getfield 27, 3) := by decide +kernel
theorem dX2_makeAndUse_108 : decode cX2_makeAndUse 108 = .ok (.putfield 27, 3) := by decide +kernel
theorem dX2_makeAndUse_111 : decode cX2_makeAndUse 111 = .ok (.return_, 1) := by decide +kernel
theorem dX3_init_0 : decode cX3_init 0 = .ok (.aload_n 0, 1) := by decide +kernel
theorem dX3_init_1 : decode cX3_init 1 = .ok (.invokespecial 3, 3) := by decide +kernel
theorem dX3_init_4 : decode cX3_init 4 = .ok (.aload_n 0, 1) := by decide +kernel
theorem dX3_init_5 : decode cX3_init 5 = .ok (.new 9, 3) := by decide +kernel
theorem dX3_init_8 : decode cX3_init 8 = .ok (.dup, 1) := by decide +kernel
theorem dX3_init_9 : decode cX3_init 9 = .ok (.invokespecial 11, 3) := by decide +kernel
theorem dX3_init_12 : decode cX3_init 12 = .ok (.putfield 12, 3) := by decide +kernel
theorem dX3_init_15 : decode cX3_init 15 = .ok (.aload_n 0, 1) := by decide +kernel
theorem dX3_init_16 : decode cX3_init 16 = .ok (.new 18, 3) := by decide +kernel
theorem dX3_init_19 : decode cX3_init 19 = .ok (.dup, 1) := by decide +kernel
theorem dX3_init_20 : decode cX3_init 20 = .ok (.invokespecial 20, 3) := by decide +kernel
theorem dX3_init_23 : decode cX3_init 23 = .ok (.putfield 21, 3) := by decide +kernel
theorem dX3_init_26 : decode cX3_init 26 = .ok (.aload_n 0, 1) := by decide +kernel
theorem dX3_init_27 : decode cX3_init 27 = .ok (.bipush 18, 2) := by decide +kernel
theorem dX3_init_29 : decode cX3_init 29 = .ok (.newarray .int, 2) := by decide +kernel
theorem dX3_init_31 : decode cX3_init 31 = .ok (.putfield 25, 3) := by decide +kernel
theorem dX3_init_34 : decode cX3_init 34 = .ok (.aload_n 0, 1) := by decide +kernel
theorem dX3_init_35 : decode cX3_init 35 = .ok (.bipush 18, 2) := by decide +kernel
theorem dX3_init_37 : decode cX3_init 37 = .ok (.newarray .int, 2) := by decide +kernel
theorem dX3_init_39 : decode cX3_init 39 = .ok (.putfield 29, 3) := by decide +kernel
theorem dX3_init_42 : decode cX3_init 42 = .ok (.aload_n 0, 1) := by decide +kernel
theorem dX3_init_43 : decode cX3_init 43 = .ok (.iconst 3, 1) := by decide +kernel
theorem dX3_init_44 : decode cX3_init 44 = .ok (.newarray .int, 2) := by decide +kernel
theorem dX3_init_46 : decode cX3_init 46 = .ok (.putfield 32, 3) := by decide +kernel
theorem dX3_init_49 : decode cX3_init 49 = .ok (.aload_n 0, 1) := by decide +kernel
theorem dX3_init_50 : decode cX3_init 50 = .ok (.iconst 3, 1) := by decide +kernel
theorem dX3_init_51 : decode cX3_init 51 = .ok (.newarray .int, 2) := by decide +kernel
theorem dX3_init_53 : decode cX3_init 53 = .ok (.putfield 35, 3) := by decide +kernel
theorem dX3_init_56 : decode cX3_init 56 = .ok (.aload_n 0, 1) := by decide +kernel
theorem dX3_init_57 : decode cX3_init 57 = .ok (.iconst 3, 1) := by decide +kernel
theorem dX3_init_58 : decode cX3_init 58 = .ok (.newarray .int, 2) := by decide +kernel
theorem dX3_init_60 : decode cX3_init 60 = .ok (.putfield 38, 3) := by decide +kernel
theorem dX3_init_63 : decode cX3_init 63 = .ok (.aload_n 0, 1) := by decide +kernel
theorem dX3_init_64 : decode cX3_init 64 = .ok (.iconst 3, 1) := by decide +kernel
theorem dX3_init_65 : decode cX3_init 65 = .ok (.newarray .int, 2) := by decide +kernel
theorem dX3_init_67 : decode cX3_init 67 = .ok (.putfield 41, 3) := by decide +kernel
theorem dX3_init_70 : decode cX3_init 70 = .ok (.aload_n 0, 1) := by decide +kernel
theorem dX3_init_71 : decode cX3_init 71 = .ok (.aload_n 1, 1) := by decide +kernel
theorem dX3_init_72 : decode cX3_init 72 = .ok (.putfield 44, 3) := by decide +kernel
theorem dX3_init_75 : decode cX3_init 75 = .ok (.aload_n 0, 1) := by decide +kernel
theorem dX3_init_76 : decode cX3_init 76 = .ok (.iconst 4, 1) := by decide +kernel
theorem dX3_init_77 : decode cX3_init 77 = .ok (.anewarray 48, 3) := by decide +kernel
theorem dX3_init_80 : decode cX3_init 80 = .ok (.putfield 50, 3) := by decide +kernel
theorem dX3_init_83 : decode cX3_init 83 = .ok (.iconst 0, 1) := by decide +kernel
theorem dX3_init_84 : decode cX3_init 84 = .ok (.istore_n 2, 1) := by decide +kernel
theorem dX3_init_85 : decode cX3_init 85 = .ok (.iload_n 2, 1) := by decide +kernel
theorem dX3_init_86 : decode cX3_init 86 = .ok (.iconst 3, 1) := by decide +kernel
theorem dX3_init_87 : decode cX3_init 87 = .ok (.if_icmp .gt 22, 3) := by decide +kernel
theorem dX3_init_90 : decode cX3_init 90 = .ok (.aload_n 0, 1) := by decide +kernel
theorem dX3_init_91 : decode cX3_init 91 = .ok (.getfield 50, 3) := by decide +kernel
theorem dX3_init_94 : decode cX3_init 94 = .ok (.iload_n 2, 1) := by decide +kernel
theorem dX3_init_95 : decode cX3_init 95 = .ok (.new 48, 3) := by decide +kernel
theorem dX3_init_98 : decode cX3_init 98 = .ok (.dup, 1) := by decide +kernel
theorem dX3_init_99 : decode cX3_init 99 = .ok (.invokespecial 54, 3) := by decide +kernel
theorem dX3_init_102 : decode cX3_init 102 = .ok (.aastore, 1) := by decide +kernel
theorem dX3_init_103 : decode cX3_init 103 = .ok (.iinc 2 1, 3) := by decide +kernel
theorem dX3_init_106 : decode cX3_init 106 = .ok (.goto (-21), 3) := by decide +kernel
theorem dX3_init_109 : decode cX3_init 109 = .ok (.return_, 1) := by decide +kernel
theorem dX3_seek_0 : decode cX3_seek 0 = .ok (.aload_n 0, 1) := by decide +kernel
theorem dX3_seek_1 : decode cX3_seek 1 = .ok (.iload 4, 2) := by decide +kernel
theorem dX3_seek_3 : decode cX3_seek 3 = .ok (.putfield 55, 3) := by decide +kernel
theorem dX3_seek_6 : decode cX3_seek 6 = .ok (.aload_n 0, 1) := by decide +kernel
theorem dX3_seek_7 : decode cX3_seek 7 = .ok (.iload_n 2, 1) := by decide +kernel
theorem dX3_seek_8 : decode cX3_seek 8 = .ok (.putfield 59, 3) := by decide +kernel
theorem dX3_seek_11 : decode cX3_seek 11 = .ok (.aload_n 0, 1) := by decide +kernel
theorem dX3_seek_12 : decode cX3_seek 12 = .ok (.iconst 0, 1) := by decide +kernel
theorem dX3_seek_13 : decode cX3_seek 13 = .ok (.putfield 62, 3) := by decide +kernel
theorem dX3_seek_16 : decode cX3_seek 16 = .ok (.iconst 0, 1) := by decide +kernel
theorem dX3_seek_17 : decode cX3_seek 17 = .ok (.istore 5, 2) := by decide +kernel
theorem dX3_seek_19 : decode cX3_seek 19 = .ok (.iload 5, 2) := by decide +kernel
theorem dX3_seek_21 : decode cX3_seek 21 = .ok (.aload_n 0, 1) := by decide +kernel
theorem dX3_seek_22 : decode cX3_seek 22 = .ok (.getfield 44, 3) := by decide +kernel
theorem dX3_seek_25 : decode cX3_seek 25 = .ok (.getfield 66, 3) := by decide +kernel
theorem dX3_seek_28 : decode cX3_seek 28 = .ok (.if_icmp .ge 83, 3) := by decide +kernel
theorem dX3_seek_31 : decode cX3_seek 31 = .ok (.iconst 0, 1) := by decide +kernel
theorem dX3_seek_32 : decode cX3_seek 32 = .ok (.istore 6, 2) := by decide +kernel
theorem dX3_seek_34 : decode cX3_seek 34 = .ok (.iload 6, 2) := by decide +kernel
theorem dX3_seek_36 : decode cX3_seek 36 = .ok (.iconst 3, 1) := by decide +kernel
theorem dX3_seek_37 : decode cX3_seek 37 = .ok (.if_icmp .ge 68, 3) := by decide +kernel
theorem dX3_seek_40 : decode cX3_seek 40 = .ok (.aload_n 0, 1) := by decide +kernel
theorem dX3_seek_41 : decode cX3_seek 41 = .ok (.getfield 25, 3) := by decide +kernel
theorem dX3_seek_44 : decode cX3_seek 44 = .ok (.aload_n 0, 1) := by decide +kernel
theorem dX3_seek_45 : decode cX3_seek 45 = .ok (.getfield 44, 3) := by decide +kernel
theorem dX3_seek_48 : decode cX3_seek 48 = .ok (.iload 5, 2) := by decide +kernel
theorem dX3_seek_50 : decode cX3_seek 50 = .ok (.iload 6, 2) := by decide +kernel
theorem dX3_seek_52 : decode cX3_seek 52 = .ok (.invokevirtual 71, 3) := by decide +kernel
theorem dX3_seek_55 : decode cX3_seek 55 = .ok (.getfield 75, 3) := by decide +kernel
theorem dX3_seek_58 : decode cX3_seek 58 = .ok (.aload_n 0, 1) := by decide +kernel
theorem dX3_seek_59 : decode cX3_seek 59 = .ok (.getfield 44, 3) := by decide +kernel
theorem dX3_seek_62 : decode cX3_seek 62 = .ok (.iload 5, 2) := by decide +kernel
theorem dX3_seek_64 : decode cX3_seek 64 = .ok (.iload 6, 2) := by decide +kernel
theorem dX3_seek_66 : decode cX3_seek 66 = .ok (.invokevirtual 71, 3) := by decide +kernel
theorem dX3_seek_69 : decode cX3_seek 69 = .ok (.getfield 80, 3) := by decide +kernel
theorem dX3_seek_72 : decode cX3_seek 72 = .ok (.iastore, 1) := by decide +kernel
theorem dX3_seek_73 : decode cX3_seek 73 = .ok (.aload_n 0, 1) := by decide +kernel
theorem dX3_seek_74 : decode cX3_seek 74 = .ok (.getfield 29, 3) := by decide +kernel
theorem dX3_seek_77 : decode cX3_seek 77 = .ok (.aload_n 0, 1) := by decide +kernel
theorem dX3_seek_78 : decode cX3_seek 78 = .ok (.getfield 44, 3) := by decide +kernel
theorem dX3_seek_81 : decode cX3_seek 81 = .ok (.iload 5, 2) := by decide +kernel
theorem dX3_seek_83 : decode cX3_seek 83 = .ok (.iload 6, 2) := by decide +kernel
theorem dX3_seek_85 : decode cX3_seek 85 = .ok (.invokevirtual 71, 3) := by decide +kernel
theorem dX3_seek_88 : decode cX3_seek 88 = .ok (.getfield 75, 3) := by decide +kernel
theorem dX3_seek_91 : decode cX3_seek 91 = .ok (.aload_n 0, 1) := by decide +kernel
theorem dX3_seek_92 : decode cX3_seek 92 = .ok (.getfield 44, 3) := by decide +kernel
theorem dX3_seek_95 : decode cX3_seek 95 = .ok (.getfield 83, 3) := by decide +kernel
theorem dX3_seek_98 : decode cX3_seek 98 = .ok (.iastore, 1) := by decide +kernel
theorem dX3_seek_99 : decode cX3_seek 99 = .ok (.iinc 6 1, 3) := by decide +kernel
theorem dX3_seek_102 : decode cX3_seek 102 = .ok (.goto (-68), 3) := by decide +kernel
theorem dX3_seek_105 : decode cX3_seek 105 = .ok (.iinc 5 1, 3) := by decide +kernel
theorem dX3_seek_108 : decode cX3_seek 108 = .ok (.goto (-89), 3) := by decide +kernel
theorem dX3_seek_111 : decode cX3_seek 111 = .ok (.aload_n 0, 1) := by decide +kernel
theorem dX3_seek_112 : decode cX3_seek 112 = .ok (.aload_n 0, 1) := by decide +kernel
theorem dX3_seek_113 : decode cX3_seek 113 = .ok (.getfield 50, 3) := by decide +kernel
theorem dX3_seek_116 : decode cX3_seek 116 = .ok (.iconst 0, 1) := by decide +kernel
theorem dX3_seek_117 : decode cX3_seek 117 = .ok (.aaload, 1) := by decide +kernel
theorem dX3_seek_118 : decode cX3_seek 118 = .ok (.iload_n 1, 1) := by decide +kernel
theorem dX3_seek_119 : decode cX3_seek 119 = .ok (.aload_n 0, 1) := by decide +kernel
theorem dX3_seek_120 : decode cX3_seek 120 = .ok (.getfield 44, 3) := by decide +kernel
theorem dX3_seek_123 : decode cX3_seek 123 = .ok (.getfield 83, 3) := by decide +kernel
theorem dX3_seek_126 : decode cX3_seek 126 = .ok (.iload_n 3, 1) := by decide +kernel
theorem dX3_seek_127 : decode cX3_seek 127 = .ok (.invokevirtual 86, 3) := by decide +kernel
theorem dX3_seek_130 : decode cX3_seek 130 = .ok (.aload_n 0, 1) := by decide +kernel
theorem dX3_seek_131 : decode cX3_seek 131 = .ok (.iconst 0, 1) := by decide +kernel
theorem dX3_seek_132 : decode cX3_seek 132 = .ok (.invokevirtual 90, 3) := by decide +kernel
theorem dX3_seek_135 : decode cX3_seek 135 = .ok (.aload_n 0, 1) := by decide +kernel
theorem dX3_seek_136 : decode cX3_seek 136 = .ok (.getfield 62, 3) := by decide +kernel
theorem dX3_seek_139 : decode cX3_seek 139 = .ok (.ireturn, 1) := by decide +kernel
theorem dX3_arrive_0 : decode cX3_arrive 0 = .ok (.aload_n 1, 1) := by decide +kernel
theorem dX3_arrive_1 : decode cX3_arrive 1 = .ok (.iload_n 2, 1) := by decide +kernel
theorem dX3_arrive_2 : decode cX3_arrive 2 = .ok (.putfield 94, 3) := by decide +kernel
theorem dX3_arrive_5 : decode cX3_arrive 5 = .ok (.aload_n 1, 1) := by decide +kernel
theorem dX3_arrive_6 : decode cX3_arrive 6 = .ok (.iload_n 3, 1) := by decide +kernel
theorem dX3_arrive_7 : decode cX3_arrive 7 = .ok (.putfield 97, 3) := by decide +kernel
theorem dX3_arrive_10 : decode cX3_arrive 10 = .ok (.aload_n 1, 1) := by decide +kernel
theorem dX3_arrive_11 : decode cX3_arrive 11 = .ok (.iload 4, 2) := by decide +kernel
theorem dX3_arrive_13 : decode cX3_arrive 13 = .ok (.putfield 100, 3) := by decide +kernel
theorem dX3_arrive_16 : decode cX3_arrive 16 = .ok (.return_, 1) := by decide +kernel
theorem dX3_extend_0 : decode cX3_extend 0 = .ok (.aload_n 0, 1) := by decide +kernel
theorem dX3_extend_1 : decode cX3_extend 1 = .ok (.getfield 50, 3) := by decide +kernel
theorem dX3_extend_4 : decode cX3_extend 4 = .ok (.iload_n 1, 1) := by decide +kernel
theorem dX3_extend_5 : decode cX3_extend 5 = .ok (.aaload, 1) := by decide +kernel
theorem dX3_extend_6 : decode cX3_extend 6 = .ok (.astore_n 2, 1) := by decide +kernel
theorem dX3_extend_7 : decode cX3_extend 7 = .ok (.iload_n 1, 1) := by decide +kernel
theorem dX3_extend_8 : decode cX3_extend 8 = .ok (.aload_n 0, 1) := by decide +kernel
theorem dX3_extend_9 : decode cX3_extend 9 = .ok (.getfield 55, 3) := by decide +kernel
theorem dX3_extend_12 : decode cX3_extend 12 = .ok (.if_icmp .lt 12, 3) := by decide +kernel
theorem dX3_extend_15 : decode cX3_extend 15 = .ok (.aload_n 0, 1) := by decide +kernel
theorem dX3_extend_16 : decode cX3_extend 16 = .ok (.aload_n 2, 1) := by decide +kernel
theorem dX3_extend_17 : decode cX3_extend 17 = .ok (.getfield 100, 3) := by decide +kernel
theorem dX3_extend_20 : decode cX3_extend 20 = .ok (.invokevirtual 103, 3) := by decide +kernel
theorem dX3_extend_23 : decode cX3_extend 23 = .ok (.return_, 1) := by decide +kernel
theorem dX3_extend_24 : decode cX3_extend 24 = .ok (.aload_n 0, 1) := by decide +kernel
theorem dX3_extend_25 : decode cX3_extend 25 = .ok (.aload_n 2, 1) := by decide +kernel
theorem dX3_extend_26 : decode cX3_extend 26 = .ok (.invokevirtual 106, 3) := by decide +kernel
theorem dX3_extend_29 : decode cX3_extend 29 = .ok (.iconst 0, 1) := by decide +kernel
theorem dX3_extend_30 : decode cX3_extend 30 = .ok (.istore_n 3, 1) := by decide +kernel
theorem dX3_extend_31 : decode cX3_extend 31 = .ok (.iload_n 3, 1) := by decide +kernel
theorem dX3_extend_32 : decode cX3_extend 32 = .ok (.aload_n 0, 1) := by decide +kernel
theorem dX3_extend_33 : decode cX3_extend 33 = .ok (.getfield 44, 3) := by decide +kernel
theorem dX3_extend_36 : decode cX3_extend 36 = .ok (.getfield 66, 3) := by decide +kernel
theorem dX3_extend_39 : decode cX3_extend 39 = .ok (.if_icmp .ge 88, 3) := by decide +kernel
theorem dX3_extend_42 : decode cX3_extend 42 = .ok (.aload_n 0, 1) := by decide +kernel
theorem dX3_extend_43 : decode cX3_extend 43 = .ok (.getfield 44, 3) := by decide +kernel
theorem dX3_extend_46 : decode cX3_extend 46 = .ok (.aload_n 2, 1) := by decide +kernel
theorem dX3_extend_47 : decode cX3_extend 47 = .ok (.getfield 94, 3) := by decide +kernel
theorem dX3_extend_50 : decode cX3_extend 50 = .ok (.iload_n 3, 1) := by decide +kernel
theorem dX3_extend_51 : decode cX3_extend 51 = .ok (.invokevirtual 110, 3) := by decide +kernel
theorem dX3_extend_54 : decode cX3_extend 54 = .ok (.istore 4, 2) := by decide +kernel
theorem dX3_extend_56 : decode cX3_extend 56 = .ok (.iload 4, 2) := by decide +kernel
theorem dX3_extend_58 : decode cX3_extend 58 = .ok (.ifCond .eq 63, 3) := by decide +kernel
theorem dX3_extend_61 : decode cX3_extend 61 = .ok (.aload_n 2, 1) := by decide +kernel
theorem dX3_extend_62 : decode cX3_extend 62 = .ok (.getfield 97, 3) := by decide +kernel
theorem dX3_extend_65 : decode cX3_extend 65 = .ok (.iload 4, 2) := by decide +kernel
theorem dX3_extend_67 : decode cX3_extend 67 = .ok (.iadd, 1) := by decide +kernel
theorem dX3_extend_68 : decode cX3_extend 68 = .ok (.sipush 999, 3) := by decide +kernel
theorem dX3_extend_71 : decode cX3_extend 71 = .ok (.if_icmp .le 6, 3) := by decide +kernel
theorem dX3_extend_74 : decode cX3_extend 74 = .ok (.goto 47, 3) := by decide +kernel
theorem dX3_extend_77 : decode cX3_extend 77 = .ok (.iconst 0, 1) := by decide +kernel
theorem dX3_extend_78 : decode cX3_extend 78 = .ok (.istore 5, 2) := by decide +kernel
theorem dX3_extend_80 : decode cX3_extend 80 = .ok (.iload 5, 2) := by decide +kernel
theorem dX3_extend_82 : decode cX3_extend 82 = .ok (.iconst 3, 1) := by decide +kernel
theorem dX3_extend_83 : decode cX3_extend 83 = .ok (.if_icmp .gt 38, 3) := by decide +kernel
theorem dX3_extend_86 : decode cX3_extend 86 = .ok (.aload_n 2, 1) := by decide +kernel
theorem dX3_extend_87 : decode cX3_extend 87 = .ok (.getfield 114, 3) := by decide +kernel
theorem dX3_extend_90 : decode cX3_extend 90 = .ok (.iload 5, 2) := by decide +kernel
theorem dX3_extend_92 : decode cX3_extend 92 = .ok (.iaload, 1) := by decide +kernel
theorem dX3_extend_93 : decode cX3_extend 93 = .ok (.ifCond .gt 12, 3) := by decide +kernel
theorem dX3_extend_96 : decode cX3_extend 96 = .ok (.iload 5, 2) := by decide +kernel
theorem dX3_extend_98 : decode cX3_extend 98 = .ok (.aload_n 2, 1) := by decide +kernel
theorem dX3_extend_99 : decode cX3_extend 99 = .ok (.getfield 117, 3) := by decide +kernel
theorem dX3_extend_102 : decode cX3_extend 102 = .ok (.if_icmp .ne 13, 3) := by decide +kernel
theorem dX3_extend_105 : decode cX3_extend 105 = .ok (.aload_n 0, 1) := by decide +kernel
theorem dX3_extend_106 : decode cX3_extend 106 = .ok (.iload_n 1, 1) := by decide +kernel
theorem dX3_extend_107 : decode cX3_extend 107 = .ok (.iload_n 3, 1) := by decide +kernel
theorem dX3_extend_108 : decode cX3_extend 108 = .ok (.iload 4, 2) := by decide +kernel
theorem dX3_extend_110 : decode cX3_extend 110 = .ok (.iload 5, 2) := by decide +kernel
theorem dX3_extend_112 : decode cX3_extend 112 = .ok (.invokevirtual 120, 3) := by decide +kernel
theorem dX3_extend_115 : decode cX3_extend 115 = .ok (.iinc 5 1, 3) := by decide +kernel
theorem dX3_extend_118 : decode cX3_extend 118 = .ok (.goto (-38), 3) := by decide +kernel
theorem dX3_extend_121 : decode cX3_extend 121 = .ok (.iinc 3 1, 3) := by decide +kernel
theorem dX3_extend_124 : decode cX3_extend 124 = .ok (.goto (-93), 3) := by decide +kernel
theorem dX3_extend_127 : decode cX3_extend 127 = .ok (.return_, 1) := by decide +kernel
theorem dX3_compare_0 : decode cX3_compare 0 = .ok (.aload_n 0, 1) := by decide +kernel
theorem dX3_compare_1 : decode cX3_compare 1 = .ok (.getfield 62, 3) := by decide +kernel
theorem dX3_compare_4 : decode cX3_compare 4 = .ok (.ifCond .eq 12, 3) := by decide +kernel
theorem dX3_compare_7 : decode cX3_compare 7 = .ok (.iload_n 1, 1) := by decide +kernel
theorem dX3_compare_8 : decode cX3_compare 8 = .ok (.aload_n 0, 1) := by decide +kernel
theorem dX3_compare_9 : decode cX3_compare 9 = .ok (.getfield 124, 3) := by decide +kernel
theorem dX3_compare_12 : decode cX3_compare 12 = .ok (.if_icmp .gt 4, 3) := by decide +kernel
theorem dX3_compare_15 : decode cX3_compare 15 = .ok (.return_, 1) := by decide +kernel
theorem dX3_compare_16 : decode cX3_compare 16 = .ok (.aload_n 0, 1) := by decide +kernel
theorem dX3_compare_17 : decode cX3_compare 17 = .ok (.iconst 1, 1) := by decide +kernel
theorem dX3_compare_18 : decode cX3_compare 18 = .ok (.putfield 62, 3) := by decide +kernel
theorem dX3_compare_21 : decode cX3_compare 21 = .ok (.aload_n 0, 1) := by decide +kernel
theorem dX3_compare_22 : decode cX3_compare 22 = .ok (.iload_n 1, 1) := by decide +kernel
theorem dX3_compare_23 : decode cX3_compare 23 = .ok (.putfield 124, 3) := by decide +kernel
theorem dX3_compare_26 : decode cX3_compare 26 = .ok (.aload_n 0, 1) := by decide +kernel
theorem dX3_compare_27 : decode cX3_compare 27 = .ok (.aload_n 0, 1) := by decide +kernel
theorem dX3_compare_28 : decode cX3_compare 28 = .ok (.getfield 55, 3) := by decide +kernel
theorem dX3_compare_31 : decode cX3_compare 31 = .ok (.putfield 127, 3) := by decide +kernel
theorem dX3_compare_34 : decode cX3_compare 34 = .ok (.aload_n 0, 1) := by decide +kernel
theorem dX3_compare_35 : decode cX3_compare 35 = .ok (.getfield 32, 3) := by decide +kernel
theorem dX3_compare_38 : decode cX3_compare 38 = .ok (.iconst 0, 1) := by decide +kernel
theorem dX3_compare_39 : decode cX3_compare 39 = .ok (.aload_n 0, 1) := by decide +kernel
theorem dX3_compare_40 : decode cX3_compare 40 = .ok (.getfield 38, 3) := by decide +kernel
theorem dX3_compare_43 : decode cX3_compare 43 = .ok (.iconst 0, 1) := by decide +kernel
theorem dX3_compare_44 : decode cX3_compare 44 = .ok (.aload_n 0, 1) := by decide +kernel
theorem dX3_compare_45 : decode cX3_compare 45 = .ok (.getfield 55, 3) := by decide +kernel
theorem dX3_compare_48 : decode cX3_compare 48 = .ok (.invokestatic 130, 3) := by decide +kernel
theorem dX3_compare_51 : decode cX3_compare 51 = .ok (.aload_n 0, 1) := by decide +kernel
theorem dX3_compare_52 : decode cX3_compare 52 = .ok (.getfield 35, 3) := by decide +kernel
theorem dX3_compare_55 : decode cX3_compare 55 = .ok (.iconst 0, 1) := by decide +kernel
theorem dX3_compare_56 : decode cX3_compare 56 = .ok (.aload_n 0, 1) := by decide +kernel
theorem dX3_compare_57 : decode cX3_compare 57 = .ok (.getfield 41, 3) := by decide +kernel
theorem dX3_compare_60 : decode cX3_compare 60 = .ok (.iconst 0, 1) := by decide +kernel
theorem dX3_compare_61 : decode cX3_compare 61 = .ok (.aload_n 0, 1) := by decide +kernel
theorem dX3_compare_62 : decode cX3_compare 62 = .ok (.getfield 55, 3) := by decide +kernel
theorem dX3_compare_65 : decode cX3_compare 65 = .ok (.invokestatic 130, 3) := by decide +kernel
theorem dX3_compare_68 : decode cX3_compare 68 = .ok (.return_, 1) := by decide +kernel
theorem dX3_buyEach_0 : decode cX3_buyEach 0 = .ok (.aload_n 1, 1) := by decide +kernel
theorem dX3_buyEach_1 : decode cX3_buyEach 1 = .ok (.getfield 136, 3) := by decide +kernel
theorem dX3_buyEach_4 : decode cX3_buyEach 4 = .ok (.iconst 3, 1) := by decide +kernel
theorem dX3_buyEach_5 : decode cX3_buyEach 5 = .ok (.aload_n 1, 1) := by decide +kernel
theorem dX3_buyEach_6 : decode cX3_buyEach 6 = .ok (.getfield 100, 3) := by decide +kernel
theorem dX3_buyEach_9 : decode cX3_buyEach 9 = .ok (.iastore, 1) := by decide +kernel
theorem dX3_buyEach_10 : decode cX3_buyEach 10 = .ok (.aload_n 1, 1) := by decide +kernel
theorem dX3_buyEach_11 : decode cX3_buyEach 11 = .ok (.iconst 3, 1) := by decide +kernel
theorem dX3_buyEach_12 : decode cX3_buyEach 12 = .ok (.putfield 117, 3) := by decide +kernel
theorem dX3_buyEach_15 : decode cX3_buyEach 15 = .ok (.iconst 2, 1) := by decide +kernel
theorem dX3_buyEach_16 : decode cX3_buyEach 16 = .ok (.istore_n 2, 1) := by decide +kernel
theorem dX3_buyEach_17 : decode cX3_buyEach 17 = .ok (.iload_n 2, 1) := by decide +kernel
theorem dX3_buyEach_18 : decode cX3_buyEach 18 = .ok (.ifCond .lt 123, 3) := by decide +kernel
theorem dX3_buyEach_21 : decode cX3_buyEach 21 = .ok (.aload_n 0, 1) := by decide +kernel
theorem dX3_buyEach_22 : decode cX3_buyEach 22 = .ok (.getfield 44, 3) := by decide +kernel
theorem dX3_buyEach_25 : decode cX3_buyEach 25 = .ok (.aload_n 1, 1) := by decide +kernel
theorem dX3_buyEach_26 : decode cX3_buyEach 26 = .ok (.getfield 94, 3) := by decide +kernel
theorem dX3_buyEach_29 : decode cX3_buyEach 29 = .ok (.iload_n 2, 1) := by decide +kernel
theorem dX3_buyEach_30 : decode cX3_buyEach 30 = .ok (.invokevirtual 71, 3) := by decide +kernel
theorem dX3_buyEach_33 : decode cX3_buyEach 33 = .ok (.astore_n 3, 1) := by decide +kernel
theorem dX3_buyEach_34 : decode cX3_buyEach 34 = .ok (.aload_n 0, 1) := by decide +kernel
theorem dX3_buyEach_35 : decode cX3_buyEach 35 = .ok (.getfield 21, 3) := by decide +kernel
theorem dX3_buyEach_38 : decode cX3_buyEach 38 = .ok (.aload_n 3, 1) := by decide +kernel
theorem dX3_buyEach_39 : decode cX3_buyEach 39 = .ok (.aload_n 0, 1) := by decide +kernel
theorem dX3_buyEach_40 : decode cX3_buyEach 40 = .ok (.aload_n 3, 1) := by decide +kernel
theorem dX3_buyEach_41 : decode cX3_buyEach 41 = .ok (.aload_n 1, 1) := by decide +kernel
theorem dX3_buyEach_42 : decode cX3_buyEach 42 = .ok (.getfield 97, 3) := by decide +kernel
theorem dX3_buyEach_45 : decode cX3_buyEach 45 = .ok (.invokevirtual 139, 3) := by decide +kernel
theorem dX3_buyEach_48 : decode cX3_buyEach 48 = .ok (.aload_n 0, 1) := by decide +kernel
theorem dX3_buyEach_49 : decode cX3_buyEach 49 = .ok (.getfield 44, 3) := by decide +kernel
theorem dX3_buyEach_52 : decode cX3_buyEach 52 = .ok (.getfield 143, 3) := by decide +kernel
theorem dX3_buyEach_55 : decode cX3_buyEach 55 = .ok (.aload_n 1, 1) := by decide +kernel
theorem dX3_buyEach_56 : decode cX3_buyEach 56 = .ok (.getfield 94, 3) := by decide +kernel
theorem dX3_buyEach_59 : decode cX3_buyEach 59 = .ok (.aaload, 1) := by decide +kernel
theorem dX3_buyEach_60 : decode cX3_buyEach 60 = .ok (.getfield 147, 3) := by decide +kernel
theorem dX3_buyEach_63 : decode cX3_buyEach 63 = .ok (.aload_n 1, 1) := by decide +kernel
theorem dX3_buyEach_64 : decode cX3_buyEach 64 = .ok (.getfield 100, 3) := by decide +kernel
theorem dX3_buyEach_67 : decode cX3_buyEach 67 = .ok (.aload_n 0, 1) := by decide +kernel
theorem dX3_buyEach_68 : decode cX3_buyEach 68 = .ok (.getfield 59, 3) := by decide +kernel
theorem dX3_buyEach_71 : decode cX3_buyEach 71 = .ok (.invokevirtual 152, 3) := by decide +kernel
theorem dX3_buyEach_74 : decode cX3_buyEach 74 = .ok (.aload_n 1, 1) := by decide +kernel
theorem dX3_buyEach_75 : decode cX3_buyEach 75 = .ok (.getfield 114, 3) := by decide +kernel
theorem dX3_buyEach_78 : decode cX3_buyEach 78 = .ok (.iload_n 2, 1) := by decide +kernel
theorem dX3_buyEach_79 : decode cX3_buyEach 79 = .ok (.aload_n 0, 1) := by decide +kernel
theorem dX3_buyEach_80 : decode cX3_buyEach 80 = .ok (.getfield 21, 3) := by decide +kernel
theorem dX3_buyEach_83 : decode cX3_buyEach 83 = .ok (.getfield 156, 3) := by decide +kernel
theorem dX3_buyEach_86 : decode cX3_buyEach 86 = .ok (.iastore, 1) := by decide +kernel
theorem dX3_buyEach_87 : decode cX3_buyEach 87 = .ok (.aload_n 1, 1) := by decide +kernel
theorem dX3_buyEach_88 : decode cX3_buyEach 88 = .ok (.getfield 136, 3) := by decide +kernel
theorem dX3_buyEach_91 : decode cX3_buyEach 91 = .ok (.iload_n 2, 1) := by decide +kernel
theorem dX3_buyEach_92 : decode cX3_buyEach 92 = .ok (.aload_n 0, 1) := by decide +kernel
theorem dX3_buyEach_93 : decode cX3_buyEach 93 = .ok (.getfield 21, 3) := by decide +kernel
theorem dX3_buyEach_96 : decode cX3_buyEach 96 = .ok (.getfield 158, 3) := by decide +kernel
theorem dX3_buyEach_99 : decode cX3_buyEach 99 = .ok (.iastore, 1) := by decide +kernel
theorem dX3_buyEach_100 : decode cX3_buyEach 100 = .ok (.aload_n 1, 1) := by decide +kernel
theorem dX3_buyEach_101 : decode cX3_buyEach 101 = .ok (.getfield 159, 3) := by decide +kernel
theorem dX3_buyEach_104 : decode cX3_buyEach 104 = .ok (.iload_n 2, 1) := by decide +kernel
theorem dX3_buyEach_105 : decode cX3_buyEach 105 = .ok (.aload_n 0, 1) := by decide +kernel
theorem dX3_buyEach_106 : decode cX3_buyEach 106 = .ok (.getfield 21, 3) := by decide +kernel
theorem dX3_buyEach_109 : decode cX3_buyEach 109 = .ok (.getfield 162, 3) := by decide +kernel
theorem dX3_buyEach_112 : decode cX3_buyEach 112 = .ok (.iastore, 1) := by decide +kernel
theorem dX3_buyEach_113 : decode cX3_buyEach 113 = .ok (.aload_n 1, 1) := by decide +kernel
theorem dX3_buyEach_114 : decode cX3_buyEach 114 = .ok (.aload_n 0, 1) := by decide +kernel
theorem dX3_buyEach_115 : decode cX3_buyEach 115 = .ok (.getfield 21, 3) := by decide +kernel
theorem dX3_buyEach_118 : decode cX3_buyEach 118 = .ok (.getfield 156, 3) := by decide +kernel
theorem dX3_buyEach_121 : decode cX3_buyEach 121 = .ok (.ifCond .ne 7, 3) := by decide +kernel
theorem dX3_buyEach_124 : decode cX3_buyEach 124 = .ok (.iload_n 2, 1) := by decide +kernel
theorem dX3_buyEach_125 : decode cX3_buyEach 125 = .ok (.goto 7, 3) := by decide +kernel
theorem dX3_buyEach_128 : decode cX3_buyEach 128 = .ok (.aload_n 1, 1) := by decide +kernel
theorem dX3_buyEach_129 : decode cX3_buyEach 129 = .ok (.getfield 117, 3) := by decide +kernel
theorem dX3_buyEach_132 : decode cX3_buyEach 132 = .ok (.putfield 117, 3) := by decide +kernel
theorem dX3_buyEach_135 : decode cX3_buyEach 135 = .ok (.iinc 2 (-1), 3) := by decide +kernel
theorem dX3_buyEach_138 : decode cX3_buyEach 138 = .ok (.goto (-121), 3) := by decide +kernel
theorem dX3_buyEach_141 : decode cX3_buyEach 141 = .ok (.return_, 1) := by decide +kernel
theorem dX3_stockOf_0 : decode cX3_stockOf 0 = .ok (.aload_n 0, 1) := by decide +kernel
theorem dX3_stockOf_1 : decode cX3_stockOf 1 = .ok (.getfield 12, 3) := by decide +kernel
theorem dX3_stockOf_4 : decode cX3_stockOf 4 = .ok (.aload_n 1, 1) := by decide +kernel
theorem dX3_stockOf_5 : decode cX3_stockOf 5 = .ok (.aload_n 0, 1) := by decide +kernel
theorem dX3_stockOf_6 : decode cX3_stockOf 6 = .ok (.getfield 44, 3) := by decide +kernel
theorem dX3_stockOf_9 : decode cX3_stockOf 9 = .ok (.getfield 163, 3) := by decide +kernel
theorem dX3_stockOf_12 : decode cX3_stockOf 12 = .ok (.aload_n 0, 1) := by decide +kernel
theorem dX3_stockOf_13 : decode cX3_stockOf 13 = .ok (.getfield 25, 3) := by decide +kernel
theorem dX3_stockOf_16 : decode cX3_stockOf 16 = .ok (.aload_n 1, 1) := by decide +kernel
theorem dX3_stockOf_17 : decode cX3_stockOf 17 = .ok (.getfield 75, 3) := by decide +kernel
theorem dX3_stockOf_20 : decode cX3_stockOf 20 = .ok (.iaload, 1) := by decide +kernel
theorem dX3_stockOf_21 : decode cX3_stockOf 21 = .ok (.aload_n 0, 1) := by decide +kernel
theorem dX3_stockOf_22 : decode cX3_stockOf 22 = .ok (.getfield 29, 3) := by decide +kernel
theorem dX3_stockOf_25 : decode cX3_stockOf 25 = .ok (.aload_n 1, 1) := by decide +kernel
theorem dX3_stockOf_26 : decode cX3_stockOf 26 = .ok (.getfield 75, 3) := by decide +kernel
theorem dX3_stockOf_29 : decode cX3_stockOf 29 = .ok (.iaload, 1) := by decide +kernel
theorem dX3_stockOf_30 : decode cX3_stockOf 30 = .ok (.iload_n 2, 1) := by decide +kernel
theorem dX3_stockOf_31 : decode cX3_stockOf 31 = .ok (.invokevirtual 167, 3) := by decide +kernel
theorem dX3_stockOf_34 : decode cX3_stockOf 34 = .ok (.aload_n 0, 1) := by decide +kernel
theorem dX3_stockOf_35 : decode cX3_stockOf 35 = .ok (.getfield 12, 3) := by decide +kernel
theorem dX3_stockOf_38 : decode cX3_stockOf 38 = .ok (.getfield 171, 3) := by decide +kernel
theorem dX3_stockOf_41 : decode cX3_stockOf 41 = .ok (.ireturn, 1) := by decide +kernel
theorem dX3_travel_0 : decode cX3_travel 0 = .ok (.aload_n 0, 1) := by decide +kernel
theorem dX3_travel_1 : decode cX3_travel 1 = .ok (.getfield 50, 3) := by decide +kernel
theorem dX3_travel_4 : decode cX3_travel 4 = .ok (.iload_n 1, 1) := by decide +kernel
theorem dX3_travel_5 : decode cX3_travel 5 = .ok (.aaload, 1) := by decide +kernel
theorem dX3_travel_6 : decode cX3_travel 6 = .ok (.astore 5, 2) := by decide +kernel
theorem dX3_travel_8 : decode cX3_travel 8 = .ok (.aload_n 0, 1) := by decide +kernel
theorem dX3_travel_9 : decode cX3_travel 9 = .ok (.getfield 50, 3) := by decide +kernel
theorem dX3_travel_12 : decode cX3_travel 12 = .ok (.iload_n 1, 1) := by decide +kernel
theorem dX3_travel_13 : decode cX3_travel 13 = .ok (.iconst 1, 1) := by decide +kernel
theorem dX3_travel_14 : decode cX3_travel 14 = .ok (.iadd, 1) := by decide +kernel
theorem dX3_travel_15 : decode cX3_travel 15 = .ok (.aaload, 1) := by decide +kernel
theorem dX3_travel_16 : decode cX3_travel 16 = .ok (.astore 6, 2) := by decide +kernel
theorem dX3_travel_18 : decode cX3_travel 18 = .ok (.aload 5, 2) := by decide +kernel
theorem dX3_travel_20 : decode cX3_travel 20 = .ok (.getfield 136, 3) := by decide +kernel
theorem dX3_travel_23 : decode cX3_travel 23 = .ok (.iload 4, 2) := by decide +kernel
theorem dX3_travel_25 : decode cX3_travel 25 = .ok (.iaload, 1) := by decide +kernel
theorem dX3_travel_26 : decode cX3_travel 26 = .ok (.aload_n 0, 1) := by decide +kernel
theorem dX3_travel_27 : decode cX3_travel 27 = .ok (.getfield 44, 3) := by decide +kernel
theorem dX3_travel_30 : decode cX3_travel 30 = .ok (.getfield 172, 3) := by decide +kernel
theorem dX3_travel_33 : decode cX3_travel 33 = .ok (.iload_n 3, 1) := by decide +kernel
theorem dX3_travel_34 : decode cX3_travel 34 = .ok (.imul, 1) := by decide +kernel
theorem dX3_travel_35 : decode cX3_travel 35 = .ok (.isub, 1) := by decide +kernel
theorem dX3_travel_36 : decode cX3_travel 36 = .ok (.istore 7, 2) := by decide +kernel
theorem dX3_travel_38 : decode cX3_travel 38 = .ok (.iload 7, 2) := by decide +kernel
theorem dX3_travel_40 : decode cX3_travel 40 = .ok (.ifCond .ge 4, 3) := by decide +kernel
theorem dX3_travel_43 : decode cX3_travel 43 = .ok (.return_, 1) := by decide +kernel
theorem dX3_travel_44 : decode cX3_travel 44 = .ok (.aload_n 0, 1) := by decide +kernel
theorem dX3_travel_45 : decode cX3_travel 45 = .ok (.getfield 32, 3) := by decide +kernel
theorem dX3_travel_48 : decode cX3_travel 48 = .ok (.iload_n 1, 1) := by decide +kernel
theorem dX3_travel_49 : decode cX3_travel 49 = .ok (.iload_n 2, 1) := by decide +kernel
theorem dX3_travel_50 : decode cX3_travel 50 = .ok (.iastore, 1) := by decide +kernel
theorem dX3_travel_51 : decode cX3_travel 51 = .ok (.aload_n 0, 1) := by decide +kernel
theorem dX3_travel_52 : decode cX3_travel 52 = .ok (.getfield 35, 3) := by decide +kernel
theorem dX3_travel_55 : decode cX3_travel 55 = .ok (.iload_n 1, 1) := by decide +kernel
theorem dX3_travel_56 : decode cX3_travel 56 = .ok (.iload 4, 2) := by decide +kernel
theorem dX3_travel_58 : decode cX3_travel 58 = .ok (.iastore, 1) := by decide +kernel
theorem dX3_travel_59 : decode cX3_travel 59 = .ok (.aload_n 0, 1) := by decide +kernel
theorem dX3_travel_60 : decode cX3_travel 60 = .ok (.aload 6, 2) := by decide +kernel
theorem dX3_travel_62 : decode cX3_travel 62 = .ok (.iload_n 2, 1) := by decide +kernel
theorem dX3_travel_63 : decode cX3_travel 63 = .ok (.aload 5, 2) := by decide +kernel
theorem dX3_travel_65 : decode cX3_travel 65 = .ok (.getfield 97, 3) := by decide +kernel
theorem dX3_travel_68 : decode cX3_travel 68 = .ok (.iload_n 3, 1) := by decide +kernel
theorem dX3_travel_69 : decode cX3_travel 69 = .ok (.iadd, 1) := by decide +kernel
theorem dX3_travel_70 : decode cX3_travel 70 = .ok (.iload 7, 2) := by decide +kernel
theorem dX3_travel_72 : decode cX3_travel 72 = .ok (.invokevirtual 86, 3) := by decide +kernel
theorem dX3_travel_75 : decode cX3_travel 75 = .ok (.aload 5, 2) := by decide +kernel
theorem dX3_travel_77 : decode cX3_travel 77 = .ok (.getfield 114, 3) := by decide +kernel
theorem dX3_travel_80 : decode cX3_travel 80 = .ok (.iload 4, 2) := by decide +kernel
theorem dX3_travel_82 : decode cX3_travel 82 = .ok (.iaload, 1) := by decide +kernel
theorem dX3_travel_83 : decode cX3_travel 83 = .ok (.ifCond .ne 11, 3) := by decide +kernel
theorem dX3_travel_86 : decode cX3_travel 86 = .ok (.aload_n 0, 1) := by decide +kernel
theorem dX3_travel_87 : decode cX3_travel 87 = .ok (.iload_n 1, 1) := by decide +kernel
theorem dX3_travel_88 : decode cX3_travel 88 = .ok (.iconst 1, 1) := by decide +kernel
theorem dX3_travel_89 : decode cX3_travel 89 = .ok (.iadd, 1) := by decide +kernel
theorem dX3_travel_90 : decode cX3_travel 90 = .ok (.invokevirtual 90, 3) := by decide +kernel
theorem dX3_travel_93 : decode cX3_travel 93 = .ok (.return_, 1) := by decide +kernel
theorem dX3_travel_94 : decode cX3_travel 94 = .ok (.aload_n 0, 1) := by decide +kernel
theorem dX3_travel_95 : decode cX3_travel 95 = .ok (.getfield 44, 3) := by decide +kernel
theorem dX3_travel_98 : decode cX3_travel 98 = .ok (.aload 5, 2) := by decide +kernel
theorem dX3_travel_100 : decode cX3_travel 100 = .ok (.getfield 94, 3) := by decide +kernel
theorem dX3_travel_103 : decode cX3_travel 103 = .ok (.iload 4, 2) := by decide +kernel
theorem dX3_travel_105 : decode cX3_travel 105 = .ok (.invokevirtual 71, 3) := by decide +kernel
theorem dX3_travel_108 : decode cX3_travel 108 = .ok (.astore 8, 2) := by decide +kernel
theorem dX3_travel_110 : decode cX3_travel 110 = .ok (.aload_n 0, 1) := by decide +kernel
theorem dX3_travel_111 : decode cX3_travel 111 = .ok (.getfield 44, 3) := by decide +kernel
theorem dX3_travel_114 : decode cX3_travel 114 = .ok (.aload 6, 2) := by decide +kernel
theorem dX3_travel_116 : decode cX3_travel 116 = .ok (.getfield 94, 3) := by decide +kernel
theorem dX3_travel_119 : decode cX3_travel 119 = .ok (.iload 4, 2) := by decide +kernel
theorem dX3_travel_121 : decode cX3_travel 121 = .ok (.invokevirtual 71, 3) := by decide +kernel
theorem dX3_travel_124 : decode cX3_travel 124 = .ok (.astore 9, 2) := by decide +kernel
theorem dX3_travel_126 : decode cX3_travel 126 = .ok (.aload_n 0, 1) := by decide +kernel
theorem dX3_travel_127 : decode cX3_travel 127 = .ok (.getfield 25, 3) := by decide +kernel
theorem dX3_travel_130 : decode cX3_travel 130 = .ok (.aload 8, 2) := by decide +kernel
theorem dX3_travel_132 : decode cX3_travel 132 = .ok (.getfield 75, 3) := by decide +kernel
theorem dX3_travel_135 : decode cX3_travel 135 = .ok (.iaload, 1) := by decide +kernel
theorem dX3_travel_136 : decode cX3_travel 136 = .ok (.istore 10, 2) := by decide +kernel
theorem dX3_travel_138 : decode cX3_travel 138 = .ok (.aload_n 0, 1) := by decide +kernel
theorem dX3_travel_139 : decode cX3_travel 139 = .ok (.getfield 29, 3) := by decide +kernel
theorem dX3_travel_142 : decode cX3_travel 142 = .ok (.aload 8, 2) := by decide +kernel
theorem dX3_travel_144 : decode cX3_travel 144 = .ok (.getfield 75, 3) := by decide +kernel
theorem dX3_travel_147 : decode cX3_travel 147 = .ok (.iaload, 1) := by decide +kernel
theorem dX3_travel_148 : decode cX3_travel 148 = .ok (.istore 11, 2) := by decide +kernel
theorem dX3_travel_150 : decode cX3_travel 150 = .ok (.aload_n 0, 1) := by decide +kernel
theorem dX3_travel_151 : decode cX3_travel 151 = .ok (.getfield 25, 3) := by decide +kernel
theorem dX3_travel_154 : decode cX3_travel 154 = .ok (.aload 9, 2) := by decide +kernel
theorem dX3_travel_156 : decode cX3_travel 156 = .ok (.getfield 75, 3) := by decide +kernel
theorem dX3_travel_159 : decode cX3_travel 159 = .ok (.iaload, 1) := by decide +kernel
theorem dX3_travel_160 : decode cX3_travel 160 = .ok (.istore 12, 2) := by decide +kernel
theorem dX3_travel_162 : decode cX3_travel 162 = .ok (.aload_n 0, 1) := by decide +kernel
theorem dX3_travel_163 : decode cX3_travel 163 = .ok (.getfield 29, 3) := by decide +kernel
theorem dX3_travel_166 : decode cX3_travel 166 = .ok (.aload 9, 2) := by decide +kernel
theorem dX3_travel_168 : decode cX3_travel 168 = .ok (.getfield 75, 3) := by decide +kernel
theorem dX3_travel_171 : decode cX3_travel 171 = .ok (.iaload, 1) := by decide +kernel
theorem dX3_travel_172 : decode cX3_travel 172 = .ok (.istore 13, 2) := by decide +kernel
theorem dX3_travel_174 : decode cX3_travel 174 = .ok (.aload_n 0, 1) := by decide +kernel
theorem dX3_travel_175 : decode cX3_travel 175 = .ok (.aload 8, 2) := by decide +kernel
theorem dX3_travel_177 : decode cX3_travel 177 = .ok (.aload 5, 2) := by decide +kernel
theorem dX3_travel_179 : decode cX3_travel 179 = .ok (.getfield 159, 3) := by decide +kernel
theorem dX3_travel_182 : decode cX3_travel 182 = .ok (.iload 4, 2) := by decide +kernel
theorem dX3_travel_184 : decode cX3_travel 184 = .ok (.iaload, 1) := by decide +kernel
theorem dX3_travel_185 : decode cX3_travel 185 = .ok (.aload 5, 2) := by decide +kernel
theorem dX3_travel_187 : decode cX3_travel 187 = .ok (.getfield 97, 3) := by decide +kernel
theorem dX3_travel_190 : decode cX3_travel 190 = .ok (.invokevirtual 175, 3) := by decide +kernel
theorem dX3_travel_193 : decode cX3_travel 193 = .ok (.aload_n 0, 1) := by decide +kernel
theorem dX3_travel_194 : decode cX3_travel 194 = .ok (.getfield 21, 3) := by decide +kernel
theorem dX3_travel_197 : decode cX3_travel 197 = .ok (.aload 9, 2) := by decide +kernel
theorem dX3_travel_199 : decode cX3_travel 199 = .ok (.aload_n 0, 1) := by decide +kernel
theorem dX3_travel_200 : decode cX3_travel 200 = .ok (.aload 9, 2) := by decide +kernel
theorem dX3_travel_202 : decode cX3_travel 202 = .ok (.aload 6, 2) := by decide +kernel
theorem dX3_travel_204 : decode cX3_travel 204 = .ok (.getfield 97, 3) := by decide +kernel
theorem dX3_travel_207 : decode cX3_travel 207 = .ok (.invokevirtual 139, 3) := by decide +kernel
theorem dX3_travel_210 : decode cX3_travel 210 = .ok (.aload_n 0, 1) := by decide +kernel
theorem dX3_travel_211 : decode cX3_travel 211 = .ok (.getfield 44, 3) := by decide +kernel
theorem dX3_travel_214 : decode cX3_travel 214 = .ok (.getfield 143, 3) := by decide +kernel
theorem dX3_travel_217 : decode cX3_travel 217 = .ok (.aload 6, 2) := by decide +kernel
theorem dX3_travel_219 : decode cX3_travel 219 = .ok (.getfield 94, 3) := by decide +kernel
theorem dX3_travel_222 : decode cX3_travel 222 = .ok (.aaload, 1) := by decide +kernel
theorem dX3_travel_223 : decode cX3_travel 223 = .ok (.getfield 147, 3) := by decide +kernel
theorem dX3_travel_226 : decode cX3_travel 226 = .ok (.aload 6, 2) := by decide +kernel
theorem dX3_travel_228 : decode cX3_travel 228 = .ok (.getfield 100, 3) := by decide +kernel
theorem dX3_travel_231 : decode cX3_travel 231 = .ok (.aload 5, 2) := by decide +kernel
theorem dX3_travel_233 : decode cX3_travel 233 = .ok (.getfield 114, 3) := by decide +kernel
theorem dX3_travel_236 : decode cX3_travel 236 = .ok (.iload 4, 2) := by decide +kernel
theorem dX3_travel_238 : decode cX3_travel 238 = .ok (.iaload, 1) := by decide +kernel
theorem dX3_travel_239 : decode cX3_travel 239 = .ok (.invokevirtual 179, 3) := by decide +kernel
theorem dX3_travel_242 : decode cX3_travel 242 = .ok (.aload 6, 2) := by decide +kernel
theorem dX3_travel_244 : decode cX3_travel 244 = .ok (.aload_n 0, 1) := by decide +kernel
theorem dX3_travel_245 : decode cX3_travel 245 = .ok (.getfield 21, 3) := by decide +kernel
theorem dX3_travel_248 : decode cX3_travel 248 = .ok (.getfield 158, 3) := by decide +kernel
theorem dX3_travel_251 : decode cX3_travel 251 = .ok (.putfield 100, 3) := by decide +kernel
theorem dX3_travel_254 : decode cX3_travel 254 = .ok (.aload_n 0, 1) := by decide +kernel
theorem dX3_travel_255 : decode cX3_travel 255 = .ok (.aload 9, 2) := by decide +kernel
theorem dX3_travel_257 : decode cX3_travel 257 = .ok (.aload_n 0, 1) := by decide +kernel
theorem dX3_travel_258 : decode cX3_travel 258 = .ok (.getfield 21, 3) := by decide +kernel
theorem dX3_travel_261 : decode cX3_travel 261 = .ok (.getfield 162, 3) := by decide +kernel
theorem dX3_travel_264 : decode cX3_travel 264 = .ok (.aload 6, 2) := by decide +kernel
theorem dX3_travel_266 : decode cX3_travel 266 = .ok (.getfield 97, 3) := by decide +kernel
theorem dX3_travel_269 : decode cX3_travel 269 = .ok (.invokevirtual 175, 3) := by decide +kernel
theorem dX3_travel_272 : decode cX3_travel 272 = .ok (.aload_n 0, 1) := by decide +kernel
theorem dX3_travel_273 : decode cX3_travel 273 = .ok (.iload_n 1, 1) := by decide +kernel
theorem dX3_travel_274 : decode cX3_travel 274 = .ok (.iconst 1, 1) := by decide +kernel
theorem dX3_travel_275 : decode cX3_travel 275 = .ok (.iadd, 1) := by decide +kernel
theorem dX3_travel_276 : decode cX3_travel 276 = .ok (.invokevirtual 90, 3) := by decide +kernel
theorem dX3_travel_279 : decode cX3_travel 279 = .ok (.aload_n 0, 1) := by decide +kernel
theorem dX3_travel_280 : decode cX3_travel 280 = .ok (.aload 8, 2) := by decide +kernel
theorem dX3_travel_282 : decode cX3_travel 282 = .ok (.iload 10, 2) := by decide +kernel
theorem dX3_travel_284 : decode cX3_travel 284 = .ok (.iload 11, 2) := by decide +kernel
theorem dX3_travel_286 : decode cX3_travel 286 = .ok (.invokevirtual 175, 3) := by decide +kernel
theorem dX3_travel_289 : decode cX3_travel 289 = .ok (.aload_n 0, 1) := by decide +kernel
theorem dX3_travel_290 : decode cX3_travel 290 = .ok (.aload 9, 2) := by decide +kernel
theorem dX3_travel_292 : decode cX3_travel 292 = .ok (.iload 12, 2) := by decide +kernel
theorem dX3_travel_294 : decode cX3_travel 294 = .ok (.iload 13, 2) := by decide +kernel
theorem dX3_travel_296 : decode cX3_travel 296 = .ok (.invokevirtual 175, 3) := by decide +kernel
theorem dX3_travel_299 : decode cX3_travel 299 = .ok (.return_, 1) := by decide +kernel
theorem dX3_leave_0 : decode cX3_leave 0 = .ok (.aload_n 0, 1) := by decide +kernel
theorem dX3_leave_1 : decode cX3_leave 1 = .ok (.getfield 25, 3) := by decide +kernel
theorem dX3_leave_4 : decode cX3_leave 4 = .ok (.aload_n 1, 1) := by decide +kernel
theorem dX3_leave_5 : decode cX3_leave 5 = .ok (.getfield 75, 3) := by decide +kernel
theorem dX3_leave_8 : decode cX3_leave 8 = .ok (.iload_n 2, 1) := by decide +kernel
theorem dX3_leave_9 : decode cX3_leave 9 = .ok (.iastore, 1) := by decide +kernel
theorem dX3_leave_10 : decode cX3_leave 10 = .ok (.aload_n 0, 1) := by decide +kernel
theorem dX3_leave_11 : decode cX3_leave 11 = .ok (.getfield 29, 3) := by decide +kernel
theorem dX3_leave_14 : decode cX3_leave 14 = .ok (.aload_n 1, 1) := by decide +kernel
theorem dX3_leave_15 : decode cX3_leave 15 = .ok (.getfield 75, 3) := by decide +kernel
theorem dX3_leave_18 : decode cX3_leave 18 = .ok (.iload_n 3, 1) := by decide +kernel
theorem dX3_leave_19 : decode cX3_leave 19 = .ok (.iastore, 1) := by decide +kernel
theorem dX3_leave_20 : decode cX3_leave 20 = .ok (.return_, 1) := by decide +kernel
theorem dX4_init_0 : decode cX4_init 0 = .ok (.aload_n 0, 1) := by decide +kernel
theorem dX4_init_1 : decode cX4_init 1 = .ok (.invokespecial 3, 3) := by decide +kernel
theorem dX4_init_4 : decode cX4_init 4 = .ok (.aload_n 0, 1) := by decide +kernel
theorem dX4_init_5 : decode cX4_init 5 = .ok (.iconst 3, 1) := by decide +kernel
theorem dX4_init_6 : decode cX4_init 6 = .ok (.anewarray 9, 3) := by decide +kernel
theorem dX4_init_9 : decode cX4_init 9 = .ok (.putfield 11, 3) := by decide +kernel
theorem dX4_init_12 : decode cX4_init 12 = .ok (.iconst 0, 1) := by decide +kernel
theorem dX4_init_13 : decode cX4_init 13 = .ok (.istore_n 2, 1) := by decide +kernel
theorem dX4_init_14 : decode cX4_init 14 = .ok (.iload_n 2, 1) := by decide +kernel
theorem dX4_init_15 : decode cX4_init 15 = .ok (.iconst 3, 1) := by decide +kernel
theorem dX4_init_16 : decode cX4_init 16 = .ok (.if_icmp .ge 27, 3) := by decide +kernel
theorem dX4_init_19 : decode cX4_init 19 = .ok (.aload_n 0, 1) := by decide +kernel
theorem dX4_init_20 : decode cX4_init 20 = .ok (.getfield 11, 3) := by decide +kernel
theorem dX4_init_23 : decode cX4_init 23 = .ok (.iload_n 2, 1) := by decide +kernel
theorem dX4_init_24 : decode cX4_init 24 = .ok (.new 9, 3) := by decide +kernel
theorem dX4_init_27 : decode cX4_init 27 = .ok (.dup, 1) := by decide +kernel
theorem dX4_init_28 : decode cX4_init 28 = .ok (.iload_n 1, 1) := by decide +kernel
theorem dX4_init_29 : decode cX4_init 29 = .ok (.iconst 3, 1) := by decide +kernel
theorem dX4_init_30 : decode cX4_init 30 = .ok (.imul, 1) := by decide +kernel
theorem dX4_init_31 : decode cX4_init 31 = .ok (.iload_n 2, 1) := by decide +kernel
theorem dX4_init_32 : decode cX4_init 32 = .ok (.iadd, 1) := by decide +kernel
theorem dX4_init_33 : decode cX4_init 33 = .ok (.invokespecial 17, 3) := by decide +kernel
theorem dX4_init_36 : decode cX4_init 36 = .ok (.aastore, 1) := by decide +kernel
theorem dX4_init_37 : decode cX4_init 37 = .ok (.iinc 2 1, 3) := by decide +kernel
theorem dX4_init_40 : decode cX4_init 40 = .ok (.goto (-26), 3) := by decide +kernel
theorem dX4_init_43 : decode cX4_init 43 = .ok (.return_, 1) := by decide +kernel
theorem dX4_hungerOfAll_0 : decode cX4_hungerOfAll 0 = .ok (.iconst 0, 1) := by decide +kernel
theorem dX4_hungerOfAll_1 : decode cX4_hungerOfAll 1 = .ok (.istore_n 1, 1) := by decide +kernel
theorem dX4_hungerOfAll_2 : decode cX4_hungerOfAll 2 = .ok (.iconst 0, 1) := by decide +kernel
theorem dX4_hungerOfAll_3 : decode cX4_hungerOfAll 3 = .ok (.istore_n 2, 1) := by decide +kernel
theorem dX4_hungerOfAll_4 : decode cX4_hungerOfAll 4 = .ok (.iload_n 2, 1) := by decide +kernel
theorem dX4_hungerOfAll_5 : decode cX4_hungerOfAll 5 = .ok (.iconst 3, 1) := by decide +kernel
theorem dX4_hungerOfAll_6 : decode cX4_hungerOfAll 6 = .ok (.if_icmp .ge 21, 3) := by decide +kernel
theorem dX4_hungerOfAll_9 : decode cX4_hungerOfAll 9 = .ok (.iload_n 1, 1) := by decide +kernel
theorem dX4_hungerOfAll_10 : decode cX4_hungerOfAll 10 = .ok (.aload_n 0, 1) := by decide +kernel
theorem dX4_hungerOfAll_11 : decode cX4_hungerOfAll 11 = .ok (.getfield 11, 3) := by decide +kernel
theorem dX4_hungerOfAll_14 : decode cX4_hungerOfAll 14 = .ok (.iload_n 2, 1) := by decide +kernel
theorem dX4_hungerOfAll_15 : decode cX4_hungerOfAll 15 = .ok (.aaload, 1) := by decide +kernel
theorem dX4_hungerOfAll_16 : decode cX4_hungerOfAll 16 = .ok (.getfield 20, 3) := by decide +kernel
theorem dX4_hungerOfAll_19 : decode cX4_hungerOfAll 19 = .ok (.iadd, 1) := by decide +kernel
theorem dX4_hungerOfAll_20 : decode cX4_hungerOfAll 20 = .ok (.istore_n 1, 1) := by decide +kernel
theorem dX4_hungerOfAll_21 : decode cX4_hungerOfAll 21 = .ok (.iinc 2 1, 3) := by decide +kernel
theorem dX4_hungerOfAll_24 : decode cX4_hungerOfAll 24 = .ok (.goto (-20), 3) := by decide +kernel
theorem dX4_hungerOfAll_27 : decode cX4_hungerOfAll 27 = .ok (.iload_n 1, 1) := by decide +kernel
theorem dX4_hungerOfAll_28 : decode cX4_hungerOfAll 28 = .ok (.ireturn, 1) := by decide +kernel
theorem dX5_init_0 : decode cX5_init 0 = .ok (.aload_n 0, 1) := by decide +kernel
theorem dX5_init_1 : decode cX5_init 1 = .ok (.invokespecial 3, 3) := by decide +kernel
theorem dX5_init_4 : decode cX5_init 4 = .ok (.aload_n 0, 1) := by decide +kernel
theorem dX5_init_5 : decode cX5_init 5 = .ok (.bipush 6, 2) := by decide +kernel
theorem dX5_init_7 : decode cX5_init 7 = .ok (.bipush 6, 2) := by decide +kernel
theorem dX5_init_9 : decode cX5_init 9 = .ok (.multianewarray 9 2, 4) := by decide +kernel
theorem dX5_init_13 : decode cX5_init 13 = .ok (.putfield 11, 3) := by decide +kernel
theorem dX5_init_16 : decode cX5_init 16 = .ok (.aload_n 0, 1) := by decide +kernel
theorem dX5_init_17 : decode cX5_init 17 = .ok (.bipush 6, 2) := by decide +kernel
theorem dX5_init_19 : decode cX5_init 19 = .ok (.newarray .int, 2) := by decide +kernel
theorem dX5_init_21 : decode cX5_init 21 = .ok (.putfield 16, 3) := by decide +kernel
theorem dX5_init_24 : decode cX5_init 24 = .ok (.aload_n 0, 1) := by decide +kernel
theorem dX5_init_25 : decode cX5_init 25 = .ok (.bipush 6, 2) := by decide +kernel
theorem dX5_init_27 : decode cX5_init 27 = .ok (.newarray .int, 2) := by decide +kernel
theorem dX5_init_29 : decode cX5_init 29 = .ok (.putfield 20, 3) := by decide +kernel
theorem dX5_init_32 : decode cX5_init 32 = .ok (.aload_n 0, 1) := by decide +kernel
theorem dX5_init_33 : decode cX5_init 33 = .ok (.aload_n 1, 1) := by decide +kernel
theorem dX5_init_34 : decode cX5_init 34 = .ok (.putfield 23, 3) := by decide +kernel
theorem dX5_init_37 : decode cX5_init 37 = .ok (.return_, 1) := by decide +kernel
theorem dX5_seek_0 : decode cX5_seek 0 = .ok (.aload_n 0, 1) := by decide +kernel
theorem dX5_seek_1 : decode cX5_seek 1 = .ok (.iconst 0, 1) := by decide +kernel
theorem dX5_seek_2 : decode cX5_seek 2 = .ok (.putfield 27, 3) := by decide +kernel
theorem dX5_seek_5 : decode cX5_seek 5 = .ok (.aload_n 0, 1) := by decide +kernel
theorem dX5_seek_6 : decode cX5_seek 6 = .ok (.iload_n 1, 1) := by decide +kernel
theorem dX5_seek_7 : decode cX5_seek 7 = .ok (.invokevirtual 31, 3) := by decide +kernel
theorem dX5_seek_10 : decode cX5_seek 10 = .ok (.iconst 0, 1) := by decide +kernel
theorem dX5_seek_11 : decode cX5_seek 11 = .ok (.istore_n 2, 1) := by decide +kernel
theorem dX5_seek_12 : decode cX5_seek 12 = .ok (.iload_n 2, 1) := by decide +kernel
theorem dX5_seek_13 : decode cX5_seek 13 = .ok (.aload_n 0, 1) := by decide +kernel
theorem dX5_seek_14 : decode cX5_seek 14 = .ok (.getfield 23, 3) := by decide +kernel
theorem dX5_seek_17 : decode cX5_seek 17 = .ok (.getfield 35, 3) := by decide +kernel
theorem dX5_seek_20 : decode cX5_seek 20 = .ok (.if_icmp .ge 23, 3) := by decide +kernel
theorem dX5_seek_23 : decode cX5_seek 23 = .ok (.aload_n 0, 1) := by decide +kernel
theorem dX5_seek_24 : decode cX5_seek 24 = .ok (.getfield 16, 3) := by decide +kernel
theorem dX5_seek_27 : decode cX5_seek 27 = .ok (.iconst 0, 1) := by decide +kernel
theorem dX5_seek_28 : decode cX5_seek 28 = .ok (.iload_n 2, 1) := by decide +kernel
theorem dX5_seek_29 : decode cX5_seek 29 = .ok (.iastore, 1) := by decide +kernel
theorem dX5_seek_30 : decode cX5_seek 30 = .ok (.aload_n 0, 1) := by decide +kernel
theorem dX5_seek_31 : decode cX5_seek 31 = .ok (.iconst 1, 1) := by decide +kernel
theorem dX5_seek_32 : decode cX5_seek 32 = .ok (.iconst 0, 1) := by decide +kernel
theorem dX5_seek_33 : decode cX5_seek 33 = .ok (.iconst 0, 1) := by decide +kernel
theorem dX5_seek_34 : decode cX5_seek 34 = .ok (.invokevirtual 40, 3) := by decide +kernel
theorem dX5_seek_37 : decode cX5_seek 37 = .ok (.iinc 2 1, 3) := by decide +kernel
theorem dX5_seek_40 : decode cX5_seek 40 = .ok (.goto (-28), 3) := by decide +kernel
theorem dX5_seek_43 : decode cX5_seek 43 = .ok (.return_, 1) := by decide +kernel
theorem dX5_fillLegGains_0 : decode cX5_fillLegGains 0 = .ok (.iconst 0, 1) := by decide +kernel
theorem dX5_fillLegGains_1 : decode cX5_fillLegGains 1 = .ok (.istore_n 2, 1) := by decide +kernel
theorem dX5_fillLegGains_2 : decode cX5_fillLegGains 2 = .ok (.iload_n 2, 1) := by decide +kernel
theorem dX5_fillLegGains_3 : decode cX5_fillLegGains 3 = .ok (.aload_n 0, 1) := by decide +kernel
theorem dX5_fillLegGains_4 : decode cX5_fillLegGains 4 = .ok (.getfield 23, 3) := by decide +kernel
theorem dX5_fillLegGains_7 : decode cX5_fillLegGains 7 = .ok (.getfield 35, 3) := by decide +kernel
theorem dX5_fillLegGains_10 : decode cX5_fillLegGains 10 = .ok (.if_icmp .ge 64, 3) := by decide +kernel
theorem dX5_fillLegGains_13 : decode cX5_fillLegGains 13 = .ok (.iconst 0, 1) := by decide +kernel
theorem dX5_fillLegGains_14 : decode cX5_fillLegGains 14 = .ok (.istore_n 3, 1) := by decide +kernel
theorem dX5_fillLegGains_15 : decode cX5_fillLegGains 15 = .ok (.iload_n 3, 1) := by decide +kernel
theorem dX5_fillLegGains_16 : decode cX5_fillLegGains 16 = .ok (.aload_n 0, 1) := by decide +kernel
theorem dX5_fillLegGains_17 : decode cX5_fillLegGains 17 = .ok (.getfield 23, 3) := by decide +kernel
theorem dX5_fillLegGains_20 : decode cX5_fillLegGains 20 = .ok (.getfield 35, 3) := by decide +kernel
theorem dX5_fillLegGains_23 : decode cX5_fillLegGains 23 = .ok (.if_icmp .ge 45, 3) := by decide +kernel
theorem dX5_fillLegGains_26 : decode cX5_fillLegGains 26 = .ok (.aload_n 0, 1) := by decide +kernel
theorem dX5_fillLegGains_27 : decode cX5_fillLegGains 27 = .ok (.getfield 11, 3) := by decide +kernel
theorem dX5_fillLegGains_30 : decode cX5_fillLegGains 30 = .ok (.iload_n 2, 1) := by decide +kernel
theorem dX5_fillLegGains_31 : decode cX5_fillLegGains 31 = .ok (.aaload, 1) := by decide +kernel
theorem dX5_fillLegGains_32 : decode cX5_fillLegGains 32 = .ok (.iload_n 3, 1) := by decide +kernel
theorem dX5_fillLegGains_33 : decode cX5_fillLegGains 33 = .ok (.iload_n 1, 1) := by decide +kernel
theorem dX5_fillLegGains_34 : decode cX5_fillLegGains 34 = .ok (.aload_n 0, 1) := by decide +kernel
theorem dX5_fillLegGains_35 : decode cX5_fillLegGains 35 = .ok (.iload_n 2, 1) := by decide +kernel
theorem dX5_fillLegGains_36 : decode cX5_fillLegGains 36 = .ok (.iload_n 3, 1) := by decide +kernel
theorem dX5_fillLegGains_37 : decode cX5_fillLegGains 37 = .ok (.invokevirtual 44, 3) := by decide +kernel
theorem dX5_fillLegGains_40 : decode cX5_fillLegGains 40 = .ok (.imul, 1) := by decide +kernel
theorem dX5_fillLegGains_41 : decode cX5_fillLegGains 41 = .ok (.aload_n 0, 1) := by decide +kernel
theorem dX5_fillLegGains_42 : decode cX5_fillLegGains 42 = .ok (.getfield 23, 3) := by decide +kernel
theorem dX5_fillLegGains_45 : decode cX5_fillLegGains 45 = .ok (.getfield 48, 3) := by decide +kernel
theorem dX5_fillLegGains_48 : decode cX5_fillLegGains 48 = .ok (.aload_n 0, 1) := by decide +kernel
theorem dX5_fillLegGains_49 : decode cX5_fillLegGains 49 = .ok (.getfield 23, 3) := by decide +kernel
theorem dX5_fillLegGains_52 : decode cX5_fillLegGains 52 = .ok (.getfield 51, 3) := by decide +kernel
theorem dX5_fillLegGains_55 : decode cX5_fillLegGains 55 = .ok (.iload_n 2, 1) := by decide +kernel
theorem dX5_fillLegGains_56 : decode cX5_fillLegGains 56 = .ok (.aaload, 1) := by decide +kernel
theorem dX5_fillLegGains_57 : decode cX5_fillLegGains 57 = .ok (.iload_n 3, 1) := by decide +kernel
theorem dX5_fillLegGains_58 : decode cX5_fillLegGains 58 = .ok (.iaload, 1) := by decide +kernel
theorem dX5_fillLegGains_59 : decode cX5_fillLegGains 59 = .ok (.imul, 1) := by decide +kernel
theorem dX5_fillLegGains_60 : decode cX5_fillLegGains 60 = .ok (.isub, 1) := by decide +kernel
theorem dX5_fillLegGains_61 : decode cX5_fillLegGains 61 = .ok (.iastore, 1) := by decide +kernel
theorem dX5_fillLegGains_62 : decode cX5_fillLegGains 62 = .ok (.iinc 3 1, 3) := by decide +kernel
theorem dX5_fillLegGains_65 : decode cX5_fillLegGains 65 = .ok (.goto (-50), 3) := by decide +kernel
theorem dX5_fillLegGains_68 : decode cX5_fillLegGains 68 = .ok (.iinc 2 1, 3) := by decide +kernel
theorem dX5_fillLegGains_71 : decode cX5_fillLegGains 71 = .ok (.goto (-69), 3) := by decide +kernel
theorem dX5_fillLegGains_74 : decode cX5_fillLegGains 74 = .ok (.return_, 1) := by decide +kernel
theorem dX5_gainOfUnit_0 : decode cX5_gainOfUnit 0 = .ok (.aload_n 0, 1) := by decide +kernel
theorem dX5_gainOfUnit_1 : decode cX5_gainOfUnit 1 = .ok (.getfield 23, 3) := by decide +kernel
theorem dX5_gainOfUnit_4 : decode cX5_gainOfUnit 4 = .ok (.getfield 54, 3) := by decide +kernel
theorem dX5_gainOfUnit_7 : decode cX5_gainOfUnit 7 = .ok (.iload_n 1, 1) := by decide +kernel
theorem dX5_gainOfUnit_8 : decode cX5_gainOfUnit 8 = .ok (.aaload, 1) := by decide +kernel
theorem dX5_gainOfUnit_9 : decode cX5_gainOfUnit 9 = .ok (.getfield 58, 3) := by decide +kernel
theorem dX5_gainOfUnit_12 : decode cX5_gainOfUnit 12 = .ok (.aload_n 0, 1) := by decide +kernel
theorem dX5_gainOfUnit_13 : decode cX5_gainOfUnit 13 = .ok (.getfield 23, 3) := by decide +kernel
theorem dX5_gainOfUnit_16 : decode cX5_gainOfUnit 16 = .ok (.getfield 54, 3) := by decide +kernel
theorem dX5_gainOfUnit_19 : decode cX5_gainOfUnit 19 = .ok (.iload_n 2, 1) := by decide +kernel
theorem dX5_gainOfUnit_20 : decode cX5_gainOfUnit 20 = .ok (.aaload, 1) := by decide +kernel
theorem dX5_gainOfUnit_21 : decode cX5_gainOfUnit 21 = .ok (.getfield 58, 3) := by decide +kernel
theorem dX5_gainOfUnit_24 : decode cX5_gainOfUnit 24 = .ok (.iadd, 1) := by decide +kernel
theorem dX5_gainOfUnit_25 : decode cX5_gainOfUnit 25 = .ok (.istore_n 3, 1) := by decide +kernel
theorem dX5_gainOfUnit_26 : decode cX5_gainOfUnit 26 = .ok (.iconst 0, 1) := by decide +kernel
theorem dX5_gainOfUnit_27 : decode cX5_gainOfUnit 27 = .ok (.istore 4, 2) := by decide +kernel
theorem dX5_gainOfUnit_29 : decode cX5_gainOfUnit 29 = .ok (.iconst 0, 1) := by decide +kernel
theorem dX5_gainOfUnit_30 : decode cX5_gainOfUnit 30 = .ok (.istore 5, 2) := by decide +kernel
theorem dX5_gainOfUnit_32 : decode cX5_gainOfUnit 32 = .ok (.iload 5, 2) := by decide +kernel
theorem dX5_gainOfUnit_34 : decode cX5_gainOfUnit 34 = .ok (.iconst 3, 1) := by decide +kernel
theorem dX5_gainOfUnit_35 : decode cX5_gainOfUnit 35 = .ok (.if_icmp .ge 55, 3) := by decide +kernel
theorem dX5_gainOfUnit_38 : decode cX5_gainOfUnit 38 = .ok (.aload_n 0, 1) := by decide +kernel
theorem dX5_gainOfUnit_39 : decode cX5_gainOfUnit 39 = .ok (.getfield 23, 3) := by decide +kernel
theorem dX5_gainOfUnit_42 : decode cX5_gainOfUnit 42 = .ok (.iload_n 1, 1) := by decide +kernel
theorem dX5_gainOfUnit_43 : decode cX5_gainOfUnit 43 = .ok (.iload 5, 2) := by decide +kernel
theorem dX5_gainOfUnit_45 : decode cX5_gainOfUnit 45 = .ok (.invokevirtual 63, 3) := by decide +kernel
theorem dX5_gainOfUnit_48 : decode cX5_gainOfUnit 48 = .ok (.iconst 5, 1) := by decide +kernel
theorem dX5_gainOfUnit_49 : decode cX5_gainOfUnit 49 = .ok (.invokevirtual 67, 3) := by decide +kernel
theorem dX5_gainOfUnit_52 : decode cX5_gainOfUnit 52 = .ok (.istore 6, 2) := by decide +kernel
theorem dX5_gainOfUnit_54 : decode cX5_gainOfUnit 54 = .ok (.aload_n 0, 1) := by decide +kernel
theorem dX5_gainOfUnit_55 : decode cX5_gainOfUnit 55 = .ok (.getfield 23, 3) := by decide +kernel
theorem dX5_gainOfUnit_58 : decode cX5_gainOfUnit 58 = .ok (.iload_n 2, 1) := by decide +kernel
theorem dX5_gainOfUnit_59 : decode cX5_gainOfUnit 59 = .ok (.iload 5, 2) := by decide +kernel
theorem dX5_gainOfUnit_61 : decode cX5_gainOfUnit 61 = .ok (.invokevirtual 63, 3) := by decide +kernel
theorem dX5_gainOfUnit_64 : decode cX5_gainOfUnit 64 = .ok (.iconst 5, 1) := by decide +kernel
theorem dX5_gainOfUnit_65 : decode cX5_gainOfUnit 65 = .ok (.invokevirtual 67, 3) := by decide +kernel
theorem dX5_gainOfUnit_68 : decode cX5_gainOfUnit 68 = .ok (.istore 7, 2) := by decide +kernel
theorem dX5_gainOfUnit_70 : decode cX5_gainOfUnit 70 = .ok (.iload 4, 2) := by decide +kernel
theorem dX5_gainOfUnit_72 : decode cX5_gainOfUnit 72 = .ok (.iload 7, 2) := by decide +kernel
theorem dX5_gainOfUnit_74 : decode cX5_gainOfUnit 74 = .ok (.iload 6, 2) := by decide +kernel
theorem dX5_gainOfUnit_76 : decode cX5_gainOfUnit 76 = .ok (.isub, 1) := by decide +kernel
theorem dX5_gainOfUnit_77 : decode cX5_gainOfUnit 77 = .ok (.iload_n 3, 1) := by decide +kernel
theorem dX5_gainOfUnit_78 : decode cX5_gainOfUnit 78 = .ok (.isub, 1) := by decide +kernel
theorem dX5_gainOfUnit_79 : decode cX5_gainOfUnit 79 = .ok (.invokestatic 73, 3) := by decide +kernel
theorem dX5_gainOfUnit_82 : decode cX5_gainOfUnit 82 = .ok (.istore 4, 2) := by decide +kernel
theorem dX5_gainOfUnit_84 : decode cX5_gainOfUnit 84 = .ok (.iinc 5 1, 3) := by decide +kernel
theorem dX5_gainOfUnit_87 : decode cX5_gainOfUnit 87 = .ok (.goto (-55), 3) := by decide +kernel
theorem dX5_gainOfUnit_90 : decode cX5_gainOfUnit 90 = .ok (.iload 4, 2) := by decide +kernel
theorem dX5_gainOfUnit_92 : decode cX5_gainOfUnit 92 = .ok (.ireturn, 1) := by decide +kernel
theorem dX5_extend_0 : decode cX5_extend 0 = .ok (.aload_n 0, 1) := by decide +kernel
theorem dX5_extend_1 : decode cX5_extend 1 = .ok (.getfield 16, 3) := by decide +kernel
theorem dX5_extend_4 : decode cX5_extend 4 = .ok (.iload_n 1, 1) := by decide +kernel
theorem dX5_extend_5 : decode cX5_extend 5 = .ok (.iconst 1, 1) := by decide +kernel
theorem dX5_extend_6 : decode cX5_extend 6 = .ok (.isub, 1) := by decide +kernel
theorem dX5_extend_7 : decode cX5_extend 7 = .ok (.iaload, 1) := by decide +kernel
theorem dX5_extend_8 : decode cX5_extend 8 = .ok (.istore 4, 2) := by decide +kernel
theorem dX5_extend_10 : decode cX5_extend 10 = .ok (.aload_n 0, 1) := by decide +kernel
theorem dX5_extend_11 : decode cX5_extend 11 = .ok (.getfield 23, 3) := by decide +kernel
theorem dX5_extend_14 : decode cX5_extend 14 = .ok (.iload 4, 2) := by decide +kernel
theorem dX5_extend_16 : decode cX5_extend 16 = .ok (.aload_n 0, 1) := by decide +kernel
theorem dX5_extend_17 : decode cX5_extend 17 = .ok (.getfield 16, 3) := by decide +kernel
theorem dX5_extend_20 : decode cX5_extend 20 = .ok (.iconst 0, 1) := by decide +kernel
theorem dX5_extend_21 : decode cX5_extend 21 = .ok (.iaload, 1) := by decide +kernel
theorem dX5_extend_22 : decode cX5_extend 22 = .ok (.invokevirtual 78, 3) := by decide +kernel
theorem dX5_extend_25 : decode cX5_extend 25 = .ok (.istore 5, 2) := by decide +kernel
theorem dX5_extend_27 : decode cX5_extend 27 = .ok (.iload_n 1, 1) := by decide +kernel
theorem dX5_extend_28 : decode cX5_extend 28 = .ok (.iconst 2, 1) := by decide +kernel
theorem dX5_extend_29 : decode cX5_extend 29 = .ok (.if_icmp .lt 33, 3) := by decide +kernel
theorem dX5_extend_32 : decode cX5_extend 32 = .ok (.iload 5, 2) := by decide +kernel
theorem dX5_extend_34 : decode cX5_extend 34 = .ok (.ifCond .le 28, 3) := by decide +kernel
theorem dX5_extend_37 : decode cX5_extend 37 = .ok (.aload_n 0, 1) := by decide +kernel
theorem dX5_extend_38 : decode cX5_extend 38 = .ok (.iload_n 1, 1) := by decide +kernel
theorem dX5_extend_39 : decode cX5_extend 39 = .ok (.iload_n 2, 1) := by decide +kernel
theorem dX5_extend_40 : decode cX5_extend 40 = .ok (.aload_n 0, 1) := by decide +kernel
theorem dX5_extend_41 : decode cX5_extend 41 = .ok (.getfield 11, 3) := by decide +kernel
theorem dX5_extend_44 : decode cX5_extend 44 = .ok (.iload 4, 2) := by decide +kernel
theorem dX5_extend_46 : decode cX5_extend 46 = .ok (.aaload, 1) := by decide +kernel
theorem dX5_extend_47 : decode cX5_extend 47 = .ok (.aload_n 0, 1) := by decide +kernel
theorem dX5_extend_48 : decode cX5_extend 48 = .ok (.getfield 16, 3) := by decide +kernel
theorem dX5_extend_51 : decode cX5_extend 51 = .ok (.iconst 0, 1) := by decide +kernel
theorem dX5_extend_52 : decode cX5_extend 52 = .ok (.iaload, 1) := by decide +kernel
theorem dX5_extend_53 : decode cX5_extend 53 = .ok (.iaload, 1) := by decide +kernel
theorem dX5_extend_54 : decode cX5_extend 54 = .ok (.iadd, 1) := by decide +kernel
theorem dX5_extend_55 : decode cX5_extend 55 = .ok (.iload_n 3, 1) := by decide +kernel
theorem dX5_extend_56 : decode cX5_extend 56 = .ok (.iload 5, 2) := by decide +kernel
theorem dX5_extend_58 : decode cX5_extend 58 = .ok (.iadd, 1) := by decide +kernel
theorem dX5_extend_59 : decode cX5_extend 59 = .ok (.invokevirtual 81, 3) := by decide +kernel
theorem dX5_extend_62 : decode cX5_extend 62 = .ok (.iload_n 1, 1) := by decide +kernel
theorem dX5_extend_63 : decode cX5_extend 63 = .ok (.bipush 6, 2) := by decide +kernel
theorem dX5_extend_65 : decode cX5_extend 65 = .ok (.if_icmp .lt 4, 3) := by decide +kernel
theorem dX5_extend_68 : decode cX5_extend 68 = .ok (.return_, 1) := by decide +kernel
theorem dX5_extend_69 : decode cX5_extend 69 = .ok (.aload_n 0, 1) := by decide +kernel
theorem dX5_extend_70 : decode cX5_extend 70 = .ok (.getfield 16, 3) := by decide +kernel
theorem dX5_extend_73 : decode cX5_extend 73 = .ok (.iconst 0, 1) := by decide +kernel
theorem dX5_extend_74 : decode cX5_extend 74 = .ok (.iaload, 1) := by decide +kernel
theorem dX5_extend_75 : decode cX5_extend 75 = .ok (.iconst 1, 1) := by decide +kernel
theorem dX5_extend_76 : decode cX5_extend 76 = .ok (.iadd, 1) := by decide +kernel
theorem dX5_extend_77 : decode cX5_extend 77 = .ok (.istore 6, 2) := by decide +kernel
theorem dX5_extend_79 : decode cX5_extend 79 = .ok (.iload 6, 2) := by decide +kernel
theorem dX5_extend_81 : decode cX5_extend 81 = .ok (.aload_n 0, 1) := by decide +kernel
theorem dX5_extend_82 : decode cX5_extend 82 = .ok (.getfield 23, 3) := by decide +kernel
theorem dX5_extend_85 : decode cX5_extend 85 = .ok (.getfield 35, 3) := by decide +kernel
theorem dX5_extend_88 : decode cX5_extend 88 = .ok (.if_icmp .ge 68, 3) := by decide +kernel
theorem dX5_extend_91 : decode cX5_extend 91 = .ok (.aload_n 0, 1) := by decide +kernel
theorem dX5_extend_92 : decode cX5_extend 92 = .ok (.getfield 23, 3) := by decide +kernel
theorem dX5_extend_95 : decode cX5_extend 95 = .ok (.iload 4, 2) := by decide +kernel
theorem dX5_extend_97 : decode cX5_extend 97 = .ok (.iload 6, 2) := by decide +kernel
theorem dX5_extend_99 : decode cX5_extend 99 = .ok (.invokevirtual 78, 3) := by decide +kernel
theorem dX5_extend_102 : decode cX5_extend 102 = .ok (.istore 7, 2) := by decide +kernel
theorem dX5_extend_104 : decode cX5_extend 104 = .ok (.iload 7, 2) := by decide +kernel
theorem dX5_extend_106 : decode cX5_extend 106 = .ok (.ifCond .le 44, 3) := by decide +kernel
theorem dX5_extend_109 : decode cX5_extend 109 = .ok (.aload_n 0, 1) := by decide +kernel
theorem dX5_extend_110 : decode cX5_extend 110 = .ok (.iload 6, 2) := by decide +kernel
theorem dX5_extend_112 : decode cX5_extend 112 = .ok (.iload_n 1, 1) := by decide +kernel
theorem dX5_extend_113 : decode cX5_extend 113 = .ok (.invokevirtual 84, 3) := by decide +kernel
theorem dX5_extend_116 : decode cX5_extend 116 = .ok (.ifCond .ne 34, 3) := by decide +kernel
theorem dX5_extend_119 : decode cX5_extend 119 = .ok (.aload_n 0, 1) := by decide +kernel
theorem dX5_extend_120 : decode cX5_extend 120 = .ok (.getfield 16, 3) := by decide +kernel
theorem dX5_extend_123 : decode cX5_extend 123 = .ok (.iload_n 1, 1) := by decide +kernel
theorem dX5_extend_124 : decode cX5_extend 124 = .ok (.iload 6, 2) := by decide +kernel
theorem dX5_extend_126 : decode cX5_extend 126 = .ok (.iastore, 1) := by decide +kernel
theorem dX5_extend_127 : decode cX5_extend 127 = .ok (.aload_n 0, 1) := by decide +kernel
theorem dX5_extend_128 : decode cX5_extend 128 = .ok (.iload_n 1, 1) := by decide +kernel
theorem dX5_extend_129 : decode cX5_extend 129 = .ok (.iconst 1, 1) := by decide +kernel
theorem dX5_extend_130 : decode cX5_extend 130 = .ok (.iadd, 1) := by decide +kernel
theorem dX5_extend_131 : decode cX5_extend 131 = .ok (.iload_n 2, 1) := by decide +kernel
theorem dX5_extend_132 : decode cX5_extend 132 = .ok (.aload_n 0, 1) := by decide +kernel
theorem dX5_extend_133 : decode cX5_extend 133 = .ok (.getfield 11, 3) := by decide +kernel
theorem dX5_extend_136 : decode cX5_extend 136 = .ok (.iload 4, 2) := by decide +kernel
theorem dX5_extend_138 : decode cX5_extend 138 = .ok (.aaload, 1) := by decide +kernel
theorem dX5_extend_139 : decode cX5_extend 139 = .ok (.iload 6, 2) := by decide +kernel
theorem dX5_extend_141 : decode cX5_extend 141 = .ok (.iaload, 1) := by decide +kernel
theorem dX5_extend_142 : decode cX5_extend 142 = .ok (.iadd, 1) := by decide +kernel
theorem dX5_extend_143 : decode cX5_extend 143 = .ok (.iload_n 3, 1) := by decide +kernel
theorem dX5_extend_144 : decode cX5_extend 144 = .ok (.iload 7, 2) := by decide +kernel
theorem dX5_extend_146 : decode cX5_extend 146 = .ok (.iadd, 1) := by decide +kernel
theorem dX5_extend_147 : decode cX5_extend 147 = .ok (.invokevirtual 40, 3) := by decide +kernel
theorem dX5_extend_150 : decode cX5_extend 150 = .ok (.iinc 6 1, 3) := by decide +kernel
theorem dX5_extend_153 : decode cX5_extend 153 = .ok (.goto (-74), 3) := by decide +kernel
theorem dX5_extend_156 : decode cX5_extend 156 = .ok (.return_, 1) := by decide +kernel
theorem dX5_isOnPath_0 : decode cX5_isOnPath 0 = .ok (.iconst 0, 1) := by decide +kernel
theorem dX5_isOnPath_1 : decode cX5_isOnPath 1 = .ok (.istore_n 3, 1) := by decide +kernel
theorem dX5_isOnPath_2 : decode cX5_isOnPath 2 = .ok (.iload_n 3, 1) := by decide +kernel
theorem dX5_isOnPath_3 : decode cX5_isOnPath 3 = .ok (.iload_n 2, 1) := by decide +kernel
theorem dX5_isOnPath_4 : decode cX5_isOnPath 4 = .ok (.if_icmp .ge 21, 3) := by decide +kernel
theorem dX5_isOnPath_7 : decode cX5_isOnPath 7 = .ok (.aload_n 0, 1) := by decide +kernel
theorem dX5_isOnPath_8 : decode cX5_isOnPath 8 = .ok (.getfield 16, 3) := by decide +kernel
theorem dX5_isOnPath_11 : decode cX5_isOnPath 11 = .ok (.iload_n 3, 1) := by decide +kernel
theorem dX5_isOnPath_12 : decode cX5_isOnPath 12 = .ok (.iaload, 1) := by decide +kernel
theorem dX5_isOnPath_13 : decode cX5_isOnPath 13 = .ok (.iload_n 1, 1) := by decide +kernel
theorem dX5_isOnPath_14 : decode cX5_isOnPath 14 = .ok (.if_icmp .ne 5, 3) := by decide +kernel
theorem dX5_isOnPath_17 : decode cX5_isOnPath 17 = .ok (.iconst 1, 1) := by decide +kernel
theorem dX5_isOnPath_18 : decode cX5_isOnPath 18 = .ok (.ireturn, 1) := by decide +kernel
theorem dX5_isOnPath_19 : decode cX5_isOnPath 19 = .ok (.iinc 3 1, 3) := by decide +kernel
theorem dX5_isOnPath_22 : decode cX5_isOnPath 22 = .ok (.goto (-20), 3) := by decide +kernel
theorem dX5_isOnPath_25 : decode cX5_isOnPath 25 = .ok (.iconst 0, 1) := by decide +kernel
theorem dX5_isOnPath_26 : decode cX5_isOnPath 26 = .ok (.ireturn, 1) := by decide +kernel
theorem dX5_compare_0 : decode cX5_compare 0 = .ok (.iload_n 2, 1) := by decide +kernel
theorem dX5_compare_1 : decode cX5_compare 1 = .ok (.aload_n 0, 1) := by decide +kernel
theorem dX5_compare_2 : decode cX5_compare 2 = .ok (.getfield 88, 3) := by decide +kernel
theorem dX5_compare_5 : decode cX5_compare 5 = .ok (.imul, 1) := by decide +kernel
theorem dX5_compare_6 : decode cX5_compare 6 = .ok (.aload_n 0, 1) := by decide +kernel
theorem dX5_compare_7 : decode cX5_compare 7 = .ok (.getfield 91, 3) := by decide +kernel
theorem dX5_compare_10 : decode cX5_compare 10 = .ok (.iload_n 3, 1) := by decide +kernel
theorem dX5_compare_11 : decode cX5_compare 11 = .ok (.imul, 1) := by decide +kernel
theorem dX5_compare_12 : decode cX5_compare 12 = .ok (.isub, 1) := by decide +kernel
theorem dX5_compare_13 : decode cX5_compare 13 = .ok (.istore 4, 2) := by decide +kernel
theorem dX5_compare_15 : decode cX5_compare 15 = .ok (.aload_n 0, 1) := by decide +kernel
theorem dX5_compare_16 : decode cX5_compare 16 = .ok (.getfield 27, 3) := by decide +kernel
theorem dX5_compare_19 : decode cX5_compare 19 = .ok (.ifCond .eq 21, 3) := by decide +kernel
theorem dX5_compare_22 : decode cX5_compare 22 = .ok (.iload 4, 2) := by decide +kernel
theorem dX5_compare_24 : decode cX5_compare 24 = .ok (.ifCond .gt 16, 3) := by decide +kernel
theorem dX5_compare_27 : decode cX5_compare 27 = .ok (.iload 4, 2) := by decide +kernel
theorem dX5_compare_29 : decode cX5_compare 29 = .ok (.ifCond .ne 40, 3) := by decide +kernel
theorem dX5_compare_32 : decode cX5_compare 32 = .ok (.iload_n 1, 1) := by decide +kernel
theorem dX5_compare_33 : decode cX5_compare 33 = .ok (.aload_n 0, 1) := by decide +kernel
theorem dX5_compare_34 : decode cX5_compare 34 = .ok (.getfield 27, 3) := by decide +kernel
theorem dX5_compare_37 : decode cX5_compare 37 = .ok (.if_icmp .ge 32, 3) := by decide +kernel
theorem dX5_compare_40 : decode cX5_compare 40 = .ok (.aload_n 0, 1) := by decide +kernel
theorem dX5_compare_41 : decode cX5_compare 41 = .ok (.iload_n 1, 1) := by decide +kernel
theorem dX5_compare_42 : decode cX5_compare 42 = .ok (.putfield 27, 3) := by decide +kernel
theorem dX5_compare_45 : decode cX5_compare 45 = .ok (.aload_n 0, 1) := by decide +kernel
theorem dX5_compare_46 : decode cX5_compare 46 = .ok (.iload_n 2, 1) := by decide +kernel
theorem dX5_compare_47 : decode cX5_compare 47 = .ok (.putfield 91, 3) := by decide +kernel
theorem dX5_compare_50 : decode cX5_compare 50 = .ok (.aload_n 0, 1) := by decide +kernel
theorem dX5_compare_51 : decode cX5_compare 51 = .ok (.iload_n 3, 1) := by decide +kernel
theorem dX5_compare_52 : decode cX5_compare 52 = .ok (.putfield 88, 3) := by decide +kernel
theorem dX5_compare_55 : decode cX5_compare 55 = .ok (.aload_n 0, 1) := by decide +kernel
theorem dX5_compare_56 : decode cX5_compare 56 = .ok (.getfield 16, 3) := by decide +kernel
theorem dX5_compare_59 : decode cX5_compare 59 = .ok (.iconst 0, 1) := by decide +kernel
theorem dX5_compare_60 : decode cX5_compare 60 = .ok (.aload_n 0, 1) := by decide +kernel
theorem dX5_compare_61 : decode cX5_compare 61 = .ok (.getfield 20, 3) := by decide +kernel
theorem dX5_compare_64 : decode cX5_compare 64 = .ok (.iconst 0, 1) := by decide +kernel
theorem dX5_compare_65 : decode cX5_compare 65 = .ok (.iload_n 1, 1) := by decide +kernel
theorem dX5_compare_66 : decode cX5_compare 66 = .ok (.invokestatic 94, 3) := by decide +kernel
theorem dX5_compare_69 : decode cX5_compare 69 = .ok (.return_, 1) := by decide +kernel
theorem dX6_init_0 : decode cX6_init 0 = .ok (.aload_n 0, 1) := by decide +kernel
theorem dX6_init_1 : decode cX6_init 1 = .ok (.invokespecial 3, 3) := by decide +kernel
theorem dX6_init_4 : decode cX6_init 4 = .ok (.aload_n 0, 1) := by decide +kernel
theorem dX6_init_5 : decode cX6_init 5 = .ok (.iload_n 1, 1) := by decide +kernel
theorem dX6_init_6 : decode cX6_init 6 = .ok (.putfield 9, 3) := by decide +kernel
theorem dX6_init_9 : decode cX6_init 9 = .ok (.aload_n 0, 1) := by decide +kernel
theorem dX6_init_10 : decode cX6_init 10 = .ok (.bipush 10, 2) := by decide +kernel
theorem dX6_init_12 : decode cX6_init 12 = .ok (.putfield 15, 3) := by decide +kernel
theorem dX6_init_15 : decode cX6_init 15 = .ok (.aload_n 0, 1) := by decide +kernel
theorem dX6_init_16 : decode cX6_init 16 = .ok (.bipush 10, 2) := by decide +kernel
theorem dX6_init_18 : decode cX6_init 18 = .ok (.putfield 18, 3) := by decide +kernel
theorem dX6_init_21 : decode cX6_init 21 = .ok (.return_, 1) := by decide +kernel
theorem dX6_priceAt_0 : decode cX6_priceAt 0 = .ok (.aload_n 0, 1) := by decide +kernel
theorem dX6_priceAt_1 : decode cX6_priceAt 1 = .ok (.getfield 18, 3) := by decide +kernel
theorem dX6_priceAt_4 : decode cX6_priceAt 4 = .ok (.iconst 1, 1) := by decide +kernel
theorem dX6_priceAt_5 : decode cX6_priceAt 5 = .ok (.if_icmp .ge 5, 3) := by decide +kernel
theorem dX6_priceAt_8 : decode cX6_priceAt 8 = .ok (.iconst 1, 1) := by decide +kernel
theorem dX6_priceAt_9 : decode cX6_priceAt 9 = .ok (.ireturn, 1) := by decide +kernel
theorem dX6_priceAt_10 : decode cX6_priceAt 10 = .ok (.iconst 0, 1) := by decide +kernel
theorem dX6_priceAt_11 : decode cX6_priceAt 11 = .ok (.iconst 2, 1) := by decide +kernel
theorem dX6_priceAt_12 : decode cX6_priceAt 12 = .ok (.aload_n 0, 1) := by decide +kernel
theorem dX6_priceAt_13 : decode cX6_priceAt 13 = .ok (.getfield 18, 3) := by decide +kernel
theorem dX6_priceAt_16 : decode cX6_priceAt 16 = .ok (.imul, 1) := by decide +kernel
theorem dX6_priceAt_17 : decode cX6_priceAt 17 = .ok (.iload_n 1, 1) := by decide +kernel
theorem dX6_priceAt_18 : decode cX6_priceAt 18 = .ok (.isub, 1) := by decide +kernel
theorem dX6_priceAt_19 : decode cX6_priceAt 19 = .ok (.invokestatic 21, 3) := by decide +kernel
theorem dX6_priceAt_22 : decode cX6_priceAt 22 = .ok (.istore_n 2, 1) := by decide +kernel
theorem dX6_priceAt_23 : decode cX6_priceAt 23 = .ok (.iconst 1, 1) := by decide +kernel
theorem dX6_priceAt_24 : decode cX6_priceAt 24 = .ok (.aload_n 0, 1) := by decide +kernel
theorem dX6_priceAt_25 : decode cX6_priceAt 25 = .ok (.getfield 15, 3) := by decide +kernel
theorem dX6_priceAt_28 : decode cX6_priceAt 28 = .ok (.iload_n 2, 1) := by decide +kernel
theorem dX6_priceAt_29 : decode cX6_priceAt 29 = .ok (.imul, 1) := by decide +kernel
theorem dX6_priceAt_30 : decode cX6_priceAt 30 = .ok (.aload_n 0, 1) := by decide +kernel
theorem dX6_priceAt_31 : decode cX6_priceAt 31 = .ok (.getfield 18, 3) := by decide +kernel
theorem dX6_priceAt_34 : decode cX6_priceAt 34 = .ok (.idiv, 1) := by decide +kernel
theorem dX6_priceAt_35 : decode cX6_priceAt 35 = .ok (.invokestatic 21, 3) := by decide +kernel
theorem dX6_priceAt_38 : decode cX6_priceAt 38 = .ok (.ireturn, 1) := by decide +kernel
theorem dX6_number_0 : decode cX6_number 0 = .ok (.iload_n 1, 1) := by decide +kernel
theorem dX6_number_1 : decode cX6_number 1 = .ok (.tableswitch 73 0 5 #[39, 44, 49, 54, 59, 64], 39) := by decide +kernel
theorem dX6_number_40 : decode cX6_number 40 = .ok (.aload_n 0, 1) := by decide +kernel
theorem dX6_number_41 : decode cX6_number 41 = .ok (.getfield 27, 3) := by decide +kernel
theorem dX6_number_44 : decode cX6_number 44 = .ok (.ireturn, 1) := by decide +kernel
theorem dX6_number_45 : decode cX6_number 45 = .ok (.aload_n 0, 1) := by decide +kernel
theorem dX6_number_46 : decode cX6_number 46 = .ok (.getfield 30, 3) := by decide +kernel
theorem dX6_number_49 : decode cX6_number 49 = .ok (.ireturn, 1) := by decide +kernel
theorem dX6_number_50 : decode cX6_number 50 = .ok (.aload_n 0, 1) := by decide +kernel
theorem dX6_number_51 : decode cX6_number 51 = .ok (.getfield 33, 3) := by decide +kernel
theorem dX6_number_54 : decode cX6_number 54 = .ok (.ireturn, 1) := by decide +kernel
theorem dX6_number_55 : decode cX6_number 55 = .ok (.aload_n 0, 1) := by decide +kernel
theorem dX6_number_56 : decode cX6_number 56 = .ok (.getfield 15, 3) := by decide +kernel
theorem dX6_number_59 : decode cX6_number 59 = .ok (.ireturn, 1) := by decide +kernel
theorem dX6_number_60 : decode cX6_number 60 = .ok (.aload_n 0, 1) := by decide +kernel
theorem dX6_number_61 : decode cX6_number 61 = .ok (.getfield 18, 3) := by decide +kernel
theorem dX6_number_64 : decode cX6_number 64 = .ok (.ireturn, 1) := by decide +kernel
theorem dX6_number_65 : decode cX6_number 65 = .ok (.aload_n 0, 1) := by decide +kernel
theorem dX6_number_66 : decode cX6_number 66 = .ok (.aload_n 0, 1) := by decide +kernel
theorem dX6_number_67 : decode cX6_number 67 = .ok (.getfield 27, 3) := by decide +kernel
theorem dX6_number_70 : decode cX6_number 70 = .ok (.invokevirtual 36, 3) := by decide +kernel
theorem dX6_number_73 : decode cX6_number 73 = .ok (.ireturn, 1) := by decide +kernel
theorem dX6_number_74 : decode cX6_number 74 = .ok (.aload_n 0, 1) := by decide +kernel
theorem dX6_number_75 : decode cX6_number 75 = .ok (.getfield 40, 3) := by decide +kernel
theorem dX6_number_78 : decode cX6_number 78 = .ok (.ireturn, 1) := by decide +kernel
theorem dX6_change_0 : decode cX6_change 0 = .ok (.iload_n 1, 1) := by decide +kernel
theorem dX6_change_1 : decode cX6_change 1 = .ok (.tableswitch 63 0 3 #[31, 39, 47, 55], 31) := by decide +kernel
theorem dX6_change_32 : decode cX6_change 32 = .ok (.aload_n 0, 1) := by decide +kernel
theorem dX6_change_33 : decode cX6_change 33 = .ok (.iload_n 2, 1) := by decide +kernel
theorem dX6_change_34 : decode cX6_change 34 = .ok (.putfield 27, 3) := by decide +kernel
theorem dX6_change_37 : decode cX6_change 37 = .ok (.goto 32, 3) := by decide +kernel
theorem dX6_change_40 : decode cX6_change 40 = .ok (.aload_n 0, 1) := by decide +kernel
theorem dX6_change_41 : decode cX6_change 41 = .ok (.iload_n 2, 1) := by decide +kernel
theorem dX6_change_42 : decode cX6_change 42 = .ok (.putfield 30, 3) := by decide +kernel
theorem dX6_change_45 : decode cX6_change 45 = .ok (.goto 24, 3) := by decide +kernel
theorem dX6_change_48 : decode cX6_change 48 = .ok (.aload_n 0, 1) := by decide +kernel
theorem dX6_change_49 : decode cX6_change 49 = .ok (.iload_n 2, 1) := by decide +kernel
theorem dX6_change_50 : decode cX6_change 50 = .ok (.putfield 33, 3) := by decide +kernel
theorem dX6_change_53 : decode cX6_change 53 = .ok (.goto 16, 3) := by decide +kernel
theorem dX6_change_56 : decode cX6_change 56 = .ok (.aload_n 0, 1) := by decide +kernel
theorem dX6_change_57 : decode cX6_change 57 = .ok (.iload_n 2, 1) := by decide +kernel
theorem dX6_change_58 : decode cX6_change 58 = .ok (.putfield 15, 3) := by decide +kernel
theorem dX6_change_61 : decode cX6_change 61 = .ok (.goto 8, 3) := by decide +kernel
theorem dX6_change_64 : decode cX6_change 64 = .ok (.aload_n 0, 1) := by decide +kernel
theorem dX6_change_65 : decode cX6_change 65 = .ok (.iload_n 2, 1) := by decide +kernel
theorem dX6_change_66 : decode cX6_change 66 = .ok (.putfield 18, 3) := by decide +kernel
theorem dX6_change_69 : decode cX6_change 69 = .ok (.return_, 1) := by decide +kernel
theorem dX7_init_0 : decode cX7_init 0 = .ok (.aload_n 0, 1) := by decide +kernel
theorem dX7_init_1 : decode cX7_init 1 = .ok (.invokespecial 3, 3) := by decide +kernel
theorem dX7_init_4 : decode cX7_init 4 = .ok (.aload_n 0, 1) := by decide +kernel
theorem dX7_init_5 : decode cX7_init 5 = .ok (.iconst 3, 1) := by decide +kernel
theorem dX7_init_6 : decode cX7_init 6 = .ok (.newarray .int, 2) := by decide +kernel
theorem dX7_init_8 : decode cX7_init 8 = .ok (.putfield 9, 3) := by decide +kernel
theorem dX7_init_11 : decode cX7_init 11 = .ok (.return_, 1) := by decide +kernel
theorem dX7_load_0 : decode cX7_load 0 = .ok (.iconst 0, 1) := by decide +kernel
theorem dX7_load_1 : decode cX7_load 1 = .ok (.istore_n 1, 1) := by decide +kernel
theorem dX7_load_2 : decode cX7_load 2 = .ok (.iconst 0, 1) := by decide +kernel
theorem dX7_load_3 : decode cX7_load 3 = .ok (.istore_n 2, 1) := by decide +kernel
theorem dX7_load_4 : decode cX7_load 4 = .ok (.iload_n 2, 1) := by decide +kernel
theorem dX7_load_5 : decode cX7_load 5 = .ok (.iconst 3, 1) := by decide +kernel
theorem dX7_load_6 : decode cX7_load 6 = .ok (.if_icmp .ge 18, 3) := by decide +kernel
theorem dX7_load_9 : decode cX7_load 9 = .ok (.iload_n 1, 1) := by decide +kernel
theorem dX7_load_10 : decode cX7_load 10 = .ok (.aload_n 0, 1) := by decide +kernel
theorem dX7_load_11 : decode cX7_load 11 = .ok (.getfield 9, 3) := by decide +kernel
theorem dX7_load_14 : decode cX7_load 14 = .ok (.iload_n 2, 1) := by decide +kernel
theorem dX7_load_15 : decode cX7_load 15 = .ok (.iaload, 1) := by decide +kernel
theorem dX7_load_16 : decode cX7_load 16 = .ok (.iadd, 1) := by decide +kernel
theorem dX7_load_17 : decode cX7_load 17 = .ok (.istore_n 1, 1) := by decide +kernel
theorem dX7_load_18 : decode cX7_load 18 = .ok (.iinc 2 1, 3) := by decide +kernel
theorem dX7_load_21 : decode cX7_load 21 = .ok (.goto (-17), 3) := by decide +kernel
theorem dX7_load_24 : decode cX7_load 24 = .ok (.iload_n 1, 1) := by decide +kernel
theorem dX7_load_25 : decode cX7_load 25 = .ok (.ireturn, 1) := by decide +kernel
theorem dX8_init_0 : decode cX8_init 0 = .ok (.aload_n 0, 1) := by decide +kernel
theorem dX8_init_1 : decode cX8_init 1 = .ok (.invokespecial 3, 3) := by decide +kernel
theorem dX8_init_4 : decode cX8_init 4 = .ok (.aload_n 0, 1) := by decide +kernel
theorem dX8_init_5 : decode cX8_init 5 = .ok (.iconst 4, 1) := by decide +kernel
theorem dX8_init_6 : decode cX8_init 6 = .ok (.newarray .int, 2) := by decide +kernel
theorem dX8_init_8 : decode cX8_init 8 = .ok (.putfield 9, 3) := by decide +kernel
theorem dX8_init_11 : decode cX8_init 11 = .ok (.aload_n 0, 1) := by decide +kernel
theorem dX8_init_12 : decode cX8_init 12 = .ok (.iconst 4, 1) := by decide +kernel
theorem dX8_init_13 : decode cX8_init 13 = .ok (.newarray .int, 2) := by decide +kernel
theorem dX8_init_15 : decode cX8_init 15 = .ok (.putfield 15, 3) := by decide +kernel
theorem dX8_init_18 : decode cX8_init 18 = .ok (.aload_n 0, 1) := by decide +kernel
theorem dX8_init_19 : decode cX8_init 19 = .ok (.iconst 4, 1) := by decide +kernel
theorem dX8_init_20 : decode cX8_init 20 = .ok (.newarray .int, 2) := by decide +kernel
theorem dX8_init_22 : decode cX8_init 22 = .ok (.putfield 18, 3) := by decide +kernel
theorem dX8_init_25 : decode cX8_init 25 = .ok (.return_, 1) := by decide +kernel
theorem dX9_init_0 : decode cX9_init 0 = .ok (.aload_n 0, 1) := by decide +kernel
theorem dX9_init_1 : decode cX9_init 1 = .ok (.invokespecial 3, 3) := by decide +kernel
theorem dX9_init_4 : decode cX9_init 4 = .ok (.aload_n 0, 1) := by decide +kernel
theorem dX9_init_5 : decode cX9_init 5 = .ok (.bipush 6, 2) := by decide +kernel
theorem dX9_init_7 : decode cX9_init 7 = .ok (.anewarray 9, 3) := by decide +kernel
theorem dX9_init_10 : decode cX9_init 10 = .ok (.putfield 11, 3) := by decide +kernel
theorem dX9_init_13 : decode cX9_init 13 = .ok (.iconst 0, 1) := by decide +kernel
theorem dX9_init_14 : decode cX9_init 14 = .ok (.istore_n 1, 1) := by decide +kernel
theorem dX9_init_15 : decode cX9_init 15 = .ok (.iload_n 1, 1) := by decide +kernel
theorem dX9_init_16 : decode cX9_init 16 = .ok (.bipush 6, 2) := by decide +kernel
theorem dX9_init_18 : decode cX9_init 18 = .ok (.if_icmp .ge 23, 3) := by decide +kernel
theorem dX9_init_21 : decode cX9_init 21 = .ok (.aload_n 0, 1) := by decide +kernel
theorem dX9_init_22 : decode cX9_init 22 = .ok (.getfield 11, 3) := by decide +kernel
theorem dX9_init_25 : decode cX9_init 25 = .ok (.iload_n 1, 1) := by decide +kernel
theorem dX9_init_26 : decode cX9_init 26 = .ok (.new 9, 3) := by decide +kernel
theorem dX9_init_29 : decode cX9_init 29 = .ok (.dup, 1) := by decide +kernel
theorem dX9_init_30 : decode cX9_init 30 = .ok (.iload_n 1, 1) := by decide +kernel
theorem dX9_init_31 : decode cX9_init 31 = .ok (.invokespecial 17, 3) := by decide +kernel
theorem dX9_init_34 : decode cX9_init 34 = .ok (.aastore, 1) := by decide +kernel
theorem dX9_init_35 : decode cX9_init 35 = .ok (.iinc 1 1, 3) := by decide +kernel
theorem dX9_init_38 : decode cX9_init 38 = .ok (.goto (-23), 3) := by decide +kernel
theorem dX9_init_41 : decode cX9_init 41 = .ok (.aload_n 0, 1) := by decide +kernel
theorem dX9_init_42 : decode cX9_init 42 = .ok (.bipush 6, 2) := by decide +kernel
theorem dX9_init_44 : decode cX9_init 44 = .ok (.bipush 6, 2) := by decide +kernel
theorem dX9_init_46 : decode cX9_init 46 = .ok (.multianewarray 20 2, 4) := by decide +kernel
theorem dX9_init_50 : decode cX9_init 50 = .ok (.putfield 22, 3) := by decide +kernel
theorem dX9_init_53 : decode cX9_init 53 = .ok (.aload_n 0, 1) := by decide +kernel
theorem dX9_init_54 : decode cX9_init 54 = .ok (.new 25, 3) := by decide +kernel
theorem dX9_init_57 : decode cX9_init 57 = .ok (.dup, 1) := by decide +kernel
theorem dX9_init_58 : decode cX9_init 58 = .ok (.invokespecial 27, 3) := by decide +kernel
theorem dX9_init_61 : decode cX9_init 61 = .ok (.putfield 28, 3) := by decide +kernel
theorem dX9_init_64 : decode cX9_init 64 = .ok (.aload_n 0, 1) := by decide +kernel
theorem dX9_init_65 : decode cX9_init 65 = .ok (.iconst 1, 1) := by decide +kernel
theorem dX9_init_66 : decode cX9_init 66 = .ok (.putfield 32, 3) := by decide +kernel
theorem dX9_init_69 : decode cX9_init 69 = .ok (.return_, 1) := by decide +kernel
theorem dX9_shelf_0 : decode cX9_shelf 0 = .ok (.aload_n 0, 1) := by decide +kernel
theorem dX9_shelf_1 : decode cX9_shelf 1 = .ok (.getfield 11, 3) := by decide +kernel
theorem dX9_shelf_4 : decode cX9_shelf 4 = .ok (.iload_n 1, 1) := by decide +kernel
theorem dX9_shelf_5 : decode cX9_shelf 5 = .ok (.aaload, 1) := by decide +kernel
theorem dX9_shelf_6 : decode cX9_shelf 6 = .ok (.getfield 36, 3) := by decide +kernel
theorem dX9_shelf_9 : decode cX9_shelf 9 = .ok (.iload_n 2, 1) := by decide +kernel
theorem dX9_shelf_10 : decode cX9_shelf 10 = .ok (.aaload, 1) := by decide +kernel
theorem dX9_shelf_11 : decode cX9_shelf 11 = .ok (.areturn, 1) := by decide +kernel
theorem dX9_openLength_0 : decode cX9_openLength 0 = .ok (.aload_n 0, 1) := by decide +kernel
theorem dX9_openLength_1 : decode cX9_openLength 1 = .ok (.getfield 11, 3) := by decide +kernel
theorem dX9_openLength_4 : decode cX9_openLength 4 = .ok (.iload_n 1, 1) := by decide +kernel
theorem dX9_openLength_5 : decode cX9_openLength 5 = .ok (.aaload, 1) := by decide +kernel
theorem dX9_openLength_6 : decode cX9_openLength 6 = .ok (.getfield 40, 3) := by decide +kernel
theorem dX9_openLength_9 : decode cX9_openLength 9 = .ok (.ifCond .ne 15, 3) := by decide +kernel
theorem dX9_openLength_12 : decode cX9_openLength 12 = .ok (.aload_n 0, 1) := by decide +kernel
theorem dX9_openLength_13 : decode cX9_openLength 13 = .ok (.getfield 11, 3) := by decide +kernel
theorem dX9_openLength_16 : decode cX9_openLength 16 = .ok (.iload_n 2, 1) := by decide +kernel
theorem dX9_openLength_17 : decode cX9_openLength 17 = .ok (.aaload, 1) := by decide +kernel
theorem dX9_openLength_18 : decode cX9_openLength 18 = .ok (.getfield 40, 3) := by decide +kernel
theorem dX9_openLength_21 : decode cX9_openLength 21 = .ok (.ifCond .eq 7, 3) := by decide +kernel
theorem dX9_openLength_24 : decode cX9_openLength 24 = .ok (.iconst 0, 1) := by decide +kernel
theorem dX9_openLength_25 : decode cX9_openLength 25 = .ok (.goto 11, 3) := by decide +kernel
theorem dX9_openLength_28 : decode cX9_openLength 28 = .ok (.aload_n 0, 1) := by decide +kernel
theorem dX9_openLength_29 : decode cX9_openLength 29 = .ok (.getfield 22, 3) := by decide +kernel
theorem dX9_openLength_32 : decode cX9_openLength 32 = .ok (.iload_n 1, 1) := by decide +kernel
theorem dX9_openLength_33 : decode cX9_openLength 33 = .ok (.aaload, 1) := by decide +kernel
theorem dX9_openLength_34 : decode cX9_openLength 34 = .ok (.iload_n 2, 1) := by decide +kernel
theorem dX9_openLength_35 : decode cX9_openLength 35 = .ok (.iaload, 1) := by decide +kernel
theorem dX9_openLength_36 : decode cX9_openLength 36 = .ok (.ireturn, 1) := by decide +kernel
theorem dX10_init_0 : decode cX10_init 0 = .ok (.aload_n 0, 1) := by decide +kernel
theorem dX10_init_1 : decode cX10_init 1 = .ok (.invokespecial 1, 3) := by decide +kernel
theorem dX10_init_4 : decode cX10_init 4 = .ok (.aload_n 0, 1) := by decide +kernel
theorem dX10_init_5 : decode cX10_init 5 = .ok (.new 7, 3) := by decide +kernel
theorem dX10_init_8 : decode cX10_init 8 = .ok (.dup, 1) := by decide +kernel
theorem dX10_init_9 : decode cX10_init 9 = .ok (.invokespecial 9, 3) := by decide +kernel
theorem dX10_init_12 : decode cX10_init 12 = .ok (.putfield 10, 3) := by decide +kernel
theorem dX10_init_15 : decode cX10_init 15 = .ok (.aload_n 0, 1) := by decide +kernel
theorem dX10_init_16 : decode cX10_init 16 = .ok (.iconst 4, 1) := by decide +kernel
theorem dX10_init_17 : decode cX10_init 17 = .ok (.anewarray 16, 3) := by decide +kernel
theorem dX10_init_20 : decode cX10_init 20 = .ok (.putfield 18, 3) := by decide +kernel
theorem dX10_init_23 : decode cX10_init 23 = .ok (.iconst 0, 1) := by decide +kernel
theorem dX10_init_24 : decode cX10_init 24 = .ok (.istore_n 1, 1) := by decide +kernel
theorem dX10_init_25 : decode cX10_init 25 = .ok (.iload_n 1, 1) := by decide +kernel
theorem dX10_init_26 : decode cX10_init 26 = .ok (.iconst 4, 1) := by decide +kernel
theorem dX10_init_27 : decode cX10_init 27 = .ok (.if_icmp .ge 22, 3) := by decide +kernel
theorem dX10_init_30 : decode cX10_init 30 = .ok (.aload_n 0, 1) := by decide +kernel
theorem dX10_init_31 : decode cX10_init 31 = .ok (.getfield 18, 3) := by decide +kernel
theorem dX10_init_34 : decode cX10_init 34 = .ok (.iload_n 1, 1) := by decide +kernel
theorem dX10_init_35 : decode cX10_init 35 = .ok (.new 16, 3) := by decide +kernel
theorem dX10_init_38 : decode cX10_init 38 = .ok (.dup, 1) := by decide +kernel
theorem dX10_init_39 : decode cX10_init 39 = .ok (.invokespecial 22, 3) := by decide +kernel
theorem dX10_init_42 : decode cX10_init 42 = .ok (.aastore, 1) := by decide +kernel
theorem dX10_init_43 : decode cX10_init 43 = .ok (.iinc 1 1, 3) := by decide +kernel
theorem dX10_init_46 : decode cX10_init 46 = .ok (.goto (-21), 3) := by decide +kernel
theorem dX10_init_49 : decode cX10_init 49 = .ok (.aload_n 0, 1) := by decide +kernel
theorem dX10_init_50 : decode cX10_init 50 = .ok (.new 23, 3) := by decide +kernel
theorem dX10_init_53 : decode cX10_init 53 = .ok (.dup, 1) := by decide +kernel
theorem dX10_init_54 : decode cX10_init 54 = .ok (.invokespecial 25, 3) := by decide +kernel
theorem dX10_init_57 : decode cX10_init 57 = .ok (.putfield 26, 3) := by decide +kernel
theorem dX10_init_60 : decode cX10_init 60 = .ok (.aload_n 0, 1) := by decide +kernel
theorem dX10_init_61 : decode cX10_init 61 = .ok (.new 30, 3) := by decide +kernel
theorem dX10_init_64 : decode cX10_init 64 = .ok (.dup, 1) := by decide +kernel
theorem dX10_init_65 : decode cX10_init 65 = .ok (.invokespecial 32, 3) := by decide +kernel
theorem dX10_init_68 : decode cX10_init 68 = .ok (.putfield 33, 3) := by decide +kernel
theorem dX10_init_71 : decode cX10_init 71 = .ok (.aload_n 0, 1) := by decide +kernel
theorem dX10_init_72 : decode cX10_init 72 = .ok (.new 37, 3) := by decide +kernel
theorem dX10_init_75 : decode cX10_init 75 = .ok (.dup, 1) := by decide +kernel
theorem dX10_init_76 : decode cX10_init 76 = .ok (.aload_n 0, 1) := by decide +kernel
theorem dX10_init_77 : decode cX10_init 77 = .ok (.getfield 10, 3) := by decide +kernel
theorem dX10_init_80 : decode cX10_init 80 = .ok (.invokespecial 39, 3) := by decide +kernel
theorem dX10_init_83 : decode cX10_init 83 = .ok (.putfield 42, 3) := by decide +kernel
theorem dX10_init_86 : decode cX10_init 86 = .ok (.aload_n 0, 1) := by decide +kernel
theorem dX10_init_87 : decode cX10_init 87 = .ok (.new 46, 3) := by decide +kernel
theorem dX10_init_90 : decode cX10_init 90 = .ok (.dup, 1) := by decide +kernel
theorem dX10_init_91 : decode cX10_init 91 = .ok (.aload_n 0, 1) := by decide +kernel
theorem dX10_init_92 : decode cX10_init 92 = .ok (.getfield 10, 3) := by decide +kernel
theorem dX10_init_95 : decode cX10_init 95 = .ok (.invokespecial 48, 3) := by decide +kernel
theorem dX10_init_98 : decode cX10_init 98 = .ok (.putfield 49, 3) := by decide +kernel
theorem dX10_init_101 : decode cX10_init 101 = .ok (.return_, 1) := by decide +kernel
theorem dX10_port_0 : decode cX10_port 0 = .ok (.aload_n 0, 1) := by decide +kernel
theorem dX10_port_1 : decode cX10_port 1 = .ok (.getfield 10, 3) := by decide +kernel
theorem dX10_port_4 : decode cX10_port 4 = .ok (.getfield 53, 3) := by decide +kernel
theorem dX10_port_7 : decode cX10_port 7 = .ok (.bipush 6, 2) := by decide +kernel
theorem dX10_port_9 : decode cX10_port 9 = .ok (.if_icmp .lt 6, 3) := by decide +kernel
theorem dX10_port_12 : decode cX10_port 12 = .ok (.bipush (-4), 2) := by decide +kernel
theorem dX10_port_14 : decode cX10_port 14 = .ok (.ireturn, 1) := by decide +kernel
theorem dX10_port_15 : decode cX10_port 15 = .ok (.aload_n 0, 1) := by decide +kernel
theorem dX10_port_16 : decode cX10_port 16 = .ok (.getfield 10, 3) := by decide +kernel
theorem dX10_port_19 : decode cX10_port 19 = .ok (.dup, 1) := by decide +kernel
theorem dX10_port_20 : decode cX10_port 20 = .ok (.getfield 53, 3) := by decide +kernel
theorem dX10_port_23 : decode cX10_port 23 = .ok (.dup_x1, 1) := by decide +kernel
theorem dX10_port_24 : decode cX10_port 24 = .ok (.iconst 1, 1) := by decide +kernel
theorem dX10_port_25 : decode cX10_port 25 = .ok (.iadd, 1) := by decide +kernel
theorem dX10_port_26 : decode cX10_port 26 = .ok (.putfield 53, 3) := by decide +kernel
theorem dX10_port_29 : decode cX10_port 29 = .ok (.ireturn, 1) := by decide +kernel
theorem dX10_set_0 : decode cX10_set 0 = .ok (.aload_n 0, 1) := by decide +kernel
theorem dX10_set_1 : decode cX10_set 1 = .ok (.iload_n 1, 1) := by decide +kernel
theorem dX10_set_2 : decode cX10_set 2 = .ok (.invokevirtual 57, 3) := by decide +kernel
theorem dX10_set_5 : decode cX10_set 5 = .ok (.ifCond .eq 10, 3) := by decide +kernel
theorem dX10_set_8 : decode cX10_set 8 = .ok (.iload_n 2, 1) := by decide +kernel
theorem dX10_set_9 : decode cX10_set 9 = .ok (.invokestatic 61, 3) := by decide +kernel
theorem dX10_set_12 : decode cX10_set 12 = .ok (.ifCond .ne 5, 3) := by decide +kernel
theorem dX10_set_15 : decode cX10_set 15 = .ok (.iconst (-1), 1) := by decide +kernel
theorem dX10_set_16 : decode cX10_set 16 = .ok (.ireturn, 1) := by decide +kernel
theorem dX10_set_17 : decode cX10_set 17 = .ok (.iload_n 3, 1) := by decide +kernel
theorem dX10_set_18 : decode cX10_set 18 = .ok (.iconst 0, 1) := by decide +kernel
theorem dX10_set_19 : decode cX10_set 19 = .ok (.iconst 4, 1) := by decide +kernel
theorem dX10_set_20 : decode cX10_set 20 = .ok (.invokestatic 64, 3) := by decide +kernel
theorem dX10_set_23 : decode cX10_set 23 = .ok (.ifCond .eq 21, 3) := by decide +kernel
theorem dX10_set_26 : decode cX10_set 26 = .ok (.iload 4, 2) := by decide +kernel
theorem dX10_set_28 : decode cX10_set 28 = .ok (.getstatic 68, 3) := by decide +kernel
theorem dX10_set_31 : decode cX10_set 31 = .ok (.iload_n 3, 1) := by decide +kernel
theorem dX10_set_32 : decode cX10_set 32 = .ok (.iaload, 1) := by decide +kernel
theorem dX10_set_33 : decode cX10_set 33 = .ok (.getstatic 72, 3) := by decide +kernel
theorem dX10_set_36 : decode cX10_set 36 = .ok (.iload_n 3, 1) := by decide +kernel
theorem dX10_set_37 : decode cX10_set 37 = .ok (.iaload, 1) := by decide +kernel
theorem dX10_set_38 : decode cX10_set 38 = .ok (.invokestatic 64, 3) := by decide +kernel
theorem dX10_set_41 : decode cX10_set 41 = .ok (.ifCond .ne 6, 3) := by decide +kernel
theorem dX10_set_44 : decode cX10_set 44 = .ok (.bipush (-2), 2) := by decide +kernel
theorem dX10_set_46 : decode cX10_set 46 = .ok (.ireturn, 1) := by decide +kernel
theorem dX10_set_47 : decode cX10_set 47 = .ok (.aload_n 0, 1) := by decide +kernel
theorem dX10_set_48 : decode cX10_set 48 = .ok (.getfield 10, 3) := by decide +kernel
theorem dX10_set_51 : decode cX10_set 51 = .ok (.iload_n 1, 1) := by decide +kernel
theorem dX10_set_52 : decode cX10_set 52 = .ok (.iload_n 2, 1) := by decide +kernel
theorem dX10_set_53 : decode cX10_set 53 = .ok (.invokevirtual 75, 3) := by decide +kernel
theorem dX10_set_56 : decode cX10_set 56 = .ok (.astore 5, 2) := by decide +kernel
theorem dX10_set_58 : decode cX10_set 58 = .ok (.aload 5, 2) := by decide +kernel
theorem dX10_set_60 : decode cX10_set 60 = .ok (.iload_n 3, 1) := by decide +kernel
theorem dX10_set_61 : decode cX10_set 61 = .ok (.invokevirtual 79, 3) := by decide +kernel
theorem dX10_set_64 : decode cX10_set 64 = .ok (.istore 6, 2) := by decide +kernel
theorem dX10_set_66 : decode cX10_set 66 = .ok (.aload 5, 2) := by decide +kernel
theorem dX10_set_68 : decode cX10_set 68 = .ok (.iload_n 3, 1) := by decide +kernel
theorem dX10_set_69 : decode cX10_set 69 = .ok (.iload 4, 2) := by decide +kernel
theorem dX10_set_71 : decode cX10_set 71 = .ok (.invokevirtual 85, 3) := by decide +kernel
theorem dX10_set_74 : decode cX10_set 74 = .ok (.iload_n 3, 1) := by decide +kernel
theorem dX10_set_75 : decode cX10_set 75 = .ok (.ifCond .ne 17, 3) := by decide +kernel
theorem dX10_set_78 : decode cX10_set 78 = .ok (.aload_n 0, 1) := by decide +kernel
theorem dX10_set_79 : decode cX10_set 79 = .ok (.dup, 1) := by decide +kernel
theorem dX10_set_80 : decode cX10_set 80 = .ok (.getfield 89, 3) := by decide +kernel
theorem dX10_set_83 : decode cX10_set 83 = .ok (.iload 4, 2) := by decide +kernel
theorem dX10_set_85 : decode cX10_set 85 = .ok (.iload 6, 2) := by decide +kernel
theorem dX10_set_87 : decode cX10_set 87 = .ok (.isub, 1) := by decide +kernel
theorem dX10_set_88 : decode cX10_set 88 = .ok (.iadd, 1) := by decide +kernel
theorem dX10_set_89 : decode cX10_set 89 = .ok (.putfield 89, 3) := by decide +kernel
theorem dX10_set_92 : decode cX10_set 92 = .ok (.iload 6, 2) := by decide +kernel
theorem dX10_set_94 : decode cX10_set 94 = .ok (.ireturn, 1) := by decide +kernel
theorem dX10_about_0 : decode cX10_about 0 = .ok (.aload_n 0, 1) := by decide +kernel
theorem dX10_about_1 : decode cX10_about 1 = .ok (.iload_n 1, 1) := by decide +kernel
theorem dX10_about_2 : decode cX10_about 2 = .ok (.invokevirtual 57, 3) := by decide +kernel
theorem dX10_about_5 : decode cX10_about 5 = .ok (.ifCond .eq 10, 3) := by decide +kernel
theorem dX10_about_8 : decode cX10_about 8 = .ok (.iload_n 2, 1) := by decide +kernel
theorem dX10_about_9 : decode cX10_about 9 = .ok (.invokestatic 61, 3) := by decide +kernel
theorem dX10_about_12 : decode cX10_about 12 = .ok (.ifCond .ne 5, 3) := by decide +kernel
theorem dX10_about_15 : decode cX10_about 15 = .ok (.iconst (-1), 1) := by decide +kernel
theorem dX10_about_16 : decode cX10_about 16 = .ok (.ireturn, 1) := by decide +kernel
theorem dX10_about_17 : decode cX10_about 17 = .ok (.iload_n 3, 1) := by decide +kernel
theorem dX10_about_18 : decode cX10_about 18 = .ok (.iconst 0, 1) := by decide +kernel
theorem dX10_about_19 : decode cX10_about 19 = .ok (.bipush 6, 2) := by decide +kernel
theorem dX10_about_21 : decode cX10_about 21 = .ok (.invokestatic 64, 3) := by decide +kernel
theorem dX10_about_24 : decode cX10_about 24 = .ok (.ifCond .ne 6, 3) := by decide +kernel
theorem dX10_about_27 : decode cX10_about 27 = .ok (.bipush (-2), 2) := by decide +kernel
theorem dX10_about_29 : decode cX10_about 29 = .ok (.ireturn, 1) := by decide +kernel
theorem dX10_about_30 : decode cX10_about 30 = .ok (.aload_n 0, 1) := by decide +kernel
theorem dX10_about_31 : decode cX10_about 31 = .ok (.getfield 10, 3) := by decide +kernel
theorem dX10_about_34 : decode cX10_about 34 = .ok (.iload_n 1, 1) := by decide +kernel
theorem dX10_about_35 : decode cX10_about 35 = .ok (.iload_n 2, 1) := by decide +kernel
theorem dX10_about_36 : decode cX10_about 36 = .ok (.invokevirtual 75, 3) := by decide +kernel
theorem dX10_about_39 : decode cX10_about 39 = .ok (.iload_n 3, 1) := by decide +kernel
theorem dX10_about_40 : decode cX10_about 40 = .ok (.invokevirtual 79, 3) := by decide +kernel
theorem dX10_about_43 : decode cX10_about 43 = .ok (.ireturn, 1) := by decide +kernel
theorem dX10_tax_0 : decode cX10_tax 0 = .ok (.aload_n 0, 1) := by decide +kernel
theorem dX10_tax_1 : decode cX10_tax 1 = .ok (.iload_n 1, 1) := by decide +kernel
theorem dX10_tax_2 : decode cX10_tax 2 = .ok (.invokevirtual 57, 3) := by decide +kernel
theorem dX10_tax_5 : decode cX10_tax 5 = .ok (.ifCond .ne 5, 3) := by decide +kernel
theorem dX10_tax_8 : decode cX10_tax 8 = .ok (.iconst (-1), 1) := by decide +kernel
theorem dX10_tax_9 : decode cX10_tax 9 = .ok (.ireturn, 1) := by decide +kernel
theorem dX10_tax_10 : decode cX10_tax 10 = .ok (.iload_n 2, 1) := by decide +kernel
theorem dX10_tax_11 : decode cX10_tax 11 = .ok (.iconst 0, 1) := by decide +kernel
theorem dX10_tax_12 : decode cX10_tax 12 = .ok (.bipush 20, 2) := by decide +kernel
theorem dX10_tax_14 : decode cX10_tax 14 = .ok (.invokestatic 64, 3) := by decide +kernel
theorem dX10_tax_17 : decode cX10_tax 17 = .ok (.ifCond .ne 6, 3) := by decide +kernel
theorem dX10_tax_20 : decode cX10_tax 20 = .ok (.bipush (-2), 2) := by decide +kernel
theorem dX10_tax_22 : decode cX10_tax 22 = .ok (.ireturn, 1) := by decide +kernel
theorem dX10_tax_23 : decode cX10_tax 23 = .ok (.aload_n 0, 1) := by decide +kernel
theorem dX10_tax_24 : decode cX10_tax 24 = .ok (.getfield 10, 3) := by decide +kernel
theorem dX10_tax_27 : decode cX10_tax 27 = .ok (.getfield 92, 3) := by decide +kernel
theorem dX10_tax_30 : decode cX10_tax 30 = .ok (.iload_n 1, 1) := by decide +kernel
theorem dX10_tax_31 : decode cX10_tax 31 = .ok (.aaload, 1) := by decide +kernel
theorem dX10_tax_32 : decode cX10_tax 32 = .ok (.getfield 96, 3) := by decide +kernel
theorem dX10_tax_35 : decode cX10_tax 35 = .ok (.istore_n 3, 1) := by decide +kernel
theorem dX10_tax_36 : decode cX10_tax 36 = .ok (.aload_n 0, 1) := by decide +kernel
theorem dX10_tax_37 : decode cX10_tax 37 = .ok (.getfield 10, 3) := by decide +kernel
theorem dX10_tax_40 : decode cX10_tax 40 = .ok (.getfield 92, 3) := by decide +kernel
theorem dX10_tax_43 : decode cX10_tax 43 = .ok (.iload_n 1, 1) := by decide +kernel
theorem dX10_tax_44 : decode cX10_tax 44 = .ok (.aaload, 1) := by decide +kernel
theorem dX10_tax_45 : decode cX10_tax 45 = .ok (.iload_n 2, 1) := by decide +kernel
theorem dX10_tax_46 : decode cX10_tax 46 = .ok (.putfield 96, 3) := by decide +kernel
theorem dX10_tax_49 : decode cX10_tax 49 = .ok (.iload_n 3, 1) := by decide +kernel
theorem dX10_tax_50 : decode cX10_tax 50 = .ok (.ireturn, 1) := by decide +kernel
theorem dX10_shut_0 : decode cX10_shut 0 = .ok (.aload_n 0, 1) := by decide +kernel
theorem dX10_shut_1 : decode cX10_shut 1 = .ok (.iload_n 1, 1) := by decide +kernel
theorem dX10_shut_2 : decode cX10_shut 2 = .ok (.invokevirtual 57, 3) := by decide +kernel
theorem dX10_shut_5 : decode cX10_shut 5 = .ok (.ifCond .ne 5, 3) := by decide +kernel
theorem dX10_shut_8 : decode cX10_shut 8 = .ok (.iconst (-1), 1) := by decide +kernel
theorem dX10_shut_9 : decode cX10_shut 9 = .ok (.ireturn, 1) := by decide +kernel
theorem dX10_shut_10 : decode cX10_shut 10 = .ok (.aload_n 0, 1) := by decide +kernel
theorem dX10_shut_11 : decode cX10_shut 11 = .ok (.getfield 10, 3) := by decide +kernel
theorem dX10_shut_14 : decode cX10_shut 14 = .ok (.getfield 92, 3) := by decide +kernel
theorem dX10_shut_17 : decode cX10_shut 17 = .ok (.iload_n 1, 1) := by decide +kernel
theorem dX10_shut_18 : decode cX10_shut 18 = .ok (.aaload, 1) := by decide +kernel
theorem dX10_shut_19 : decode cX10_shut 19 = .ok (.getfield 101, 3) := by decide +kernel
theorem dX10_shut_22 : decode cX10_shut 22 = .ok (.invokestatic 105, 3) := by decide +kernel
theorem dX10_shut_25 : decode cX10_shut 25 = .ok (.istore_n 3, 1) := by decide +kernel
theorem dX10_shut_26 : decode cX10_shut 26 = .ok (.aload_n 0, 1) := by decide +kernel
theorem dX10_shut_27 : decode cX10_shut 27 = .ok (.getfield 10, 3) := by decide +kernel
theorem dX10_shut_30 : decode cX10_shut 30 = .ok (.getfield 92, 3) := by decide +kernel
theorem dX10_shut_33 : decode cX10_shut 33 = .ok (.iload_n 1, 1) := by decide +kernel
theorem dX10_shut_34 : decode cX10_shut 34 = .ok (.aaload, 1) := by decide +kernel
theorem dX10_shut_35 : decode cX10_shut 35 = .ok (.iload_n 2, 1) := by decide +kernel
theorem dX10_shut_36 : decode cX10_shut 36 = .ok (.putfield 101, 3) := by decide +kernel
theorem dX10_shut_39 : decode cX10_shut 39 = .ok (.iload_n 3, 1) := by decide +kernel
theorem dX10_shut_40 : decode cX10_shut 40 = .ok (.ireturn, 1) := by decide +kernel
theorem dX10_way_0 : decode cX10_way 0 = .ok (.aload_n 0, 1) := by decide +kernel
theorem dX10_way_1 : decode cX10_way 1 = .ok (.iload_n 1, 1) := by decide +kernel
theorem dX10_way_2 : decode cX10_way 2 = .ok (.invokevirtual 57, 3) := by decide +kernel
theorem dX10_way_5 : decode cX10_way 5 = .ok (.ifCond .eq 16, 3) := by decide +kernel
theorem dX10_way_8 : decode cX10_way 8 = .ok (.aload_n 0, 1) := by decide +kernel
theorem dX10_way_9 : decode cX10_way 9 = .ok (.iload_n 2, 1) := by decide +kernel
theorem dX10_way_10 : decode cX10_way 10 = .ok (.invokevirtual 57, 3) := by decide +kernel
theorem dX10_way_13 : decode cX10_way 13 = .ok (.ifCond .eq 8, 3) := by decide +kernel
theorem dX10_way_16 : decode cX10_way 16 = .ok (.iload_n 1, 1) := by decide +kernel
theorem dX10_way_17 : decode cX10_way 17 = .ok (.iload_n 2, 1) := by decide +kernel
theorem dX10_way_18 : decode cX10_way 18 = .ok (.if_icmp .ne 5, 3) := by decide +kernel
theorem dX10_way_21 : decode cX10_way 21 = .ok (.iconst (-1), 1) := by decide +kernel
theorem dX10_way_22 : decode cX10_way 22 = .ok (.ireturn, 1) := by decide +kernel
theorem dX10_way_23 : decode cX10_way 23 = .ok (.iload_n 3, 1) := by decide +kernel
theorem dX10_way_24 : decode cX10_way 24 = .ok (.iconst 0, 1) := by decide +kernel
theorem dX10_way_25 : decode cX10_way 25 = .ok (.bipush 9, 2) := by decide +kernel
theorem dX10_way_27 : decode cX10_way 27 = .ok (.invokestatic 64, 3) := by decide +kernel
theorem dX10_way_30 : decode cX10_way 30 = .ok (.ifCond .ne 6, 3) := by decide +kernel
theorem dX10_way_33 : decode cX10_way 33 = .ok (.bipush (-2), 2) := by decide +kernel
theorem dX10_way_35 : decode cX10_way 35 = .ok (.ireturn, 1) := by decide +kernel
theorem dX10_way_36 : decode cX10_way 36 = .ok (.aload_n 0, 1) := by decide +kernel
theorem dX10_way_37 : decode cX10_way 37 = .ok (.getfield 10, 3) := by decide +kernel
theorem dX10_way_40 : decode cX10_way 40 = .ok (.getfield 109, 3) := by decide +kernel
theorem dX10_way_43 : decode cX10_way 43 = .ok (.iload_n 1, 1) := by decide +kernel
theorem dX10_way_44 : decode cX10_way 44 = .ok (.aaload, 1) := by decide +kernel
theorem dX10_way_45 : decode cX10_way 45 = .ok (.iload_n 2, 1) := by decide +kernel
theorem dX10_way_46 : decode cX10_way 46 = .ok (.iaload, 1) := by decide +kernel
theorem dX10_way_47 : decode cX10_way 47 = .ok (.istore 4, 2) := by decide +kernel
theorem dX10_way_49 : decode cX10_way 49 = .ok (.aload_n 0, 1) := by decide +kernel
theorem dX10_way_50 : decode cX10_way 50 = .ok (.getfield 10, 3) := by decide +kernel
theorem dX10_way_53 : decode cX10_way 53 = .ok (.getfield 109, 3) := by decide +kernel
theorem dX10_way_56 : decode cX10_way 56 = .ok (.iload_n 1, 1) := by decide +kernel
theorem dX10_way_57 : decode cX10_way 57 = .ok (.aaload, 1) := by decide +kernel
theorem dX10_way_58 : decode cX10_way 58 = .ok (.iload_n 2, 1) := by decide +kernel
theorem dX10_way_59 : decode cX10_way 59 = .ok (.iload_n 3, 1) := by decide +kernel
theorem dX10_way_60 : decode cX10_way 60 = .ok (.iastore, 1) := by decide +kernel
theorem dX10_way_61 : decode cX10_way 61 = .ok (.aload_n 0, 1) := by decide +kernel
theorem dX10_way_62 : decode cX10_way 62 = .ok (.getfield 10, 3) := by decide +kernel
theorem dX10_way_65 : decode cX10_way 65 = .ok (.getfield 109, 3) := by decide +kernel
theorem dX10_way_68 : decode cX10_way 68 = .ok (.iload_n 2, 1) := by decide +kernel
theorem dX10_way_69 : decode cX10_way 69 = .ok (.aaload, 1) := by decide +kernel
theorem dX10_way_70 : decode cX10_way 70 = .ok (.iload_n 1, 1) := by decide +kernel
theorem dX10_way_71 : decode cX10_way 71 = .ok (.iload_n 3, 1) := by decide +kernel
theorem dX10_way_72 : decode cX10_way 72 = .ok (.iastore, 1) := by decide +kernel
theorem dX10_way_73 : decode cX10_way 73 = .ok (.iload 4, 2) := by decide +kernel
theorem dX10_way_75 : decode cX10_way 75 = .ok (.ireturn, 1) := by decide +kernel
theorem dX10_ofPort_0 : decode cX10_ofPort 0 = .ok (.aload_n 0, 1) := by decide +kernel
theorem dX10_ofPort_1 : decode cX10_ofPort 1 = .ok (.iload_n 1, 1) := by decide +kernel
theorem dX10_ofPort_2 : decode cX10_ofPort 2 = .ok (.invokevirtual 57, 3) := by decide +kernel
theorem dX10_ofPort_5 : decode cX10_ofPort 5 = .ok (.ifCond .ne 6, 3) := by decide +kernel
theorem dX10_ofPort_8 : decode cX10_ofPort 8 = .ok (.ldc 113, 2) := by decide +kernel
theorem dX10_ofPort_10 : decode cX10_ofPort 10 = .ok (.ireturn, 1) := by decide +kernel
theorem dX10_ofPort_11 : decode cX10_ofPort 11 = .ok (.aload_n 0, 1) := by decide +kernel
theorem dX10_ofPort_12 : decode cX10_ofPort 12 = .ok (.getfield 10, 3) := by decide +kernel
theorem dX10_ofPort_15 : decode cX10_ofPort 15 = .ok (.getfield 92, 3) := by decide +kernel
theorem dX10_ofPort_18 : decode cX10_ofPort 18 = .ok (.iload_n 1, 1) := by decide +kernel
theorem dX10_ofPort_19 : decode cX10_ofPort 19 = .ok (.aaload, 1) := by decide +kernel
theorem dX10_ofPort_20 : decode cX10_ofPort 20 = .ok (.astore_n 3, 1) := by decide +kernel
theorem dX10_ofPort_21 : decode cX10_ofPort 21 = .ok (.iload_n 2, 1) := by decide +kernel
theorem dX10_ofPort_22 : decode cX10_ofPort 22 = .ok (.tableswitch 62 0 4 #[34, 39, 44, 49, 57], 34) := by decide +kernel
theorem dX10_ofPort_56 : decode cX10_ofPort 56 = .ok (.aload_n 3, 1) := by decide +kernel
theorem dX10_ofPort_57 : decode cX10_ofPort 57 = .ok (.getfield 96, 3) := by decide +kernel
theorem dX10_ofPort_60 : decode cX10_ofPort 60 = .ok (.ireturn, 1) := by decide +kernel
theorem dX10_ofPort_61 : decode cX10_ofPort 61 = .ok (.aload_n 3, 1) := by decide +kernel
theorem dX10_ofPort_62 : decode cX10_ofPort 62 = .ok (.getfield 114, 3) := by decide +kernel
theorem dX10_ofPort_65 : decode cX10_ofPort 65 = .ok (.ireturn, 1) := by decide +kernel
theorem dX10_ofPort_66 : decode cX10_ofPort 66 = .ok (.aload_n 3, 1) := by decide +kernel
theorem dX10_ofPort_67 : decode cX10_ofPort 67 = .ok (.getfield 117, 3) := by decide +kernel
theorem dX10_ofPort_70 : decode cX10_ofPort 70 = .ok (.ireturn, 1) := by decide +kernel
theorem dX10_ofPort_71 : decode cX10_ofPort 71 = .ok (.aload_n 3, 1) := by decide +kernel
theorem dX10_ofPort_72 : decode cX10_ofPort 72 = .ok (.getfield 101, 3) := by decide +kernel
theorem dX10_ofPort_75 : decode cX10_ofPort 75 = .ok (.invokestatic 105, 3) := by decide +kernel
theorem dX10_ofPort_78 : decode cX10_ofPort 78 = .ok (.ireturn, 1) := by decide +kernel
theorem dX10_ofPort_79 : decode cX10_ofPort 79 = .ok (.aload_n 3, 1) := by decide +kernel
theorem dX10_ofPort_80 : decode cX10_ofPort 80 = .ok (.invokevirtual 120, 3) := by decide +kernel
theorem dX10_ofPort_83 : decode cX10_ofPort 83 = .ok (.ireturn, 1) := by decide +kernel
theorem dX10_ofPort_84 : decode cX10_ofPort 84 = .ok (.ldc 124, 2) := by decide +kernel
theorem dX10_ofPort_86 : decode cX10_ofPort 86 = .ok (.ireturn, 1) := by decide +kernel
theorem dX10_tick_0 : decode cX10_tick 0 = .ok (.iload_n 1, 1) := by decide +kernel
theorem dX10_tick_1 : decode cX10_tick 1 = .ok (.iconst 1, 1) := by decide +kernel
theorem dX10_tick_2 : decode cX10_tick 2 = .ok (.sipush 200, 3) := by decide +kernel
theorem dX10_tick_5 : decode cX10_tick 5 = .ok (.invokestatic 64, 3) := by decide +kernel
theorem dX10_tick_8 : decode cX10_tick 8 = .ok (.ifCond .ne 6, 3) := by decide +kernel
theorem dX10_tick_11 : decode cX10_tick 11 = .ok (.bipush (-2), 2) := by decide +kernel
theorem dX10_tick_13 : decode cX10_tick 13 = .ok (.ireturn, 1) := by decide +kernel
theorem dX10_tick_14 : decode cX10_tick 14 = .ok (.aload_n 0, 1) := by decide +kernel
theorem dX10_tick_15 : decode cX10_tick 15 = .ok (.getfield 10, 3) := by decide +kernel
theorem dX10_tick_18 : decode cX10_tick 18 = .ok (.getfield 125, 3) := by decide +kernel
theorem dX10_tick_21 : decode cX10_tick 21 = .ok (.iload_n 1, 1) := by decide +kernel
theorem dX10_tick_22 : decode cX10_tick 22 = .ok (.iadd, 1) := by decide +kernel
theorem dX10_tick_23 : decode cX10_tick 23 = .ok (.sipush 999, 3) := by decide +kernel
theorem dX10_tick_26 : decode cX10_tick 26 = .ok (.if_icmp .le 6, 3) := by decide +kernel
theorem dX10_tick_29 : decode cX10_tick 29 = .ok (.bipush (-3), 2) := by decide +kernel
theorem dX10_tick_31 : decode cX10_tick 31 = .ok (.ireturn, 1) := by decide +kernel
theorem dX10_tick_32 : decode cX10_tick 32 = .ok (.aload_n 0, 1) := by decide +kernel
theorem dX10_tick_33 : decode cX10_tick 33 = .ok (.iload_n 1, 1) := by decide +kernel
theorem dX10_tick_34 : decode cX10_tick 34 = .ok (.invokevirtual 128, 3) := by decide +kernel
theorem dX10_tick_37 : decode cX10_tick 37 = .ok (.aload_n 0, 1) := by decide +kernel
theorem dX10_tick_38 : decode cX10_tick 38 = .ok (.getfield 10, 3) := by decide +kernel
theorem dX10_tick_41 : decode cX10_tick 41 = .ok (.getfield 125, 3) := by decide +kernel
theorem dX10_tick_44 : decode cX10_tick 44 = .ok (.ireturn, 1) := by decide +kernel
theorem dX10_event_0 : decode cX10_event 0 = .ok (.aload_n 0, 1) := by decide +kernel
theorem dX10_event_1 : decode cX10_event 1 = .ok (.iload_n 2, 1) := by decide +kernel
theorem dX10_event_2 : decode cX10_event 2 = .ok (.invokevirtual 57, 3) := by decide +kernel
theorem dX10_event_5 : decode cX10_event 5 = .ok (.ifCond .eq 10, 3) := by decide +kernel
theorem dX10_event_8 : decode cX10_event 8 = .ok (.iload_n 3, 1) := by decide +kernel
theorem dX10_event_9 : decode cX10_event 9 = .ok (.invokestatic 61, 3) := by decide +kernel
theorem dX10_event_12 : decode cX10_event 12 = .ok (.ifCond .ne 5, 3) := by decide +kernel
theorem dX10_event_15 : decode cX10_event 15 = .ok (.iconst (-1), 1) := by decide +kernel
theorem dX10_event_16 : decode cX10_event 16 = .ok (.ireturn, 1) := by decide +kernel
theorem dX10_event_17 : decode cX10_event 17 = .ok (.iload_n 1, 1) := by decide +kernel
theorem dX10_event_18 : decode cX10_event 18 = .ok (.aload_n 0, 1) := by decide +kernel
theorem dX10_event_19 : decode cX10_event 19 = .ok (.getfield 10, 3) := by decide +kernel
theorem dX10_event_22 : decode cX10_event 22 = .ok (.getfield 125, 3) := by decide +kernel
theorem dX10_event_25 : decode cX10_event 25 = .ok (.sipush 998, 3) := by decide +kernel
theorem dX10_event_28 : decode cX10_event 28 = .ok (.invokestatic 64, 3) := by decide +kernel
theorem dX10_event_31 : decode cX10_event 31 = .ok (.ifCond .eq 22, 3) := by decide +kernel
theorem dX10_event_34 : decode cX10_event 34 = .ok (.iload 4, 2) := by decide +kernel
theorem dX10_event_36 : decode cX10_event 36 = .ok (.sipush (-1000), 3) := by decide +kernel
theorem dX10_event_39 : decode cX10_event 39 = .ok (.sipush 1000, 3) := by decide +kernel
theorem dX10_event_42 : decode cX10_event 42 = .ok (.invokestatic 64, 3) := by decide +kernel
theorem dX10_event_45 : decode cX10_event 45 = .ok (.ifCond .eq 8, 3) := by decide +kernel
theorem dX10_event_48 : decode cX10_event 48 = .ok (.iload 4, 2) := by decide +kernel
theorem dX10_event_50 : decode cX10_event 50 = .ok (.ifCond .ne 6, 3) := by decide +kernel
theorem dX10_event_53 : decode cX10_event 53 = .ok (.bipush (-2), 2) := by decide +kernel
theorem dX10_event_55 : decode cX10_event 55 = .ok (.ireturn, 1) := by decide +kernel
theorem dX10_event_56 : decode cX10_event 56 = .ok (.aload_n 0, 1) := by decide +kernel
theorem dX10_event_57 : decode cX10_event 57 = .ok (.getfield 10, 3) := by decide +kernel
theorem dX10_event_60 : decode cX10_event 60 = .ok (.getfield 132, 3) := by decide +kernel
theorem dX10_event_63 : decode cX10_event 63 = .ok (.getfield 136, 3) := by decide +kernel
theorem dX10_event_66 : decode cX10_event 66 = .ok (.bipush 20, 2) := by decide +kernel
theorem dX10_event_68 : decode cX10_event 68 = .ok (.if_icmp .lt 6, 3) := by decide +kernel
theorem dX10_event_71 : decode cX10_event 71 = .ok (.bipush (-4), 2) := by decide +kernel
theorem dX10_event_73 : decode cX10_event 73 = .ok (.ireturn, 1) := by decide +kernel
theorem dX10_event_74 : decode cX10_event 74 = .ok (.aload_n 0, 1) := by decide +kernel
theorem dX10_event_75 : decode cX10_event 75 = .ok (.getfield 10, 3) := by decide +kernel
theorem dX10_event_78 : decode cX10_event 78 = .ok (.getfield 132, 3) := by decide +kernel
theorem dX10_event_81 : decode cX10_event 81 = .ok (.iload_n 1, 1) := by decide +kernel
theorem dX10_event_82 : decode cX10_event 82 = .ok (.aload_n 0, 1) := by decide +kernel
theorem dX10_event_83 : decode cX10_event 83 = .ok (.getfield 10, 3) := by decide +kernel
theorem dX10_event_86 : decode cX10_event 86 = .ok (.iload_n 2, 1) := by decide +kernel
theorem dX10_event_87 : decode cX10_event 87 = .ok (.iload_n 3, 1) := by decide +kernel
theorem dX10_event_88 : decode cX10_event 88 = .ok (.invokevirtual 75, 3) := by decide +kernel
theorem dX10_event_91 : decode cX10_event 91 = .ok (.getfield 141, 3) := by decide +kernel
theorem dX10_event_94 : decode cX10_event 94 = .ok (.iload 4, 2) := by decide +kernel
theorem dX10_event_96 : decode cX10_event 96 = .ok (.invokevirtual 144, 3) := by decide +kernel
theorem dX10_event_99 : decode cX10_event 99 = .ok (.aload_n 0, 1) := by decide +kernel
theorem dX10_event_100 : decode cX10_event 100 = .ok (.getfield 10, 3) := by decide +kernel
theorem dX10_event_103 : decode cX10_event 103 = .ok (.getfield 132, 3) := by decide +kernel
theorem dX10_event_106 : decode cX10_event 106 = .ok (.getfield 136, 3) := by decide +kernel
theorem dX10_event_109 : decode cX10_event 109 = .ok (.ireturn, 1) := by decide +kernel
theorem dX10_ship_0 : decode cX10_ship 0 = .ok (.aload_n 0, 1) := by decide +kernel
theorem dX10_ship_1 : decode cX10_ship 1 = .ok (.iload_n 1, 1) := by decide +kernel
theorem dX10_ship_2 : decode cX10_ship 2 = .ok (.invokevirtual 57, 3) := by decide +kernel
theorem dX10_ship_5 : decode cX10_ship 5 = .ok (.ifCond .ne 5, 3) := by decide +kernel
theorem dX10_ship_8 : decode cX10_ship 8 = .ok (.iconst (-1), 1) := by decide +kernel
theorem dX10_ship_9 : decode cX10_ship 9 = .ok (.ireturn, 1) := by decide +kernel
theorem dX10_ship_10 : decode cX10_ship 10 = .ok (.iload_n 2, 1) := by decide +kernel
theorem dX10_ship_11 : decode cX10_ship 11 = .ok (.iconst 1, 1) := by decide +kernel
theorem dX10_ship_12 : decode cX10_ship 12 = .ok (.bipush 20, 2) := by decide +kernel
theorem dX10_ship_14 : decode cX10_ship 14 = .ok (.invokestatic 64, 3) := by decide +kernel
theorem dX10_ship_17 : decode cX10_ship 17 = .ok (.ifCond .eq 13, 3) := by decide +kernel
theorem dX10_ship_20 : decode cX10_ship 20 = .ok (.iload_n 3, 1) := by decide +kernel
theorem dX10_ship_21 : decode cX10_ship 21 = .ok (.iconst 0, 1) := by decide +kernel
theorem dX10_ship_22 : decode cX10_ship 22 = .ok (.ldc 148, 2) := by decide +kernel
theorem dX10_ship_24 : decode cX10_ship 24 = .ok (.invokestatic 64, 3) := by decide +kernel
theorem dX10_ship_27 : decode cX10_ship 27 = .ok (.ifCond .ne 6, 3) := by decide +kernel
theorem dX10_ship_30 : decode cX10_ship 30 = .ok (.bipush (-2), 2) := by decide +kernel
theorem dX10_ship_32 : decode cX10_ship 32 = .ok (.ireturn, 1) := by decide +kernel
theorem dX10_ship_33 : decode cX10_ship 33 = .ok (.aload_n 0, 1) := by decide +kernel
theorem dX10_ship_34 : decode cX10_ship 34 = .ok (.getfield 149, 3) := by decide +kernel
theorem dX10_ship_37 : decode cX10_ship 37 = .ok (.iconst 4, 1) := by decide +kernel
theorem dX10_ship_38 : decode cX10_ship 38 = .ok (.if_icmp .lt 6, 3) := by decide +kernel
theorem dX10_ship_41 : decode cX10_ship 41 = .ok (.bipush (-4), 2) := by decide +kernel
theorem dX10_ship_43 : decode cX10_ship 43 = .ok (.ireturn, 1) := by decide +kernel
theorem dX10_ship_44 : decode cX10_ship 44 = .ok (.aload_n 0, 1) := by decide +kernel
theorem dX10_ship_45 : decode cX10_ship 45 = .ok (.getfield 18, 3) := by decide +kernel
theorem dX10_ship_48 : decode cX10_ship 48 = .ok (.aload_n 0, 1) := by decide +kernel
theorem dX10_ship_49 : decode cX10_ship 49 = .ok (.getfield 149, 3) := by decide +kernel
theorem dX10_ship_52 : decode cX10_ship 52 = .ok (.aaload, 1) := by decide +kernel
theorem dX10_ship_53 : decode cX10_ship 53 = .ok (.astore 4, 2) := by decide +kernel
theorem dX10_ship_55 : decode cX10_ship 55 = .ok (.aload 4, 2) := by decide +kernel
theorem dX10_ship_57 : decode cX10_ship 57 = .ok (.iload_n 1, 1) := by decide +kernel
theorem dX10_ship_58 : decode cX10_ship 58 = .ok (.putfield 152, 3) := by decide +kernel
theorem dX10_ship_61 : decode cX10_ship 61 = .ok (.aload 4, 2) := by decide +kernel
theorem dX10_ship_63 : decode cX10_ship 63 = .ok (.iload_n 2, 1) := by decide +kernel
theorem dX10_ship_64 : decode cX10_ship 64 = .ok (.putfield 155, 3) := by decide +kernel
theorem dX10_ship_67 : decode cX10_ship 67 = .ok (.aload 4, 2) := by decide +kernel
theorem dX10_ship_69 : decode cX10_ship 69 = .ok (.iload_n 3, 1) := by decide +kernel
theorem dX10_ship_70 : decode cX10_ship 70 = .ok (.putfield 158, 3) := by decide +kernel
theorem dX10_ship_73 : decode cX10_ship 73 = .ok (.aload_n 0, 1) := by decide +kernel
theorem dX10_ship_74 : decode cX10_ship 74 = .ok (.dup, 1) := by decide +kernel
theorem dX10_ship_75 : decode cX10_ship 75 = .ok (.getfield 149, 3) := by decide +kernel
theorem dX10_ship_78 : decode cX10_ship 78 = .ok (.dup_x1, 1) := by decide +kernel
theorem dX10_ship_79 : decode cX10_ship 79 = .ok (.iconst 1, 1) := by decide +kernel
theorem dX10_ship_80 : decode cX10_ship 80 = .ok (.iadd, 1) := by decide +kernel
theorem dX10_ship_81 : decode cX10_ship 81 = .ok (.putfield 149, 3) := by decide +kernel
theorem dX10_ship_84 : decode cX10_ship 84 = .ok (.ireturn, 1) := by decide +kernel
theorem dX10_buy_0 : decode cX10_buy 0 = .ok (.aload_n 0, 1) := by decide +kernel
theorem dX10_buy_1 : decode cX10_buy 1 = .ok (.iload_n 1, 1) := by decide +kernel
theorem dX10_buy_2 : decode cX10_buy 2 = .ok (.iload_n 2, 1) := by decide +kernel
theorem dX10_buy_3 : decode cX10_buy 3 = .ok (.iload_n 3, 1) := by decide +kernel
theorem dX10_buy_4 : decode cX10_buy 4 = .ok (.invokevirtual 161, 3) := by decide +kernel
theorem dX10_buy_7 : decode cX10_buy 7 = .ok (.istore 4, 2) := by decide +kernel
theorem dX10_buy_9 : decode cX10_buy 9 = .ok (.iload 4, 2) := by decide +kernel
theorem dX10_buy_11 : decode cX10_buy 11 = .ok (.ifCond .eq 6, 3) := by decide +kernel
theorem dX10_buy_14 : decode cX10_buy 14 = .ok (.iload 4, 2) := by decide +kernel
theorem dX10_buy_16 : decode cX10_buy 16 = .ok (.ireturn, 1) := by decide +kernel
theorem dX10_buy_17 : decode cX10_buy 17 = .ok (.aload_n 0, 1) := by decide +kernel
theorem dX10_buy_18 : decode cX10_buy 18 = .ok (.getfield 18, 3) := by decide +kernel
theorem dX10_buy_21 : decode cX10_buy 21 = .ok (.iload_n 1, 1) := by decide +kernel
theorem dX10_buy_22 : decode cX10_buy 22 = .ok (.aaload, 1) := by decide +kernel
theorem dX10_buy_23 : decode cX10_buy 23 = .ok (.astore 5, 2) := by decide +kernel
theorem dX10_buy_25 : decode cX10_buy 25 = .ok (.aload_n 0, 1) := by decide +kernel
theorem dX10_buy_26 : decode cX10_buy 26 = .ok (.getfield 10, 3) := by decide +kernel
theorem dX10_buy_29 : decode cX10_buy 29 = .ok (.getfield 92, 3) := by decide +kernel
theorem dX10_buy_32 : decode cX10_buy 32 = .ok (.aload 5, 2) := by decide +kernel
theorem dX10_buy_34 : decode cX10_buy 34 = .ok (.getfield 152, 3) := by decide +kernel
theorem dX10_buy_37 : decode cX10_buy 37 = .ok (.aaload, 1) := by decide +kernel
theorem dX10_buy_38 : decode cX10_buy 38 = .ok (.astore 6, 2) := by decide +kernel
theorem dX10_buy_40 : decode cX10_buy 40 = .ok (.aload 6, 2) := by decide +kernel
theorem dX10_buy_42 : decode cX10_buy 42 = .ok (.getfield 165, 3) := by decide +kernel
theorem dX10_buy_45 : decode cX10_buy 45 = .ok (.iload_n 2, 1) := by decide +kernel
theorem dX10_buy_46 : decode cX10_buy 46 = .ok (.aaload, 1) := by decide +kernel
theorem dX10_buy_47 : decode cX10_buy 47 = .ok (.astore 7, 2) := by decide +kernel
theorem dX10_buy_49 : decode cX10_buy 49 = .ok (.aload_n 0, 1) := by decide +kernel
theorem dX10_buy_50 : decode cX10_buy 50 = .ok (.getfield 33, 3) := by decide +kernel
theorem dX10_buy_53 : decode cX10_buy 53 = .ok (.aload 7, 2) := by decide +kernel
theorem dX10_buy_55 : decode cX10_buy 55 = .ok (.aload 7, 2) := by decide +kernel
theorem dX10_buy_57 : decode cX10_buy 57 = .ok (.getfield 169, 3) := by decide +kernel
theorem dX10_buy_60 : decode cX10_buy 60 = .ok (.aload 6, 2) := by decide +kernel
theorem dX10_buy_62 : decode cX10_buy 62 = .ok (.getfield 96, 3) := by decide +kernel
theorem dX10_buy_65 : decode cX10_buy 65 = .ok (.aload 5, 2) := by decide +kernel
theorem dX10_buy_67 : decode cX10_buy 67 = .ok (.getfield 158, 3) := by decide +kernel
theorem dX10_buy_70 : decode cX10_buy 70 = .ok (.iload_n 3, 1) := by decide +kernel
theorem dX10_buy_71 : decode cX10_buy 71 = .ok (.aload 5, 2) := by decide +kernel
