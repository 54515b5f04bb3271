theorem dX11_sell_171 : decode cX11_sell 171 = .ok (.iconst 1, 1) := by decide +kernel
theorem dX11_sell_172 : decode cX11_sell 172 = .ok (.iadd, 1) := by decide +kernel
theorem dX11_sell_173 : decode cX11_sell 173 = .ok (.iastore, 1) := by decide +kernel
theorem dX11_sell_174 : decode cX11_sell 174 = .ok (.aload_n 0, 1) := by decide +kernel
theorem dX11_sell_175 : decode cX11_sell 175 = .ok (.getfield 66, 3) := by decide +kernel
theorem dX11_sell_178 : decode cX11_sell 178 = .ok (.iconst 3, 1) := by decide +kernel
theorem dX11_sell_179 : decode cX11_sell 179 = .ok (.iload_n 1, 1) := by decide +kernel
theorem dX11_sell_180 : decode cX11_sell 180 = .ok (.imul, 1) := by decide +kernel
theorem dX11_sell_181 : decode cX11_sell 181 = .ok (.iload_n 2, 1) := by decide +kernel
theorem dX11_sell_182 : decode cX11_sell 182 = .ok (.iadd, 1) := by decide +kernel
theorem dX11_sell_183 : decode cX11_sell 183 = .ok (.dup2, 1) := by decide +kernel
theorem dX11_sell_184 : decode cX11_sell 184 = .ok (.iaload, 1) := by decide +kernel
theorem dX11_sell_185 : decode cX11_sell 185 = .ok (.iconst 1, 1) := by decide +kernel
theorem dX11_sell_186 : decode cX11_sell 186 = .ok (.isub, 1) := by decide +kernel
theorem dX11_sell_187 : decode cX11_sell 187 = .ok (.iastore, 1) := by decide +kernel
theorem dX11_sell_188 : decode cX11_sell 188 = .ok (.iinc 7 1, 3) := by decide +kernel
theorem dX11_sell_191 : decode cX11_sell 191 = .ok (.goto (-155), 3) := by decide +kernel
theorem dX11_sell_194 : decode cX11_sell 194 = .ok (.iload 7, 2) := by decide +kernel
theorem dX11_sell_196 : decode cX11_sell 196 = .ok (.ireturn, 1) := by decide +kernel
theorem dX11_go_0 : decode cX11_go 0 = .ok (.aload_n 0, 1) := by decide +kernel
theorem dX11_go_1 : decode cX11_go 1 = .ok (.iload_n 1, 1) := by decide +kernel
theorem dX11_go_2 : decode cX11_go 2 = .ok (.invokevirtual 163, 3) := by decide +kernel
theorem dX11_go_5 : decode cX11_go 5 = .ok (.ifCond .eq 11, 3) := by decide +kernel
theorem dX11_go_8 : decode cX11_go 8 = .ok (.aload_n 0, 1) := by decide +kernel
theorem dX11_go_9 : decode cX11_go 9 = .ok (.iload_n 2, 1) := by decide +kernel
theorem dX11_go_10 : decode cX11_go 10 = .ok (.invokevirtual 99, 3) := by decide +kernel
theorem dX11_go_13 : decode cX11_go 13 = .ok (.ifCond .ne 5, 3) := by decide +kernel
theorem dX11_go_16 : decode cX11_go 16 = .ok (.iconst (-1), 1) := by decide +kernel
theorem dX11_go_17 : decode cX11_go 17 = .ok (.ireturn, 1) := by decide +kernel
theorem dX11_go_18 : decode cX11_go 18 = .ok (.aload_n 0, 1) := by decide +kernel
theorem dX11_go_19 : decode cX11_go 19 = .ok (.getfield 45, 3) := by decide +kernel
theorem dX11_go_22 : decode cX11_go 22 = .ok (.bipush 6, 2) := by decide +kernel
theorem dX11_go_24 : decode cX11_go 24 = .ok (.aload_n 0, 1) := by decide +kernel
theorem dX11_go_25 : decode cX11_go 25 = .ok (.getfield 57, 3) := by decide +kernel
theorem dX11_go_28 : decode cX11_go 28 = .ok (.iload_n 1, 1) := by decide +kernel
theorem dX11_go_29 : decode cX11_go 29 = .ok (.iaload, 1) := by decide +kernel
theorem dX11_go_30 : decode cX11_go 30 = .ok (.imul, 1) := by decide +kernel
theorem dX11_go_31 : decode cX11_go 31 = .ok (.iload_n 2, 1) := by decide +kernel
theorem dX11_go_32 : decode cX11_go 32 = .ok (.iadd, 1) := by decide +kernel
theorem dX11_go_33 : decode cX11_go 33 = .ok (.iaload, 1) := by decide +kernel
theorem dX11_go_34 : decode cX11_go 34 = .ok (.istore_n 3, 1) := by decide +kernel
theorem dX11_go_35 : decode cX11_go 35 = .ok (.aload_n 0, 1) := by decide +kernel
theorem dX11_go_36 : decode cX11_go 36 = .ok (.getfield 133, 3) := by decide +kernel
theorem dX11_go_39 : decode cX11_go 39 = .ok (.iload_n 3, 1) := by decide +kernel
theorem dX11_go_40 : decode cX11_go 40 = .ok (.iadd, 1) := by decide +kernel
theorem dX11_go_41 : decode cX11_go 41 = .ok (.sipush 999, 3) := by decide +kernel
theorem dX11_go_44 : decode cX11_go 44 = .ok (.if_icmp .le 6, 3) := by decide +kernel
theorem dX11_go_47 : decode cX11_go 47 = .ok (.bipush (-3), 2) := by decide +kernel
theorem dX11_go_49 : decode cX11_go 49 = .ok (.ireturn, 1) := by decide +kernel
theorem dX11_go_50 : decode cX11_go 50 = .ok (.iload_n 3, 1) := by decide +kernel
theorem dX11_go_51 : decode cX11_go 51 = .ok (.ifCond .eq 41, 3) := by decide +kernel
theorem dX11_go_54 : decode cX11_go 54 = .ok (.aload_n 0, 1) := by decide +kernel
theorem dX11_go_55 : decode cX11_go 55 = .ok (.getfield 41, 3) := by decide +kernel
theorem dX11_go_58 : decode cX11_go 58 = .ok (.iload_n 2, 1) := by decide +kernel
theorem dX11_go_59 : decode cX11_go 59 = .ok (.baload, 1) := by decide +kernel
theorem dX11_go_60 : decode cX11_go 60 = .ok (.ifCond .ne 32, 3) := by decide +kernel
theorem dX11_go_63 : decode cX11_go 63 = .ok (.aload_n 0, 1) := by decide +kernel
theorem dX11_go_64 : decode cX11_go 64 = .ok (.getfield 41, 3) := by decide +kernel
theorem dX11_go_67 : decode cX11_go 67 = .ok (.aload_n 0, 1) := by decide +kernel
theorem dX11_go_68 : decode cX11_go 68 = .ok (.getfield 57, 3) := by decide +kernel
theorem dX11_go_71 : decode cX11_go 71 = .ok (.iload_n 1, 1) := by decide +kernel
theorem dX11_go_72 : decode cX11_go 72 = .ok (.iaload, 1) := by decide +kernel
theorem dX11_go_73 : decode cX11_go 73 = .ok (.baload, 1) := by decide +kernel
theorem dX11_go_74 : decode cX11_go 74 = .ok (.ifCond .ne 18, 3) := by decide +kernel
theorem dX11_go_77 : decode cX11_go 77 = .ok (.aload_n 0, 1) := by decide +kernel
theorem dX11_go_78 : decode cX11_go 78 = .ok (.getfield 63, 3) := by decide +kernel
theorem dX11_go_81 : decode cX11_go 81 = .ok (.iload_n 1, 1) := by decide +kernel
theorem dX11_go_82 : decode cX11_go 82 = .ok (.iaload, 1) := by decide +kernel
theorem dX11_go_83 : decode cX11_go 83 = .ok (.aload_n 0, 1) := by decide +kernel
theorem dX11_go_84 : decode cX11_go 84 = .ok (.getfield 7, 3) := by decide +kernel
theorem dX11_go_87 : decode cX11_go 87 = .ok (.iload_n 3, 1) := by decide +kernel
theorem dX11_go_88 : decode cX11_go 88 = .ok (.imul, 1) := by decide +kernel
theorem dX11_go_89 : decode cX11_go 89 = .ok (.if_icmp .ge 6, 3) := by decide +kernel
theorem dX11_go_92 : decode cX11_go 92 = .ok (.bipush (-5), 2) := by decide +kernel
theorem dX11_go_94 : decode cX11_go 94 = .ok (.ireturn, 1) := by decide +kernel
theorem dX11_go_95 : decode cX11_go 95 = .ok (.aload_n 0, 1) := by decide +kernel
theorem dX11_go_96 : decode cX11_go 96 = .ok (.getfield 63, 3) := by decide +kernel
theorem dX11_go_99 : decode cX11_go 99 = .ok (.iload_n 1, 1) := by decide +kernel
theorem dX11_go_100 : decode cX11_go 100 = .ok (.dup2, 1) := by decide +kernel
theorem dX11_go_101 : decode cX11_go 101 = .ok (.iaload, 1) := by decide +kernel
theorem dX11_go_102 : decode cX11_go 102 = .ok (.aload_n 0, 1) := by decide +kernel
theorem dX11_go_103 : decode cX11_go 103 = .ok (.getfield 7, 3) := by decide +kernel
theorem dX11_go_106 : decode cX11_go 106 = .ok (.iload_n 3, 1) := by decide +kernel
theorem dX11_go_107 : decode cX11_go 107 = .ok (.imul, 1) := by decide +kernel
theorem dX11_go_108 : decode cX11_go 108 = .ok (.isub, 1) := by decide +kernel
theorem dX11_go_109 : decode cX11_go 109 = .ok (.iastore, 1) := by decide +kernel
theorem dX11_go_110 : decode cX11_go 110 = .ok (.aload_n 0, 1) := by decide +kernel
theorem dX11_go_111 : decode cX11_go 111 = .ok (.dup, 1) := by decide +kernel
theorem dX11_go_112 : decode cX11_go 112 = .ok (.getfield 177, 3) := by decide +kernel
theorem dX11_go_115 : decode cX11_go 115 = .ok (.aload_n 0, 1) := by decide +kernel
theorem dX11_go_116 : decode cX11_go 116 = .ok (.getfield 7, 3) := by decide +kernel
theorem dX11_go_119 : decode cX11_go 119 = .ok (.iload_n 3, 1) := by decide +kernel
theorem dX11_go_120 : decode cX11_go 120 = .ok (.imul, 1) := by decide +kernel
theorem dX11_go_121 : decode cX11_go 121 = .ok (.iadd, 1) := by decide +kernel
theorem dX11_go_122 : decode cX11_go 122 = .ok (.putfield 177, 3) := by decide +kernel
theorem dX11_go_125 : decode cX11_go 125 = .ok (.iconst 0, 1) := by decide +kernel
theorem dX11_go_126 : decode cX11_go 126 = .ok (.istore 4, 2) := by decide +kernel
theorem dX11_go_128 : decode cX11_go 128 = .ok (.iload 4, 2) := by decide +kernel
theorem dX11_go_130 : decode cX11_go 130 = .ok (.iload_n 3, 1) := by decide +kernel
theorem dX11_go_131 : decode cX11_go 131 = .ok (.if_icmp .ge 13, 3) := by decide +kernel
theorem dX11_go_134 : decode cX11_go 134 = .ok (.aload_n 0, 1) := by decide +kernel
theorem dX11_go_135 : decode cX11_go 135 = .ok (.invokevirtual 151, 3) := by decide +kernel
theorem dX11_go_138 : decode cX11_go 138 = .ok (.iinc 4 1, 3) := by decide +kernel
theorem dX11_go_141 : decode cX11_go 141 = .ok (.goto (-13), 3) := by decide +kernel
theorem dX11_go_144 : decode cX11_go 144 = .ok (.aload_n 0, 1) := by decide +kernel
theorem dX11_go_145 : decode cX11_go 145 = .ok (.getfield 57, 3) := by decide +kernel
theorem dX11_go_148 : decode cX11_go 148 = .ok (.iload_n 1, 1) := by decide +kernel
theorem dX11_go_149 : decode cX11_go 149 = .ok (.iload_n 2, 1) := by decide +kernel
theorem dX11_go_150 : decode cX11_go 150 = .ok (.iastore, 1) := by decide +kernel
theorem dX11_go_151 : decode cX11_go 151 = .ok (.aload_n 0, 1) := by decide +kernel
theorem dX11_go_152 : decode cX11_go 152 = .ok (.getfield 133, 3) := by decide +kernel
theorem dX11_go_155 : decode cX11_go 155 = .ok (.ireturn, 1) := by decide +kernel
theorem dX11_ofShip_0 : decode cX11_ofShip 0 = .ok (.aload_n 0, 1) := by decide +kernel
theorem dX11_ofShip_1 : decode cX11_ofShip 1 = .ok (.iload_n 1, 1) := by decide +kernel
theorem dX11_ofShip_2 : decode cX11_ofShip 2 = .ok (.invokevirtual 163, 3) := by decide +kernel
theorem dX11_ofShip_5 : decode cX11_ofShip 5 = .ok (.ifCond .ne 5, 3) := by decide +kernel
theorem dX11_ofShip_8 : decode cX11_ofShip 8 = .ok (.iconst (-1), 1) := by decide +kernel
theorem dX11_ofShip_9 : decode cX11_ofShip 9 = .ok (.ireturn, 1) := by decide +kernel
theorem dX11_ofShip_10 : decode cX11_ofShip 10 = .ok (.iload_n 2, 1) := by decide +kernel
theorem dX11_ofShip_11 : decode cX11_ofShip 11 = .ok (.i2l, 1) := by decide +kernel
theorem dX11_ofShip_12 : decode cX11_ofShip 12 = .ok (.ldc2_w 180, 3) := by decide +kernel
theorem dX11_ofShip_15 : decode cX11_ofShip 15 = .ok (.ldc2_w 182, 3) := by decide +kernel
theorem dX11_ofShip_18 : decode cX11_ofShip 18 = .ok (.invokestatic 93, 3) := by decide +kernel
theorem dX11_ofShip_21 : decode cX11_ofShip 21 = .ok (.ifCond .eq 17, 3) := by decide +kernel
theorem dX11_ofShip_24 : decode cX11_ofShip 24 = .ok (.aload_n 0, 1) := by decide +kernel
theorem dX11_ofShip_25 : decode cX11_ofShip 25 = .ok (.getfield 66, 3) := by decide +kernel
theorem dX11_ofShip_28 : decode cX11_ofShip 28 = .ok (.iconst 3, 1) := by decide +kernel
theorem dX11_ofShip_29 : decode cX11_ofShip 29 = .ok (.iload_n 1, 1) := by decide +kernel
theorem dX11_ofShip_30 : decode cX11_ofShip 30 = .ok (.imul, 1) := by decide +kernel
theorem dX11_ofShip_31 : decode cX11_ofShip 31 = .ok (.iload_n 2, 1) := by decide +kernel
theorem dX11_ofShip_32 : decode cX11_ofShip 32 = .ok (.iadd, 1) := by decide +kernel
theorem dX11_ofShip_33 : decode cX11_ofShip 33 = .ok (.bipush 10, 2) := by decide +kernel
theorem dX11_ofShip_35 : decode cX11_ofShip 35 = .ok (.isub, 1) := by decide +kernel
theorem dX11_ofShip_36 : decode cX11_ofShip 36 = .ok (.iaload, 1) := by decide +kernel
theorem dX11_ofShip_37 : decode cX11_ofShip 37 = .ok (.ireturn, 1) := by decide +kernel
theorem dX11_ofShip_38 : decode cX11_ofShip 38 = .ok (.iload_n 2, 1) := by decide +kernel
theorem dX11_ofShip_39 : decode cX11_ofShip 39 = .ok (.ifCond .ne 12, 3) := by decide +kernel
theorem dX11_ofShip_42 : decode cX11_ofShip 42 = .ok (.aload_n 0, 1) := by decide +kernel
theorem dX11_ofShip_43 : decode cX11_ofShip 43 = .ok (.getfield 57, 3) := by decide +kernel
theorem dX11_ofShip_46 : decode cX11_ofShip 46 = .ok (.iload_n 1, 1) := by decide +kernel
theorem dX11_ofShip_47 : decode cX11_ofShip 47 = .ok (.iaload, 1) := by decide +kernel
theorem dX11_ofShip_48 : decode cX11_ofShip 48 = .ok (.goto 46, 3) := by decide +kernel
theorem dX11_ofShip_51 : decode cX11_ofShip 51 = .ok (.iload_n 2, 1) := by decide +kernel
theorem dX11_ofShip_52 : decode cX11_ofShip 52 = .ok (.iconst 1, 1) := by decide +kernel
theorem dX11_ofShip_53 : decode cX11_ofShip 53 = .ok (.if_icmp .ne 12, 3) := by decide +kernel
theorem dX11_ofShip_56 : decode cX11_ofShip 56 = .ok (.aload_n 0, 1) := by decide +kernel
theorem dX11_ofShip_57 : decode cX11_ofShip 57 = .ok (.getfield 60, 3) := by decide +kernel
theorem dX11_ofShip_60 : decode cX11_ofShip 60 = .ok (.iload_n 1, 1) := by decide +kernel
theorem dX11_ofShip_61 : decode cX11_ofShip 61 = .ok (.iaload, 1) := by decide +kernel
theorem dX11_ofShip_62 : decode cX11_ofShip 62 = .ok (.goto 32, 3) := by decide +kernel
theorem dX11_ofShip_65 : decode cX11_ofShip 65 = .ok (.iload_n 2, 1) := by decide +kernel
theorem dX11_ofShip_66 : decode cX11_ofShip 66 = .ok (.iconst 2, 1) := by decide +kernel
theorem dX11_ofShip_67 : decode cX11_ofShip 67 = .ok (.if_icmp .ne 12, 3) := by decide +kernel
theorem dX11_ofShip_70 : decode cX11_ofShip 70 = .ok (.aload_n 0, 1) := by decide +kernel
theorem dX11_ofShip_71 : decode cX11_ofShip 71 = .ok (.getfield 63, 3) := by decide +kernel
theorem dX11_ofShip_74 : decode cX11_ofShip 74 = .ok (.iload_n 1, 1) := by decide +kernel
theorem dX11_ofShip_75 : decode cX11_ofShip 75 = .ok (.iaload, 1) := by decide +kernel
theorem dX11_ofShip_76 : decode cX11_ofShip 76 = .ok (.goto 18, 3) := by decide +kernel
theorem dX11_ofShip_79 : decode cX11_ofShip 79 = .ok (.iload_n 2, 1) := by decide +kernel
theorem dX11_ofShip_80 : decode cX11_ofShip 80 = .ok (.iconst 3, 1) := by decide +kernel
theorem dX11_ofShip_81 : decode cX11_ofShip 81 = .ok (.if_icmp .ne 11, 3) := by decide +kernel
theorem dX11_ofShip_84 : decode cX11_ofShip 84 = .ok (.aload_n 0, 1) := by decide +kernel
theorem dX11_ofShip_85 : decode cX11_ofShip 85 = .ok (.iload_n 1, 1) := by decide +kernel
theorem dX11_ofShip_86 : decode cX11_ofShip 86 = .ok (.invokevirtual 170, 3) := by decide +kernel
theorem dX11_ofShip_89 : decode cX11_ofShip 89 = .ok (.goto 5, 3) := by decide +kernel
theorem dX11_ofShip_92 : decode cX11_ofShip 92 = .ok (.bipush (-2), 2) := by decide +kernel
theorem dX11_ofShip_94 : decode cX11_ofShip 94 = .ok (.ireturn, 1) := by decide +kernel
theorem dX11_fuel_0 : decode cX11_fuel 0 = .ok (.iload_n 1, 1) := by decide +kernel
theorem dX11_fuel_1 : decode cX11_fuel 1 = .ok (.i2l, 1) := by decide +kernel
theorem dX11_fuel_2 : decode cX11_fuel 2 = .ok (.lconst 0, 1) := by decide +kernel
theorem dX11_fuel_3 : decode cX11_fuel 3 = .ok (.ldc2_w 124, 3) := by decide +kernel
theorem dX11_fuel_6 : decode cX11_fuel 6 = .ok (.invokestatic 93, 3) := by decide +kernel
theorem dX11_fuel_9 : decode cX11_fuel 9 = .ok (.ifCond .ne 6, 3) := by decide +kernel
theorem dX11_fuel_12 : decode cX11_fuel 12 = .ok (.bipush (-2), 2) := by decide +kernel
theorem dX11_fuel_14 : decode cX11_fuel 14 = .ok (.ireturn, 1) := by decide +kernel
theorem dX11_fuel_15 : decode cX11_fuel 15 = .ok (.aload_n 0, 1) := by decide +kernel
theorem dX11_fuel_16 : decode cX11_fuel 16 = .ok (.getfield 7, 3) := by decide +kernel
theorem dX11_fuel_19 : decode cX11_fuel 19 = .ok (.istore_n 2, 1) := by decide +kernel
theorem dX11_fuel_20 : decode cX11_fuel 20 = .ok (.aload_n 0, 1) := by decide +kernel
theorem dX11_fuel_21 : decode cX11_fuel 21 = .ok (.iload_n 1, 1) := by decide +kernel
theorem dX11_fuel_22 : decode cX11_fuel 22 = .ok (.putfield 7, 3) := by decide +kernel
theorem dX11_fuel_25 : decode cX11_fuel 25 = .ok (.iload_n 2, 1) := by decide +kernel
theorem dX11_fuel_26 : decode cX11_fuel 26 = .ok (.ireturn, 1) := by decide +kernel
theorem dX11_told_0 : decode cX11_told 0 = .ok (.iconst 0, 1) := by decide +kernel
theorem dX11_told_1 : decode cX11_told 1 = .ok (.istore_n 2, 1) := by decide +kernel
theorem dX11_told_2 : decode cX11_told 2 = .ok (.iload_n 1, 1) := by decide +kernel
theorem dX11_told_3 : decode cX11_told 3 = .ok (.tableswitch 186 0 11 #[61, 66, 71, 76, 81, 129, 134, 139, 144, 149, 176, 181], 61) := by decide +kernel
theorem dX11_told_64 : decode cX11_told 64 = .ok (.aload_n 0, 1) := by decide +kernel
theorem dX11_told_65 : decode cX11_told 65 = .ok (.getfield 90, 3) := by decide +kernel
theorem dX11_told_68 : decode cX11_told 68 = .ok (.ireturn, 1) := by decide +kernel
theorem dX11_told_69 : decode cX11_told 69 = .ok (.aload_n 0, 1) := by decide +kernel
theorem dX11_told_70 : decode cX11_told 70 = .ok (.getfield 158, 3) := by decide +kernel
theorem dX11_told_73 : decode cX11_told 73 = .ok (.ireturn, 1) := by decide +kernel
theorem dX11_told_74 : decode cX11_told 74 = .ok (.aload_n 0, 1) := by decide +kernel
theorem dX11_told_75 : decode cX11_told 75 = .ok (.getfield 133, 3) := by decide +kernel
theorem dX11_told_78 : decode cX11_told 78 = .ok (.ireturn, 1) := by decide +kernel
theorem dX11_told_79 : decode cX11_told 79 = .ok (.aload_n 0, 1) := by decide +kernel
theorem dX11_told_80 : decode cX11_told 80 = .ok (.getfield 130, 3) := by decide +kernel
theorem dX11_told_83 : decode cX11_told 83 = .ok (.ireturn, 1) := by decide +kernel
theorem dX11_told_84 : decode cX11_told 84 = .ok (.iconst 0, 1) := by decide +kernel
theorem dX11_told_85 : decode cX11_told 85 = .ok (.istore_n 3, 1) := by decide +kernel
theorem dX11_told_86 : decode cX11_told 86 = .ok (.iload_n 3, 1) := by decide +kernel
theorem dX11_told_87 : decode cX11_told 87 = .ok (.bipush 18, 2) := by decide +kernel
theorem dX11_told_89 : decode cX11_told 89 = .ok (.if_icmp .ge 18, 3) := by decide +kernel
theorem dX11_told_92 : decode cX11_told 92 = .ok (.iload_n 2, 1) := by decide +kernel
theorem dX11_told_93 : decode cX11_told 93 = .ok (.aload_n 0, 1) := by decide +kernel
theorem dX11_told_94 : decode cX11_told 94 = .ok (.getfield 13, 3) := by decide +kernel
theorem dX11_told_97 : decode cX11_told 97 = .ok (.iload_n 3, 1) := by decide +kernel
theorem dX11_told_98 : decode cX11_told 98 = .ok (.iaload, 1) := by decide +kernel
theorem dX11_told_99 : decode cX11_told 99 = .ok (.iadd, 1) := by decide +kernel
theorem dX11_told_100 : decode cX11_told 100 = .ok (.istore_n 2, 1) := by decide +kernel
theorem dX11_told_101 : decode cX11_told 101 = .ok (.iinc 3 1, 3) := by decide +kernel
theorem dX11_told_104 : decode cX11_told 104 = .ok (.goto (-18), 3) := by decide +kernel
theorem dX11_told_107 : decode cX11_told 107 = .ok (.iconst 0, 1) := by decide +kernel
theorem dX11_told_108 : decode cX11_told 108 = .ok (.istore_n 3, 1) := by decide +kernel
theorem dX11_told_109 : decode cX11_told 109 = .ok (.iload_n 3, 1) := by decide +kernel
theorem dX11_told_110 : decode cX11_told 110 = .ok (.bipush 12, 2) := by decide +kernel
theorem dX11_told_112 : decode cX11_told 112 = .ok (.if_icmp .ge 18, 3) := by decide +kernel
theorem dX11_told_115 : decode cX11_told 115 = .ok (.iload_n 2, 1) := by decide +kernel
theorem dX11_told_116 : decode cX11_told 116 = .ok (.aload_n 0, 1) := by decide +kernel
theorem dX11_told_117 : decode cX11_told 117 = .ok (.getfield 66, 3) := by decide +kernel
theorem dX11_told_120 : decode cX11_told 120 = .ok (.iload_n 3, 1) := by decide +kernel
theorem dX11_told_121 : decode cX11_told 121 = .ok (.iaload, 1) := by decide +kernel
theorem dX11_told_122 : decode cX11_told 122 = .ok (.iadd, 1) := by decide +kernel
theorem dX11_told_123 : decode cX11_told 123 = .ok (.istore_n 2, 1) := by decide +kernel
theorem dX11_told_124 : decode cX11_told 124 = .ok (.iinc 3 1, 3) := by decide +kernel
theorem dX11_told_127 : decode cX11_told 127 = .ok (.goto (-18), 3) := by decide +kernel
theorem dX11_told_130 : decode cX11_told 130 = .ok (.iload_n 2, 1) := by decide +kernel
theorem dX11_told_131 : decode cX11_told 131 = .ok (.ireturn, 1) := by decide +kernel
theorem dX11_told_132 : decode cX11_told 132 = .ok (.aload_n 0, 1) := by decide +kernel
theorem dX11_told_133 : decode cX11_told 133 = .ok (.getfield 143, 3) := by decide +kernel
theorem dX11_told_136 : decode cX11_told 136 = .ok (.ireturn, 1) := by decide +kernel
theorem dX11_told_137 : decode cX11_told 137 = .ok (.aload_n 0, 1) := by decide +kernel
theorem dX11_told_138 : decode cX11_told 138 = .ok (.getfield 146, 3) := by decide +kernel
theorem dX11_told_141 : decode cX11_told 141 = .ok (.ireturn, 1) := by decide +kernel
theorem dX11_told_142 : decode cX11_told 142 = .ok (.aload_n 0, 1) := by decide +kernel
theorem dX11_told_143 : decode cX11_told 143 = .ok (.getfield 140, 3) := by decide +kernel
theorem dX11_told_146 : decode cX11_told 146 = .ok (.ireturn, 1) := by decide +kernel
theorem dX11_told_147 : decode cX11_told 147 = .ok (.aload_n 0, 1) := by decide +kernel
theorem dX11_told_148 : decode cX11_told 148 = .ok (.getfield 118, 3) := by decide +kernel
theorem dX11_told_151 : decode cX11_told 151 = .ok (.ireturn, 1) := by decide +kernel
theorem dX11_told_152 : decode cX11_told 152 = .ok (.iconst 0, 1) := by decide +kernel
theorem dX11_told_153 : decode cX11_told 153 = .ok (.istore_n 3, 1) := by decide +kernel
theorem dX11_told_154 : decode cX11_told 154 = .ok (.iload_n 3, 1) := by decide +kernel
theorem dX11_told_155 : decode cX11_told 155 = .ok (.aload_n 0, 1) := by decide +kernel
theorem dX11_told_156 : decode cX11_told 156 = .ok (.getfield 158, 3) := by decide +kernel
theorem dX11_told_159 : decode cX11_told 159 = .ok (.if_icmp .ge 18, 3) := by decide +kernel
theorem dX11_told_162 : decode cX11_told 162 = .ok (.iload_n 2, 1) := by decide +kernel
theorem dX11_told_163 : decode cX11_told 163 = .ok (.aload_n 0, 1) := by decide +kernel
theorem dX11_told_164 : decode cX11_told 164 = .ok (.getfield 63, 3) := by decide +kernel
theorem dX11_told_167 : decode cX11_told 167 = .ok (.iload_n 3, 1) := by decide +kernel
theorem dX11_told_168 : decode cX11_told 168 = .ok (.iaload, 1) := by decide +kernel
theorem dX11_told_169 : decode cX11_told 169 = .ok (.iadd, 1) := by decide +kernel
theorem dX11_told_170 : decode cX11_told 170 = .ok (.istore_n 2, 1) := by decide +kernel
theorem dX11_told_171 : decode cX11_told 171 = .ok (.iinc 3 1, 3) := by decide +kernel
theorem dX11_told_174 : decode cX11_told 174 = .ok (.goto (-20), 3) := by decide +kernel
theorem dX11_told_177 : decode cX11_told 177 = .ok (.iload_n 2, 1) := by decide +kernel
theorem dX11_told_178 : decode cX11_told 178 = .ok (.ireturn, 1) := by decide +kernel
theorem dX11_told_179 : decode cX11_told 179 = .ok (.aload_n 0, 1) := by decide +kernel
theorem dX11_told_180 : decode cX11_told 180 = .ok (.getfield 177, 3) := by decide +kernel
theorem dX11_told_183 : decode cX11_told 183 = .ok (.ireturn, 1) := by decide +kernel
theorem dX11_told_184 : decode cX11_told 184 = .ok (.aload_n 0, 1) := by decide +kernel
theorem dX11_told_185 : decode cX11_told 185 = .ok (.getfield 7, 3) := by decide +kernel
theorem dX11_told_188 : decode cX11_told 188 = .ok (.ireturn, 1) := by decide +kernel
theorem dX11_told_189 : decode cX11_told 189 = .ok (.ldc 129, 2) := by decide +kernel
theorem dX11_told_191 : decode cX11_told 191 = .ok (.ireturn, 1) := by decide +kernel
theorem dX11_legGain_0 : decode cX11_legGain 0 = .ok (.iconst 0, 1) := by decide +kernel
theorem dX11_legGain_1 : decode cX11_legGain 1 = .ok (.istore 4, 2) := by decide +kernel
theorem dX11_legGain_3 : decode cX11_legGain 3 = .ok (.iconst 0, 1) := by decide +kernel
theorem dX11_legGain_4 : decode cX11_legGain 4 = .ok (.istore 5, 2) := by decide +kernel
theorem dX11_legGain_6 : decode cX11_legGain 6 = .ok (.iload 5, 2) := by decide +kernel
theorem dX11_legGain_8 : decode cX11_legGain 8 = .ok (.iconst 3, 1) := by decide +kernel
theorem dX11_legGain_9 : decode cX11_legGain 9 = .ok (.if_icmp .ge 84, 3) := by decide +kernel
theorem dX11_legGain_12 : decode cX11_legGain 12 = .ok (.iconst 3, 1) := by decide +kernel
theorem dX11_legGain_13 : decode cX11_legGain 13 = .ok (.iload_n 1, 1) := by decide +kernel
theorem dX11_legGain_14 : decode cX11_legGain 14 = .ok (.imul, 1) := by decide +kernel
theorem dX11_legGain_15 : decode cX11_legGain 15 = .ok (.iload 5, 2) := by decide +kernel
theorem dX11_legGain_17 : decode cX11_legGain 17 = .ok (.iadd, 1) := by decide +kernel
theorem dX11_legGain_18 : decode cX11_legGain 18 = .ok (.istore 6, 2) := by decide +kernel
theorem dX11_legGain_20 : decode cX11_legGain 20 = .ok (.iconst 3, 1) := by decide +kernel
theorem dX11_legGain_21 : decode cX11_legGain 21 = .ok (.iload_n 2, 1) := by decide +kernel
theorem dX11_legGain_22 : decode cX11_legGain 22 = .ok (.imul, 1) := by decide +kernel
theorem dX11_legGain_23 : decode cX11_legGain 23 = .ok (.iload 5, 2) := by decide +kernel
theorem dX11_legGain_25 : decode cX11_legGain 25 = .ok (.iadd, 1) := by decide +kernel
theorem dX11_legGain_26 : decode cX11_legGain 26 = .ok (.istore 7, 2) := by decide +kernel
theorem dX11_legGain_28 : decode cX11_legGain 28 = .ok (.aload_n 0, 1) := by decide +kernel
theorem dX11_legGain_29 : decode cX11_legGain 29 = .ok (.iload 7, 2) := by decide +kernel
theorem dX11_legGain_31 : decode cX11_legGain 31 = .ok (.aload_n 0, 1) := by decide +kernel
theorem dX11_legGain_32 : decode cX11_legGain 32 = .ok (.getfield 13, 3) := by decide +kernel
theorem dX11_legGain_35 : decode cX11_legGain 35 = .ok (.iload 7, 2) := by decide +kernel
theorem dX11_legGain_37 : decode cX11_legGain 37 = .ok (.iaload, 1) := by decide +kernel
theorem dX11_legGain_38 : decode cX11_legGain 38 = .ok (.invokevirtual 121, 3) := by decide +kernel
theorem dX11_legGain_41 : decode cX11_legGain 41 = .ok (.aload_n 0, 1) := by decide +kernel
theorem dX11_legGain_42 : decode cX11_legGain 42 = .ok (.getfield 32, 3) := by decide +kernel
theorem dX11_legGain_45 : decode cX11_legGain 45 = .ok (.iload_n 2, 1) := by decide +kernel
theorem dX11_legGain_46 : decode cX11_legGain 46 = .ok (.iaload, 1) := by decide +kernel
theorem dX11_legGain_47 : decode cX11_legGain 47 = .ok (.isub, 1) := by decide +kernel
theorem dX11_legGain_48 : decode cX11_legGain 48 = .ok (.aload_n 0, 1) := by decide +kernel
theorem dX11_legGain_49 : decode cX11_legGain 49 = .ok (.iload 6, 2) := by decide +kernel
theorem dX11_legGain_51 : decode cX11_legGain 51 = .ok (.aload_n 0, 1) := by decide +kernel
theorem dX11_legGain_52 : decode cX11_legGain 52 = .ok (.getfield 13, 3) := by decide +kernel
theorem dX11_legGain_55 : decode cX11_legGain 55 = .ok (.iload 6, 2) := by decide +kernel
theorem dX11_legGain_57 : decode cX11_legGain 57 = .ok (.iaload, 1) := by decide +kernel
theorem dX11_legGain_58 : decode cX11_legGain 58 = .ok (.invokevirtual 121, 3) := by decide +kernel
theorem dX11_legGain_61 : decode cX11_legGain 61 = .ok (.isub, 1) := by decide +kernel
theorem dX11_legGain_62 : decode cX11_legGain 62 = .ok (.aload_n 0, 1) := by decide +kernel
theorem dX11_legGain_63 : decode cX11_legGain 63 = .ok (.getfield 32, 3) := by decide +kernel
theorem dX11_legGain_66 : decode cX11_legGain 66 = .ok (.iload_n 1, 1) := by decide +kernel
theorem dX11_legGain_67 : decode cX11_legGain 67 = .ok (.iaload, 1) := by decide +kernel
theorem dX11_legGain_68 : decode cX11_legGain 68 = .ok (.isub, 1) := by decide +kernel
theorem dX11_legGain_69 : decode cX11_legGain 69 = .ok (.istore 8, 2) := by decide +kernel
theorem dX11_legGain_71 : decode cX11_legGain 71 = .ok (.iload 8, 2) := by decide +kernel
theorem dX11_legGain_73 : decode cX11_legGain 73 = .ok (.iload 4, 2) := by decide +kernel
theorem dX11_legGain_75 : decode cX11_legGain 75 = .ok (.if_icmp .le 8, 3) := by decide +kernel
theorem dX11_legGain_78 : decode cX11_legGain 78 = .ok (.iload 8, 2) := by decide +kernel
theorem dX11_legGain_80 : decode cX11_legGain 80 = .ok (.goto 5, 3) := by decide +kernel
theorem dX11_legGain_83 : decode cX11_legGain 83 = .ok (.iload 4, 2) := by decide +kernel
theorem dX11_legGain_85 : decode cX11_legGain 85 = .ok (.istore 4, 2) := by decide +kernel
theorem dX11_legGain_87 : decode cX11_legGain 87 = .ok (.iinc 5 1, 3) := by decide +kernel
theorem dX11_legGain_90 : decode cX11_legGain 90 = .ok (.goto (-84), 3) := by decide +kernel
theorem dX11_legGain_93 : decode cX11_legGain 93 = .ok (.iload_n 3, 1) := by decide +kernel
theorem dX11_legGain_94 : decode cX11_legGain 94 = .ok (.iload 4, 2) := by decide +kernel
theorem dX11_legGain_96 : decode cX11_legGain 96 = .ok (.imul, 1) := by decide +kernel
theorem dX11_legGain_97 : decode cX11_legGain 97 = .ok (.aload_n 0, 1) := by decide +kernel
theorem dX11_legGain_98 : decode cX11_legGain 98 = .ok (.getfield 7, 3) := by decide +kernel
theorem dX11_legGain_101 : decode cX11_legGain 101 = .ok (.aload_n 0, 1) := by decide +kernel
theorem dX11_legGain_102 : decode cX11_legGain 102 = .ok (.getfield 45, 3) := by decide +kernel
theorem dX11_legGain_105 : decode cX11_legGain 105 = .ok (.bipush 6, 2) := by decide +kernel
theorem dX11_legGain_107 : decode cX11_legGain 107 = .ok (.iload_n 1, 1) := by decide +kernel
theorem dX11_legGain_108 : decode cX11_legGain 108 = .ok (.imul, 1) := by decide +kernel
theorem dX11_legGain_109 : decode cX11_legGain 109 = .ok (.iload_n 2, 1) := by decide +kernel
theorem dX11_legGain_110 : decode cX11_legGain 110 = .ok (.iadd, 1) := by decide +kernel
theorem dX11_legGain_111 : decode cX11_legGain 111 = .ok (.iaload, 1) := by decide +kernel
theorem dX11_legGain_112 : decode cX11_legGain 112 = .ok (.imul, 1) := by decide +kernel
theorem dX11_legGain_113 : decode cX11_legGain 113 = .ok (.isub, 1) := by decide +kernel
theorem dX11_legGain_114 : decode cX11_legGain 114 = .ok (.ireturn, 1) := by decide +kernel
theorem dX11_isLess_0 : decode cX11_isLess 0 = .ok (.iconst 0, 1) := by decide +kernel
theorem dX11_isLess_1 : decode cX11_isLess 1 = .ok (.istore_n 2, 1) := by decide +kernel
theorem dX11_isLess_2 : decode cX11_isLess 2 = .ok (.iload_n 2, 1) := by decide +kernel
theorem dX11_isLess_3 : decode cX11_isLess 3 = .ok (.iload_n 1, 1) := by decide +kernel
theorem dX11_isLess_4 : decode cX11_isLess 4 = .ok (.if_icmp .ge 45, 3) := by decide +kernel
theorem dX11_isLess_7 : decode cX11_isLess 7 = .ok (.aload_n 0, 1) := by decide +kernel
theorem dX11_isLess_8 : decode cX11_isLess 8 = .ok (.getfield 69, 3) := by decide +kernel
theorem dX11_isLess_11 : decode cX11_isLess 11 = .ok (.iload_n 2, 1) := by decide +kernel
theorem dX11_isLess_12 : decode cX11_isLess 12 = .ok (.iaload, 1) := by decide +kernel
theorem dX11_isLess_13 : decode cX11_isLess 13 = .ok (.aload_n 0, 1) := by decide +kernel
theorem dX11_isLess_14 : decode cX11_isLess 14 = .ok (.getfield 72, 3) := by decide +kernel
theorem dX11_isLess_17 : decode cX11_isLess 17 = .ok (.iload_n 2, 1) := by decide +kernel
theorem dX11_isLess_18 : decode cX11_isLess 18 = .ok (.iaload, 1) := by decide +kernel
theorem dX11_isLess_19 : decode cX11_isLess 19 = .ok (.if_icmp .eq 24, 3) := by decide +kernel
theorem dX11_isLess_22 : decode cX11_isLess 22 = .ok (.aload_n 0, 1) := by decide +kernel
theorem dX11_isLess_23 : decode cX11_isLess 23 = .ok (.getfield 69, 3) := by decide +kernel
theorem dX11_isLess_26 : decode cX11_isLess 26 = .ok (.iload_n 2, 1) := by decide +kernel
theorem dX11_isLess_27 : decode cX11_isLess 27 = .ok (.iaload, 1) := by decide +kernel
theorem dX11_isLess_28 : decode cX11_isLess 28 = .ok (.aload_n 0, 1) := by decide +kernel
theorem dX11_isLess_29 : decode cX11_isLess 29 = .ok (.getfield 72, 3) := by decide +kernel
theorem dX11_isLess_32 : decode cX11_isLess 32 = .ok (.iload_n 2, 1) := by decide +kernel
theorem dX11_isLess_33 : decode cX11_isLess 33 = .ok (.iaload, 1) := by decide +kernel
theorem dX11_isLess_34 : decode cX11_isLess 34 = .ok (.if_icmp .ge 7, 3) := by decide +kernel
theorem dX11_isLess_37 : decode cX11_isLess 37 = .ok (.iconst 1, 1) := by decide +kernel
theorem dX11_isLess_38 : decode cX11_isLess 38 = .ok (.goto 4, 3) := by decide +kernel
theorem dX11_isLess_41 : decode cX11_isLess 41 = .ok (.iconst 0, 1) := by decide +kernel
theorem dX11_isLess_42 : decode cX11_isLess 42 = .ok (.ireturn, 1) := by decide +kernel
theorem dX11_isLess_43 : decode cX11_isLess 43 = .ok (.iinc 2 1, 3) := by decide +kernel
theorem dX11_isLess_46 : decode cX11_isLess 46 = .ok (.goto (-44), 3) := by decide +kernel
theorem dX11_isLess_49 : decode cX11_isLess 49 = .ok (.iconst 0, 1) := by decide +kernel
theorem dX11_isLess_50 : decode cX11_isLess 50 = .ok (.ireturn, 1) := by decide +kernel
theorem dX11_look_0 : decode cX11_look 0 = .ok (.iconst 0, 1) := by decide +kernel
theorem dX11_look_1 : decode cX11_look 1 = .ok (.istore_n 3, 1) := by decide +kernel
theorem dX11_look_2 : decode cX11_look 2 = .ok (.iconst 0, 1) := by decide +kernel
theorem dX11_look_3 : decode cX11_look 3 = .ok (.istore 4, 2) := by decide +kernel
theorem dX11_look_5 : decode cX11_look 5 = .ok (.iconst 0, 1) := by decide +kernel
theorem dX11_look_6 : decode cX11_look 6 = .ok (.istore 5, 2) := by decide +kernel
theorem dX11_look_8 : decode cX11_look 8 = .ok (.iload 5, 2) := by decide +kernel
theorem dX11_look_10 : decode cX11_look 10 = .ok (.iload_n 1, 1) := by decide +kernel
theorem dX11_look_11 : decode cX11_look 11 = .ok (.if_icmp .ge 78, 3) := by decide +kernel
theorem dX11_look_14 : decode cX11_look 14 = .ok (.aload_n 0, 1) := by decide +kernel
theorem dX11_look_15 : decode cX11_look 15 = .ok (.getfield 69, 3) := by decide +kernel
theorem dX11_look_18 : decode cX11_look 18 = .ok (.iload 5, 2) := by decide +kernel
theorem dX11_look_20 : decode cX11_look 20 = .ok (.iaload, 1) := by decide +kernel
theorem dX11_look_21 : decode cX11_look 21 = .ok (.istore 6, 2) := by decide +kernel
theorem dX11_look_23 : decode cX11_look 23 = .ok (.aload_n 0, 1) := by decide +kernel
theorem dX11_look_24 : decode cX11_look 24 = .ok (.getfield 69, 3) := by decide +kernel
theorem dX11_look_27 : decode cX11_look 27 = .ok (.iload 5, 2) := by decide +kernel
theorem dX11_look_29 : decode cX11_look 29 = .ok (.iconst 1, 1) := by decide +kernel
theorem dX11_look_30 : decode cX11_look 30 = .ok (.iadd, 1) := by decide +kernel
theorem dX11_look_31 : decode cX11_look 31 = .ok (.iload_n 1, 1) := by decide +kernel
theorem dX11_look_32 : decode cX11_look 32 = .ok (.irem, 1) := by decide +kernel
theorem dX11_look_33 : decode cX11_look 33 = .ok (.iaload, 1) := by decide +kernel
theorem dX11_look_34 : decode cX11_look 34 = .ok (.istore 7, 2) := by decide +kernel
theorem dX11_look_36 : decode cX11_look 36 = .ok (.aload_n 0, 1) := by decide +kernel
theorem dX11_look_37 : decode cX11_look 37 = .ok (.getfield 45, 3) := by decide +kernel
theorem dX11_look_40 : decode cX11_look 40 = .ok (.bipush 6, 2) := by decide +kernel
theorem dX11_look_42 : decode cX11_look 42 = .ok (.iload 6, 2) := by decide +kernel
theorem dX11_look_44 : decode cX11_look 44 = .ok (.imul, 1) := by decide +kernel
theorem dX11_look_45 : decode cX11_look 45 = .ok (.iload 7, 2) := by decide +kernel
theorem dX11_look_47 : decode cX11_look 47 = .ok (.iadd, 1) := by decide +kernel
theorem dX11_look_48 : decode cX11_look 48 = .ok (.iaload, 1) := by decide +kernel
theorem dX11_look_49 : decode cX11_look 49 = .ok (.ifCond .ne 4, 3) := by decide +kernel
theorem dX11_look_52 : decode cX11_look 52 = .ok (.return_, 1) := by decide +kernel
theorem dX11_look_53 : decode cX11_look 53 = .ok (.iload_n 3, 1) := by decide +kernel
theorem dX11_look_54 : decode cX11_look 54 = .ok (.aload_n 0, 1) := by decide +kernel
theorem dX11_look_55 : decode cX11_look 55 = .ok (.iload 6, 2) := by decide +kernel
theorem dX11_look_57 : decode cX11_look 57 = .ok (.iload 7, 2) := by decide +kernel
theorem dX11_look_59 : decode cX11_look 59 = .ok (.iload_n 2, 1) := by decide +kernel
theorem dX11_look_60 : decode cX11_look 60 = .ok (.invokevirtual 184, 3) := by decide +kernel
theorem dX11_look_63 : decode cX11_look 63 = .ok (.iadd, 1) := by decide +kernel
theorem dX11_look_64 : decode cX11_look 64 = .ok (.istore_n 3, 1) := by decide +kernel
theorem dX11_look_65 : decode cX11_look 65 = .ok (.iload 4, 2) := by decide +kernel
theorem dX11_look_67 : decode cX11_look 67 = .ok (.aload_n 0, 1) := by decide +kernel
theorem dX11_look_68 : decode cX11_look 68 = .ok (.getfield 45, 3) := by decide +kernel
theorem dX11_look_71 : decode cX11_look 71 = .ok (.bipush 6, 2) := by decide +kernel
theorem dX11_look_73 : decode cX11_look 73 = .ok (.iload 6, 2) := by decide +kernel
theorem dX11_look_75 : decode cX11_look 75 = .ok (.imul, 1) := by decide +kernel
theorem dX11_look_76 : decode cX11_look 76 = .ok (.iload 7, 2) := by decide +kernel
theorem dX11_look_78 : decode cX11_look 78 = .ok (.iadd, 1) := by decide +kernel
theorem dX11_look_79 : decode cX11_look 79 = .ok (.iaload, 1) := by decide +kernel
theorem dX11_look_80 : decode cX11_look 80 = .ok (.iadd, 1) := by decide +kernel
theorem dX11_look_81 : decode cX11_look 81 = .ok (.istore 4, 2) := by decide +kernel
theorem dX11_look_83 : decode cX11_look 83 = .ok (.iinc 5 1, 3) := by decide +kernel
theorem dX11_look_86 : decode cX11_look 86 = .ok (.goto (-78), 3) := by decide +kernel
theorem dX11_look_89 : decode cX11_look 89 = .ok (.iload_n 3, 1) := by decide +kernel
theorem dX11_look_90 : decode cX11_look 90 = .ok (.i2l, 1) := by decide +kernel
theorem dX11_look_91 : decode cX11_look 91 = .ok (.aload_n 0, 1) := by decide +kernel
theorem dX11_look_92 : decode cX11_look 92 = .ok (.getfield 187, 3) := by decide +kernel
theorem dX11_look_95 : decode cX11_look 95 = .ok (.i2l, 1) := by decide +kernel
theorem dX11_look_96 : decode cX11_look 96 = .ok (.lmul, 1) := by decide +kernel
theorem dX11_look_97 : decode cX11_look 97 = .ok (.lstore 5, 2) := by decide +kernel
theorem dX11_look_99 : decode cX11_look 99 = .ok (.aload_n 0, 1) := by decide +kernel
theorem dX11_look_100 : decode cX11_look 100 = .ok (.getfield 190, 3) := by decide +kernel
theorem dX11_look_103 : decode cX11_look 103 = .ok (.i2l, 1) := by decide +kernel
theorem dX11_look_104 : decode cX11_look 104 = .ok (.iload 4, 2) := by decide +kernel
theorem dX11_look_106 : decode cX11_look 106 = .ok (.i2l, 1) := by decide +kernel
theorem dX11_look_107 : decode cX11_look 107 = .ok (.lmul, 1) := by decide +kernel
theorem dX11_look_108 : decode cX11_look 108 = .ok (.lstore 7, 2) := by decide +kernel
theorem dX11_look_110 : decode cX11_look 110 = .ok (.aload_n 0, 1) := by decide +kernel
theorem dX11_look_111 : decode cX11_look 111 = .ok (.getfield 193, 3) := by decide +kernel
theorem dX11_look_114 : decode cX11_look 114 = .ok (.ifCond .eq 43, 3) := by decide +kernel
theorem dX11_look_117 : decode cX11_look 117 = .ok (.lload 5, 2) := by decide +kernel
theorem dX11_look_119 : decode cX11_look 119 = .ok (.lload 7, 2) := by decide +kernel
theorem dX11_look_121 : decode cX11_look 121 = .ok (.lcmp, 1) := by decide +kernel
theorem dX11_look_122 : decode cX11_look 122 = .ok (.ifCond .gt 35, 3) := by decide +kernel
theorem dX11_look_125 : decode cX11_look 125 = .ok (.lload 5, 2) := by decide +kernel
theorem dX11_look_127 : decode cX11_look 127 = .ok (.lload 7, 2) := by decide +kernel
theorem dX11_look_129 : decode cX11_look 129 = .ok (.lcmp, 1) := by decide +kernel
theorem dX11_look_130 : decode cX11_look 130 = .ok (.ifCond .ne 31, 3) := by decide +kernel
theorem dX11_look_133 : decode cX11_look 133 = .ok (.iload_n 1, 1) := by decide +kernel
theorem dX11_look_134 : decode cX11_look 134 = .ok (.aload_n 0, 1) := by decide +kernel
theorem dX11_look_135 : decode cX11_look 135 = .ok (.getfield 193, 3) := by decide +kernel
theorem dX11_look_138 : decode cX11_look 138 = .ok (.if_icmp .lt 19, 3) := by decide +kernel
theorem dX11_look_141 : decode cX11_look 141 = .ok (.iload_n 1, 1) := by decide +kernel
theorem dX11_look_142 : decode cX11_look 142 = .ok (.aload_n 0, 1) := by decide +kernel
theorem dX11_look_143 : decode cX11_look 143 = .ok (.getfield 193, 3) := by decide +kernel
theorem dX11_look_146 : decode cX11_look 146 = .ok (.if_icmp .ne 15, 3) := by decide +kernel
theorem dX11_look_149 : decode cX11_look 149 = .ok (.aload_n 0, 1) := by decide +kernel
theorem dX11_look_150 : decode cX11_look 150 = .ok (.iload_n 1, 1) := by decide +kernel
theorem dX11_look_151 : decode cX11_look 151 = .ok (.invokevirtual 196, 3) := by decide +kernel
theorem dX11_look_154 : decode cX11_look 154 = .ok (.ifCond .eq 7, 3) := by decide +kernel
theorem dX11_look_157 : decode cX11_look 157 = .ok (.iconst 1, 1) := by decide +kernel
theorem dX11_look_158 : decode cX11_look 158 = .ok (.goto 4, 3) := by decide +kernel
theorem dX11_look_161 : decode cX11_look 161 = .ok (.iconst 0, 1) := by decide +kernel
theorem dX11_look_162 : decode cX11_look 162 = .ok (.istore 9, 2) := by decide +kernel
theorem dX11_look_164 : decode cX11_look 164 = .ok (.iload 9, 2) := by decide +kernel
theorem dX11_look_166 : decode cX11_look 166 = .ok (.ifCond .eq 48, 3) := by decide +kernel
theorem dX11_look_169 : decode cX11_look 169 = .ok (.aload_n 0, 1) := by decide +kernel
theorem dX11_look_170 : decode cX11_look 170 = .ok (.iload_n 1, 1) := by decide +kernel
theorem dX11_look_171 : decode cX11_look 171 = .ok (.putfield 193, 3) := by decide +kernel
theorem dX11_look_174 : decode cX11_look 174 = .ok (.aload_n 0, 1) := by decide +kernel
theorem dX11_look_175 : decode cX11_look 175 = .ok (.iload_n 3, 1) := by decide +kernel
theorem dX11_look_176 : decode cX11_look 176 = .ok (.putfield 190, 3) := by decide +kernel
theorem dX11_look_179 : decode cX11_look 179 = .ok (.aload_n 0, 1) := by decide +kernel
theorem dX11_look_180 : decode cX11_look 180 = .ok (.iload 4, 2) := by decide +kernel
theorem dX11_look_182 : decode cX11_look 182 = .ok (.putfield 187, 3) := by decide +kernel
theorem dX11_look_185 : decode cX11_look 185 = .ok (.iconst 0, 1) := by decide +kernel
theorem dX11_look_186 : decode cX11_look 186 = .ok (.istore 10, 2) := by decide +kernel
theorem dX11_look_188 : decode cX11_look 188 = .ok (.iload 10, 2) := by decide +kernel
theorem dX11_look_190 : decode cX11_look 190 = .ok (.iload_n 1, 1) := by decide +kernel
theorem dX11_look_191 : decode cX11_look 191 = .ok (.if_icmp .ge 23, 3) := by decide +kernel
theorem dX11_look_194 : decode cX11_look 194 = .ok (.aload_n 0, 1) := by decide +kernel
theorem dX11_look_195 : decode cX11_look 195 = .ok (.getfield 72, 3) := by decide +kernel
theorem dX11_look_198 : decode cX11_look 198 = .ok (.iload 10, 2) := by decide +kernel
theorem dX11_look_200 : decode cX11_look 200 = .ok (.aload_n 0, 1) := by decide +kernel
theorem dX11_look_201 : decode cX11_look 201 = .ok (.getfield 69, 3) := by decide +kernel
theorem dX11_look_204 : decode cX11_look 204 = .ok (.iload 10, 2) := by decide +kernel
theorem dX11_look_206 : decode cX11_look 206 = .ok (.iaload, 1) := by decide +kernel
theorem dX11_look_207 : decode cX11_look 207 = .ok (.iastore, 1) := by decide +kernel
theorem dX11_look_208 : decode cX11_look 208 = .ok (.iinc 10 1, 3) := by decide +kernel
theorem dX11_look_211 : decode cX11_look 211 = .ok (.goto (-23), 3) := by decide +kernel
theorem dX11_look_214 : decode cX11_look 214 = .ok (.return_, 1) := by decide +kernel
theorem dX11_lookAll_0 : decode cX11_lookAll 0 = .ok (.iconst 1, 1) := by decide +kernel
theorem dX11_lookAll_1 : decode cX11_lookAll 1 = .ok (.istore_n 3, 1) := by decide +kernel
theorem dX11_lookAll_2 : decode cX11_lookAll 2 = .ok (.iconst 0, 1) := by decide +kernel
theorem dX11_lookAll_3 : decode cX11_lookAll 3 = .ok (.istore 4, 2) := by decide +kernel
theorem dX11_lookAll_5 : decode cX11_lookAll 5 = .ok (.iload 4, 2) := by decide +kernel
theorem dX11_lookAll_7 : decode cX11_lookAll 7 = .ok (.iload_n 1, 1) := by decide +kernel
theorem dX11_lookAll_8 : decode cX11_lookAll 8 = .ok (.if_icmp .ge 16, 3) := by decide +kernel
theorem dX11_lookAll_11 : decode cX11_lookAll 11 = .ok (.iload_n 3, 1) := by decide +kernel
theorem dX11_lookAll_12 : decode cX11_lookAll 12 = .ok (.aload_n 0, 1) := by decide +kernel
theorem dX11_lookAll_13 : decode cX11_lookAll 13 = .ok (.getfield 90, 3) := by decide +kernel
theorem dX11_lookAll_16 : decode cX11_lookAll 16 = .ok (.imul, 1) := by decide +kernel
theorem dX11_lookAll_17 : decode cX11_lookAll 17 = .ok (.istore_n 3, 1) := by decide +kernel
theorem dX11_lookAll_18 : decode cX11_lookAll 18 = .ok (.iinc 4 1, 3) := by decide +kernel
theorem dX11_lookAll_21 : decode cX11_lookAll 21 = .ok (.goto (-16), 3) := by decide +kernel
theorem dX11_lookAll_24 : decode cX11_lookAll 24 = .ok (.iconst 0, 1) := by decide +kernel
theorem dX11_lookAll_25 : decode cX11_lookAll 25 = .ok (.istore 4, 2) := by decide +kernel
theorem dX11_lookAll_27 : decode cX11_lookAll 27 = .ok (.iload 4, 2) := by decide +kernel
theorem dX11_lookAll_29 : decode cX11_lookAll 29 = .ok (.iload_n 3, 1) := by decide +kernel
theorem dX11_lookAll_30 : decode cX11_lookAll 30 = .ok (.if_icmp .ge 168, 3) := by decide +kernel
theorem dX11_lookAll_33 : decode cX11_lookAll 33 = .ok (.iload 4, 2) := by decide +kernel
theorem dX11_lookAll_35 : decode cX11_lookAll 35 = .ok (.istore 5, 2) := by decide +kernel
theorem dX11_lookAll_37 : decode cX11_lookAll 37 = .ok (.iconst 0, 1) := by decide +kernel
theorem dX11_lookAll_38 : decode cX11_lookAll 38 = .ok (.istore 6, 2) := by decide +kernel
theorem dX11_lookAll_40 : decode cX11_lookAll 40 = .ok (.iconst 1, 1) := by decide +kernel
theorem dX11_lookAll_41 : decode cX11_lookAll 41 = .ok (.istore 7, 2) := by decide +kernel
theorem dX11_lookAll_43 : decode cX11_lookAll 43 = .ok (.iload_n 1, 1) := by decide +kernel
theorem dX11_lookAll_44 : decode cX11_lookAll 44 = .ok (.iconst 1, 1) := by decide +kernel
theorem dX11_lookAll_45 : decode cX11_lookAll 45 = .ok (.isub, 1) := by decide +kernel
theorem dX11_lookAll_46 : decode cX11_lookAll 46 = .ok (.istore 8, 2) := by decide +kernel
theorem dX11_lookAll_48 : decode cX11_lookAll 48 = .ok (.iload 8, 2) := by decide +kernel
theorem dX11_lookAll_50 : decode cX11_lookAll 50 = .ok (.ifCond .lt 88, 3) := by decide +kernel
theorem dX11_lookAll_53 : decode cX11_lookAll 53 = .ok (.aload_n 0, 1) := by decide +kernel
theorem dX11_lookAll_54 : decode cX11_lookAll 54 = .ok (.getfield 69, 3) := by decide +kernel
theorem dX11_lookAll_57 : decode cX11_lookAll 57 = .ok (.iload 8, 2) := by decide +kernel
theorem dX11_lookAll_59 : decode cX11_lookAll 59 = .ok (.iload 5, 2) := by decide +kernel
theorem dX11_lookAll_61 : decode cX11_lookAll 61 = .ok (.aload_n 0, 1) := by decide +kernel
theorem dX11_lookAll_62 : decode cX11_lookAll 62 = .ok (.getfield 90, 3) := by decide +kernel
theorem dX11_lookAll_65 : decode cX11_lookAll 65 = .ok (.irem, 1) := by decide +kernel
theorem dX11_lookAll_66 : decode cX11_lookAll 66 = .ok (.iastore, 1) := by decide +kernel
theorem dX11_lookAll_67 : decode cX11_lookAll 67 = .ok (.iload 5, 2) := by decide +kernel
theorem dX11_lookAll_69 : decode cX11_lookAll 69 = .ok (.aload_n 0, 1) := by decide +kernel
theorem dX11_lookAll_70 : decode cX11_lookAll 70 = .ok (.getfield 90, 3) := by decide +kernel
theorem dX11_lookAll_73 : decode cX11_lookAll 73 = .ok (.idiv, 1) := by decide +kernel
theorem dX11_lookAll_74 : decode cX11_lookAll 74 = .ok (.istore 5, 2) := by decide +kernel
theorem dX11_lookAll_76 : decode cX11_lookAll 76 = .ok (.iload 7, 2) := by decide +kernel
theorem dX11_lookAll_78 : decode cX11_lookAll 78 = .ok (.ifCond .eq 37, 3) := by decide +kernel
theorem dX11_lookAll_81 : decode cX11_lookAll 81 = .ok (.iload 6, 2) := by decide +kernel
theorem dX11_lookAll_83 : decode cX11_lookAll 83 = .ok (.aload_n 0, 1) := by decide +kernel
theorem dX11_lookAll_84 : decode cX11_lookAll 84 = .ok (.getfield 69, 3) := by decide +kernel
theorem dX11_lookAll_87 : decode cX11_lookAll 87 = .ok (.iload 8, 2) := by decide +kernel
theorem dX11_lookAll_89 : decode cX11_lookAll 89 = .ok (.iaload, 1) := by decide +kernel
theorem dX11_lookAll_90 : decode cX11_lookAll 90 = .ok (.ishr, 1) := by decide +kernel
theorem dX11_lookAll_91 : decode cX11_lookAll 91 = .ok (.iconst 1, 1) := by decide +kernel
theorem dX11_lookAll_92 : decode cX11_lookAll 92 = .ok (.iand, 1) := by decide +kernel
theorem dX11_lookAll_93 : decode cX11_lookAll 93 = .ok (.ifCond .ne 22, 3) := by decide +kernel
theorem dX11_lookAll_96 : decode cX11_lookAll 96 = .ok (.aload_n 0, 1) := by decide +kernel
theorem dX11_lookAll_97 : decode cX11_lookAll 97 = .ok (.getfield 41, 3) := by decide +kernel
theorem dX11_lookAll_100 : decode cX11_lookAll 100 = .ok (.aload_n 0, 1) := by decide +kernel
theorem dX11_lookAll_101 : decode cX11_lookAll 101 = .ok (.getfield 69, 3) := by decide +kernel
theorem dX11_lookAll_104 : decode cX11_lookAll 104 = .ok (.iload 8, 2) := by decide +kernel
theorem dX11_lookAll_106 : decode cX11_lookAll 106 = .ok (.iaload, 1) := by decide +kernel
theorem dX11_lookAll_107 : decode cX11_lookAll 107 = .ok (.baload, 1) := by decide +kernel
theorem dX11_lookAll_108 : decode cX11_lookAll 108 = .ok (.ifCond .ne 7, 3) := by decide +kernel
theorem dX11_lookAll_111 : decode cX11_lookAll 111 = .ok (.iconst 1, 1) := by decide +kernel
theorem dX11_lookAll_112 : decode cX11_lookAll 112 = .ok (.goto 4, 3) := by decide +kernel
theorem dX11_lookAll_115 : decode cX11_lookAll 115 = .ok (.iconst 0, 1) := by decide +kernel
theorem dX11_lookAll_116 : decode cX11_lookAll 116 = .ok (.istore 7, 2) := by decide +kernel
theorem dX11_lookAll_118 : decode cX11_lookAll 118 = .ok (.iload 6, 2) := by decide +kernel
theorem dX11_lookAll_120 : decode cX11_lookAll 120 = .ok (.iconst 1, 1) := by decide +kernel
theorem dX11_lookAll_121 : decode cX11_lookAll 121 = .ok (.aload_n 0, 1) := by decide +kernel
theorem dX11_lookAll_122 : decode cX11_lookAll 122 = .ok (.getfield 69, 3) := by decide +kernel
theorem dX11_lookAll_125 : decode cX11_lookAll 125 = .ok (.iload 8, 2) := by decide +kernel
theorem dX11_lookAll_127 : decode cX11_lookAll 127 = .ok (.iaload, 1) := by decide +kernel
theorem dX11_lookAll_128 : decode cX11_lookAll 128 = .ok (.ishl, 1) := by decide +kernel
theorem dX11_lookAll_129 : decode cX11_lookAll 129 = .ok (.ior, 1) := by decide +kernel
theorem dX11_lookAll_130 : decode cX11_lookAll 130 = .ok (.istore 6, 2) := by decide +kernel
theorem dX11_lookAll_132 : decode cX11_lookAll 132 = .ok (.iinc 8 (-1), 3) := by decide +kernel
theorem dX11_lookAll_135 : decode cX11_lookAll 135 = .ok (.goto (-87), 3) := by decide +kernel
theorem dX11_lookAll_138 : decode cX11_lookAll 138 = .ok (.iconst 1, 1) := by decide +kernel
theorem dX11_lookAll_139 : decode cX11_lookAll 139 = .ok (.istore 8, 2) := by decide +kernel
theorem dX11_lookAll_141 : decode cX11_lookAll 141 = .ok (.iload 8, 2) := by decide +kernel
theorem dX11_lookAll_143 : decode cX11_lookAll 143 = .ok (.iload_n 1, 1) := by decide +kernel
theorem dX11_lookAll_144 : decode cX11_lookAll 144 = .ok (.if_icmp .ge 37, 3) := by decide +kernel
theorem dX11_lookAll_147 : decode cX11_lookAll 147 = .ok (.iload 7, 2) := by decide +kernel
theorem dX11_lookAll_149 : decode cX11_lookAll 149 = .ok (.ifCond .eq 32, 3) := by decide +kernel
theorem dX11_lookAll_152 : decode cX11_lookAll 152 = .ok (.aload_n 0, 1) := by decide +kernel
theorem dX11_lookAll_153 : decode cX11_lookAll 153 = .ok (.getfield 69, 3) := by decide +kernel
theorem dX11_lookAll_156 : decode cX11_lookAll 156 = .ok (.iload 8, 2) := by decide +kernel
theorem dX11_lookAll_158 : decode cX11_lookAll 158 = .ok (.iaload, 1) := by decide +kernel
theorem dX11_lookAll_159 : decode cX11_lookAll 159 = .ok (.aload_n 0, 1) := by decide +kernel
theorem dX11_lookAll_160 : decode cX11_lookAll 160 = .ok (.getfield 69, 3) := by decide +kernel
theorem dX11_lookAll_163 : decode cX11_lookAll 163 = .ok (.iconst 0, 1) := by decide +kernel
theorem dX11_lookAll_164 : decode cX11_lookAll 164 = .ok (.iaload, 1) := by decide +kernel
theorem dX11_lookAll_165 : decode cX11_lookAll 165 = .ok (.if_icmp .le 7, 3) := by decide +kernel
theorem dX11_lookAll_168 : decode cX11_lookAll 168 = .ok (.iconst 1, 1) := by decide +kernel
theorem dX11_lookAll_169 : decode cX11_lookAll 169 = .ok (.goto 4, 3) := by decide +kernel
theorem dX11_lookAll_172 : decode cX11_lookAll 172 = .ok (.iconst 0, 1) := by decide +kernel
theorem dX11_lookAll_173 : decode cX11_lookAll 173 = .ok (.istore 7, 2) := by decide +kernel
theorem dX11_lookAll_175 : decode cX11_lookAll 175 = .ok (.iinc 8 1, 3) := by decide +kernel
theorem dX11_lookAll_178 : decode cX11_lookAll 178 = .ok (.goto (-37), 3) := by decide +kernel
theorem dX11_lookAll_181 : decode cX11_lookAll 181 = .ok (.iload 7, 2) := by decide +kernel
theorem dX11_lookAll_183 : decode cX11_lookAll 183 = .ok (.ifCond .eq 9, 3) := by decide +kernel
theorem dX11_lookAll_186 : decode cX11_lookAll 186 = .ok (.aload_n 0, 1) := by decide +kernel
theorem dX11_lookAll_187 : decode cX11_lookAll 187 = .ok (.iload_n 1, 1) := by decide +kernel
theorem dX11_lookAll_188 : decode cX11_lookAll 188 = .ok (.iload_n 2, 1) := by decide +kernel
theorem dX11_lookAll_189 : decode cX11_lookAll 189 = .ok (.invokevirtual 199, 3) := by decide +kernel
theorem dX11_lookAll_192 : decode cX11_lookAll 192 = .ok (.iinc 4 1, 3) := by decide +kernel
theorem dX11_lookAll_195 : decode cX11_lookAll 195 = .ok (.goto (-168), 3) := by decide +kernel
theorem dX11_lookAll_198 : decode cX11_lookAll 198 = .ok (.return_, 1) := by decide +kernel
theorem dX11_ring_0 : decode cX11_ring 0 = .ok (.iload_n 1, 1) := by decide +kernel
theorem dX11_ring_1 : decode cX11_ring 1 = .ok (.i2l, 1) := by decide +kernel
theorem dX11_ring_2 : decode cX11_ring 2 = .ok (.lconst 1, 1) := by decide +kernel
theorem dX11_ring_3 : decode cX11_ring 3 = .ok (.ldc2_w 124, 3) := by decide +kernel
theorem dX11_ring_6 : decode cX11_ring 6 = .ok (.invokestatic 93, 3) := by decide +kernel
theorem dX11_ring_9 : decode cX11_ring 9 = .ok (.ifCond .eq 21, 3) := by decide +kernel
theorem dX11_ring_12 : decode cX11_ring 12 = .ok (.iload_n 2, 1) := by decide +kernel
theorem dX11_ring_13 : decode cX11_ring 13 = .ok (.ifCond .lt 17, 3) := by decide +kernel
theorem dX11_ring_16 : decode cX11_ring 16 = .ok (.iload_n 2, 1) := by decide +kernel
theorem dX11_ring_17 : decode cX11_ring 17 = .ok (.i2l, 1) := by decide +kernel
theorem dX11_ring_18 : decode cX11_ring 18 = .ok (.ldc2_w 203, 3) := by decide +kernel
theorem dX11_ring_21 : decode cX11_ring 21 = .ok (.ldc2_w 126, 3) := by decide +kernel
theorem dX11_ring_24 : decode cX11_ring 24 = .ok (.invokestatic 93, 3) := by decide +kernel
theorem dX11_ring_27 : decode cX11_ring 27 = .ok (.ifCond .eq 6, 3) := by decide +kernel
theorem dX11_ring_30 : decode cX11_ring 30 = .ok (.ldc 129, 2) := by decide +kernel
theorem dX11_ring_32 : decode cX11_ring 32 = .ok (.ireturn, 1) := by decide +kernel
theorem dX11_ring_33 : decode cX11_ring 33 = .ok (.aload_n 0, 1) := by decide +kernel
theorem dX11_ring_34 : decode cX11_ring 34 = .ok (.iconst 0, 1) := by decide +kernel
theorem dX11_ring_35 : decode cX11_ring 35 = .ok (.putfield 193, 3) := by decide +kernel
theorem dX11_ring_38 : decode cX11_ring 38 = .ok (.aload_n 0, 1) := by decide +kernel
theorem dX11_ring_39 : decode cX11_ring 39 = .ok (.iconst 0, 1) := by decide +kernel
theorem dX11_ring_40 : decode cX11_ring 40 = .ok (.putfield 190, 3) := by decide +kernel
theorem dX11_ring_43 : decode cX11_ring 43 = .ok (.aload_n 0, 1) := by decide +kernel
theorem dX11_ring_44 : decode cX11_ring 44 = .ok (.iconst 0, 1) := by decide +kernel
theorem dX11_ring_45 : decode cX11_ring 45 = .ok (.putfield 187, 3) := by decide +kernel
theorem dX11_ring_48 : decode cX11_ring 48 = .ok (.iconst 2, 1) := by decide +kernel
theorem dX11_ring_49 : decode cX11_ring 49 = .ok (.istore_n 3, 1) := by decide +kernel
theorem dX11_ring_50 : decode cX11_ring 50 = .ok (.iload_n 3, 1) := by decide +kernel
theorem dX11_ring_51 : decode cX11_ring 51 = .ok (.aload_n 0, 1) := by decide +kernel
theorem dX11_ring_52 : decode cX11_ring 52 = .ok (.getfield 90, 3) := by decide +kernel
theorem dX11_ring_55 : decode cX11_ring 55 = .ok (.if_icmp .gt 15, 3) := by decide +kernel
theorem dX11_ring_58 : decode cX11_ring 58 = .ok (.aload_n 0, 1) := by decide +kernel
theorem dX11_ring_59 : decode cX11_ring 59 = .ok (.iload_n 3, 1) := by decide +kernel
theorem dX11_ring_60 : decode cX11_ring 60 = .ok (.iload_n 1, 1) := by decide +kernel
theorem dX11_ring_61 : decode cX11_ring 61 = .ok (.invokevirtual 205, 3) := by decide +kernel
theorem dX11_ring_64 : decode cX11_ring 64 = .ok (.iinc 3 1, 3) := by decide +kernel
theorem dX11_ring_67 : decode cX11_ring 67 = .ok (.goto (-17), 3) := by decide +kernel
theorem dX11_ring_70 : decode cX11_ring 70 = .ok (.aload_n 0, 1) := by decide +kernel
theorem dX11_ring_71 : decode cX11_ring 71 = .ok (.getfield 193, 3) := by decide +kernel
theorem dX11_ring_74 : decode cX11_ring 74 = .ok (.ifCond .ne 6, 3) := by decide +kernel
theorem dX11_ring_77 : decode cX11_ring 77 = .ok (.ldc 208, 2) := by decide +kernel
theorem dX11_ring_79 : decode cX11_ring 79 = .ok (.ireturn, 1) := by decide +kernel
theorem dX11_ring_80 : decode cX11_ring 80 = .ok (.iload_n 2, 1) := by decide +kernel
theorem dX11_ring_81 : decode cX11_ring 81 = .ok (.bipush 9, 2) := by decide +kernel
theorem dX11_ring_83 : decode cX11_ring 83 = .ok (.if_icmp .le 29, 3) := by decide +kernel
theorem dX11_ring_86 : decode cX11_ring 86 = .ok (.iload_n 2, 1) := by decide +kernel
theorem dX11_ring_87 : decode cX11_ring 87 = .ok (.bipush 10, 2) := by decide +kernel
theorem dX11_ring_89 : decode cX11_ring 89 = .ok (.isub, 1) := by decide +kernel
theorem dX11_ring_90 : decode cX11_ring 90 = .ok (.aload_n 0, 1) := by decide +kernel
theorem dX11_ring_91 : decode cX11_ring 91 = .ok (.getfield 193, 3) := by decide +kernel
theorem dX11_ring_94 : decode cX11_ring 94 = .ok (.if_icmp .ge 15, 3) := by decide +kernel
theorem dX11_ring_97 : decode cX11_ring 97 = .ok (.aload_n 0, 1) := by decide +kernel
theorem dX11_ring_98 : decode cX11_ring 98 = .ok (.getfield 72, 3) := by decide +kernel
theorem dX11_ring_101 : decode cX11_ring 101 = .ok (.iload_n 2, 1) := by decide +kernel
theorem dX11_ring_102 : decode cX11_ring 102 = .ok (.bipush 10, 2) := by decide +kernel
theorem dX11_ring_104 : decode cX11_ring 104 = .ok (.isub, 1) := by decide +kernel
theorem dX11_ring_105 : decode cX11_ring 105 = .ok (.iaload, 1) := by decide +kernel
theorem dX11_ring_106 : decode cX11_ring 106 = .ok (.goto 5, 3) := by decide +kernel
theorem dX11_ring_109 : decode cX11_ring 109 = .ok (.bipush (-6), 2) := by decide +kernel
theorem dX11_ring_111 : decode cX11_ring 111 = .ok (.ireturn, 1) := by decide +kernel
theorem dX11_ring_112 : decode cX11_ring 112 = .ok (.iload_n 2, 1) := by decide +kernel
theorem dX11_ring_113 : decode cX11_ring 113 = .ok (.ifCond .ne 10, 3) := by decide +kernel
theorem dX11_ring_116 : decode cX11_ring 116 = .ok (.aload_n 0, 1) := by decide +kernel
theorem dX11_ring_117 : decode cX11_ring 117 = .ok (.getfield 190, 3) := by decide +kernel
theorem dX11_ring_120 : decode cX11_ring 120 = .ok (.goto 19, 3) := by decide +kernel
theorem dX11_ring_123 : decode cX11_ring 123 = .ok (.iload_n 2, 1) := by decide +kernel
theorem dX11_ring_124 : decode cX11_ring 124 = .ok (.iconst 1, 1) := by decide +kernel
theorem dX11_ring_125 : decode cX11_ring 125 = .ok (.if_icmp .ne 10, 3) := by decide +kernel
theorem dX11_ring_128 : decode cX11_ring 128 = .ok (.aload_n 0, 1) := by decide +kernel
theorem dX11_ring_129 : decode cX11_ring 129 = .ok (.getfield 187, 3) := by decide +kernel
theorem dX11_ring_132 : decode cX11_ring 132 = .ok (.goto 7, 3) := by decide +kernel
theorem dX11_ring_135 : decode cX11_ring 135 = .ok (.aload_n 0, 1) := by decide +kernel
theorem dX11_ring_136 : decode cX11_ring 136 = .ok (.getfield 193, 3) := by decide +kernel
theorem dX11_ring_139 : decode cX11_ring 139 = .ok (.ireturn, 1) := by decide +kernel
theorem dX11_tickThen_0 : decode cX11_tickThen 0 = .ok (.iconst 0, 1) := by decide +kernel
theorem dX11_tickThen_1 : decode cX11_tickThen 1 = .ok (.istore_n 1, 1) := by decide +kernel
theorem dX11_tickThen_2 : decode cX11_tickThen 2 = .ok (.iload_n 1, 1) := by decide +kernel
theorem dX11_tickThen_3 : decode cX11_tickThen 3 = .ok (.aload_n 0, 1) := by decide +kernel
theorem dX11_tickThen_4 : decode cX11_tickThen 4 = .ok (.getfield 130, 3) := by decide +kernel
theorem dX11_tickThen_7 : decode cX11_tickThen 7 = .ok (.if_icmp .ge 54, 3) := by decide +kernel
theorem dX11_tickThen_10 : decode cX11_tickThen 10 = .ok (.aload_n 0, 1) := by decide +kernel
theorem dX11_tickThen_11 : decode cX11_tickThen 11 = .ok (.getfield 48, 3) := by decide +kernel
theorem dX11_tickThen_14 : decode cX11_tickThen 14 = .ok (.iload_n 1, 1) := by decide +kernel
theorem dX11_tickThen_15 : decode cX11_tickThen 15 = .ok (.iaload, 1) := by decide +kernel
theorem dX11_tickThen_16 : decode cX11_tickThen 16 = .ok (.aload_n 0, 1) := by decide +kernel
theorem dX11_tickThen_17 : decode cX11_tickThen 17 = .ok (.getfield 209, 3) := by decide +kernel
theorem dX11_tickThen_20 : decode cX11_tickThen 20 = .ok (.if_icmp .ne 35, 3) := by decide +kernel
theorem dX11_tickThen_23 : decode cX11_tickThen 23 = .ok (.aload_n 0, 1) := by decide +kernel
theorem dX11_tickThen_24 : decode cX11_tickThen 24 = .ok (.getfield 75, 3) := by decide +kernel
theorem dX11_tickThen_27 : decode cX11_tickThen 27 = .ok (.aload_n 0, 1) := by decide +kernel
theorem dX11_tickThen_28 : decode cX11_tickThen 28 = .ok (.getfield 51, 3) := by decide +kernel
theorem dX11_tickThen_31 : decode cX11_tickThen 31 = .ok (.iload_n 1, 1) := by decide +kernel
theorem dX11_tickThen_32 : decode cX11_tickThen 32 = .ok (.iaload, 1) := by decide +kernel
theorem dX11_tickThen_33 : decode cX11_tickThen 33 = .ok (.aload_n 0, 1) := by decide +kernel
theorem dX11_tickThen_34 : decode cX11_tickThen 34 = .ok (.getfield 75, 3) := by decide +kernel
theorem dX11_tickThen_37 : decode cX11_tickThen 37 = .ok (.aload_n 0, 1) := by decide +kernel
theorem dX11_tickThen_38 : decode cX11_tickThen 38 = .ok (.getfield 51, 3) := by decide +kernel
theorem dX11_tickThen_41 : decode cX11_tickThen 41 = .ok (.iload_n 1, 1) := by decide +kernel
theorem dX11_tickThen_42 : decode cX11_tickThen 42 = .ok (.iaload, 1) := by decide +kernel
theorem dX11_tickThen_43 : decode cX11_tickThen 43 = .ok (.iaload, 1) := by decide +kernel
theorem dX11_tickThen_44 : decode cX11_tickThen 44 = .ok (.aload_n 0, 1) := by decide +kernel
theorem dX11_tickThen_45 : decode cX11_tickThen 45 = .ok (.getfield 54, 3) := by decide +kernel
theorem dX11_tickThen_48 : decode cX11_tickThen 48 = .ok (.iload_n 1, 1) := by decide +kernel
theorem dX11_tickThen_49 : decode cX11_tickThen 49 = .ok (.iaload, 1) := by decide +kernel
theorem dX11_tickThen_50 : decode cX11_tickThen 50 = .ok (.iadd, 1) := by decide +kernel
theorem dX11_tickThen_51 : decode cX11_tickThen 51 = .ok (.invokestatic 136, 3) := by decide +kernel
theorem dX11_tickThen_54 : decode cX11_tickThen 54 = .ok (.iastore, 1) := by decide +kernel
theorem dX11_tickThen_55 : decode cX11_tickThen 55 = .ok (.iinc 1 1, 3) := by decide +kernel
theorem dX11_tickThen_58 : decode cX11_tickThen 58 = .ok (.goto (-56), 3) := by decide +kernel
theorem dX11_tickThen_61 : decode cX11_tickThen 61 = .ok (.iconst 0, 1) := by decide +kernel
theorem dX11_tickThen_62 : decode cX11_tickThen 62 = .ok (.istore_n 1, 1) := by decide +kernel
theorem dX11_tickThen_63 : decode cX11_tickThen 63 = .ok (.iload_n 1, 1) := by decide +kernel
theorem dX11_tickThen_64 : decode cX11_tickThen 64 = .ok (.iconst 3, 1) := by decide +kernel
theorem dX11_tickThen_65 : decode cX11_tickThen 65 = .ok (.aload_n 0, 1) := by decide +kernel
theorem dX11_tickThen_66 : decode cX11_tickThen 66 = .ok (.getfield 90, 3) := by decide +kernel
theorem dX11_tickThen_69 : decode cX11_tickThen 69 = .ok (.imul, 1) := by decide +kernel
theorem dX11_tickThen_70 : decode cX11_tickThen 70 = .ok (.if_icmp .ge 54, 3) := by decide +kernel
theorem dX11_tickThen_73 : decode cX11_tickThen 73 = .ok (.aload_n 0, 1) := by decide +kernel
theorem dX11_tickThen_74 : decode cX11_tickThen 74 = .ok (.getfield 75, 3) := by decide +kernel
theorem dX11_tickThen_77 : decode cX11_tickThen 77 = .ok (.iload_n 1, 1) := by decide +kernel
theorem dX11_tickThen_78 : decode cX11_tickThen 78 = .ok (.iaload, 1) := by decide +kernel
theorem dX11_tickThen_79 : decode cX11_tickThen 79 = .ok (.aload_n 0, 1) := by decide +kernel
theorem dX11_tickThen_80 : decode cX11_tickThen 80 = .ok (.getfield 17, 3) := by decide +kernel
theorem dX11_tickThen_83 : decode cX11_tickThen 83 = .ok (.iload_n 1, 1) := by decide +kernel
theorem dX11_tickThen_84 : decode cX11_tickThen 84 = .ok (.iaload, 1) := by decide +kernel
theorem dX11_tickThen_85 : decode cX11_tickThen 85 = .ok (.iadd, 1) := by decide +kernel
theorem dX11_tickThen_86 : decode cX11_tickThen 86 = .ok (.invokestatic 136, 3) := by decide +kernel
theorem dX11_tickThen_89 : decode cX11_tickThen 89 = .ok (.istore_n 2, 1) := by decide +kernel
theorem dX11_tickThen_90 : decode cX11_tickThen 90 = .ok (.aload_n 0, 1) := by decide +kernel
theorem dX11_tickThen_91 : decode cX11_tickThen 91 = .ok (.getfield 75, 3) := by decide +kernel
theorem dX11_tickThen_94 : decode cX11_tickThen 94 = .ok (.iload_n 1, 1) := by decide +kernel
theorem dX11_tickThen_95 : decode cX11_tickThen 95 = .ok (.iload_n 2, 1) := by decide +kernel
theorem dX11_tickThen_96 : decode cX11_tickThen 96 = .ok (.iload_n 2, 1) := by decide +kernel
theorem dX11_tickThen_97 : decode cX11_tickThen 97 = .ok (.aload_n 0, 1) := by decide +kernel
theorem dX11_tickThen_98 : decode cX11_tickThen 98 = .ok (.getfield 20, 3) := by decide +kernel
theorem dX11_tickThen_101 : decode cX11_tickThen 101 = .ok (.iload_n 1, 1) := by decide +kernel
theorem dX11_tickThen_102 : decode cX11_tickThen 102 = .ok (.iaload, 1) := by decide +kernel
theorem dX11_tickThen_103 : decode cX11_tickThen 103 = .ok (.if_icmp .ge 7, 3) := by decide +kernel
theorem dX11_tickThen_106 : decode cX11_tickThen 106 = .ok (.iload_n 2, 1) := by decide +kernel
theorem dX11_tickThen_107 : decode cX11_tickThen 107 = .ok (.goto 9, 3) := by decide +kernel
theorem dX11_tickThen_110 : decode cX11_tickThen 110 = .ok (.aload_n 0, 1) := by decide +kernel
theorem dX11_tickThen_111 : decode cX11_tickThen 111 = .ok (.getfield 20, 3) := by decide +kernel
theorem dX11_tickThen_114 : decode cX11_tickThen 114 = .ok (.iload_n 1, 1) := by decide +kernel
theorem dX11_tickThen_115 : decode cX11_tickThen 115 = .ok (.iaload, 1) := by decide +kernel
theorem dX11_tickThen_116 : decode cX11_tickThen 116 = .ok (.isub, 1) := by decide +kernel
theorem dX11_tickThen_117 : decode cX11_tickThen 117 = .ok (.iastore, 1) := by decide +kernel
theorem dX11_tickThen_118 : decode cX11_tickThen 118 = .ok (.iinc 1 1, 3) := by decide +kernel
theorem dX11_tickThen_121 : decode cX11_tickThen 121 = .ok (.goto (-58), 3) := by decide +kernel
theorem dX11_tickThen_124 : decode cX11_tickThen 124 = .ok (.aload_n 0, 1) := by decide +kernel
theorem dX11_tickThen_125 : decode cX11_tickThen 125 = .ok (.dup, 1) := by decide +kernel
theorem dX11_tickThen_126 : decode cX11_tickThen 126 = .ok (.getfield 209, 3) := by decide +kernel
theorem dX11_tickThen_129 : decode cX11_tickThen 129 = .ok (.iconst 1, 1) := by decide +kernel
theorem dX11_tickThen_130 : decode cX11_tickThen 130 = .ok (.iadd, 1) := by decide +kernel
theorem dX11_tickThen_131 : decode cX11_tickThen 131 = .ok (.putfield 209, 3) := by decide +kernel
theorem dX11_tickThen_134 : decode cX11_tickThen 134 = .ok (.return_, 1) := by decide +kernel
theorem dX11_trip_0 : decode cX11_trip 0 = .ok (.aload_n 0, 1) := by decide +kernel
theorem dX11_trip_1 : decode cX11_trip 1 = .ok (.getfield 45, 3) := by decide +kernel
theorem dX11_trip_4 : decode cX11_trip 4 = .ok (.bipush 6, 2) := by decide +kernel
theorem dX11_trip_6 : decode cX11_trip 6 = .ok (.aload_n 0, 1) := by decide +kernel
theorem dX11_trip_7 : decode cX11_trip 7 = .ok (.getfield 212, 3) := by decide +kernel
theorem dX11_trip_10 : decode cX11_trip 10 = .ok (.imul, 1) := by decide +kernel
theorem dX11_trip_11 : decode cX11_trip 11 = .ok (.iload_n 2, 1) := by decide +kernel
theorem dX11_trip_12 : decode cX11_trip 12 = .ok (.iadd, 1) := by decide +kernel
theorem dX11_trip_13 : decode cX11_trip 13 = .ok (.iaload, 1) := by decide +kernel
theorem dX11_trip_14 : decode cX11_trip 14 = .ok (.istore 4, 2) := by decide +kernel
theorem dX11_trip_16 : decode cX11_trip 16 = .ok (.iload 4, 2) := by decide +kernel
theorem dX11_trip_18 : decode cX11_trip 18 = .ok (.ifCond .eq 37, 3) := by decide +kernel
theorem dX11_trip_21 : decode cX11_trip 21 = .ok (.aload_n 0, 1) := by decide +kernel
theorem dX11_trip_22 : decode cX11_trip 22 = .ok (.getfield 41, 3) := by decide +kernel
theorem dX11_trip_25 : decode cX11_trip 25 = .ok (.iload_n 2, 1) := by decide +kernel
theorem dX11_trip_26 : decode cX11_trip 26 = .ok (.baload, 1) := by decide +kernel
theorem dX11_trip_27 : decode cX11_trip 27 = .ok (.ifCond .ne 28, 3) := by decide +kernel
theorem dX11_trip_30 : decode cX11_trip 30 = .ok (.aload_n 0, 1) := by decide +kernel
theorem dX11_trip_31 : decode cX11_trip 31 = .ok (.getfield 41, 3) := by decide +kernel
theorem dX11_trip_34 : decode cX11_trip 34 = .ok (.aload_n 0, 1) := by decide +kernel
theorem dX11_trip_35 : decode cX11_trip 35 = .ok (.getfield 212, 3) := by decide +kernel
theorem dX11_trip_38 : decode cX11_trip 38 = .ok (.baload, 1) := by decide +kernel
theorem dX11_trip_39 : decode cX11_trip 39 = .ok (.ifCond .ne 16, 3) := by decide +kernel
theorem dX11_trip_42 : decode cX11_trip 42 = .ok (.aload_n 0, 1) := by decide +kernel
theorem dX11_trip_43 : decode cX11_trip 43 = .ok (.getfield 209, 3) := by decide +kernel
theorem dX11_trip_46 : decode cX11_trip 46 = .ok (.iload 4, 2) := by decide +kernel
theorem dX11_trip_48 : decode cX11_trip 48 = .ok (.iadd, 1) := by decide +kernel
theorem dX11_trip_49 : decode cX11_trip 49 = .ok (.sipush 999, 3) := by decide +kernel
theorem dX11_trip_52 : decode cX11_trip 52 = .ok (.if_icmp .le 5, 3) := by decide +kernel
theorem dX11_trip_55 : decode cX11_trip 55 = .ok (.iconst 0, 1) := by decide +kernel
theorem dX11_trip_56 : decode cX11_trip 56 = .ok (.ireturn, 1) := by decide +kernel
theorem dX11_trip_57 : decode cX11_trip 57 = .ok (.iconst 0, 1) := by decide +kernel
theorem dX11_trip_58 : decode cX11_trip 58 = .ok (.istore 5, 2) := by decide +kernel
theorem dX11_trip_60 : decode cX11_trip 60 = .ok (.iconst 3, 1) := by decide +kernel
theorem dX11_trip_61 : decode cX11_trip 61 = .ok (.aload_n 0, 1) := by decide +kernel
theorem dX11_trip_62 : decode cX11_trip 62 = .ok (.getfield 212, 3) := by decide +kernel
theorem dX11_trip_65 : decode cX11_trip 65 = .ok (.imul, 1) := by decide +kernel
theorem dX11_trip_66 : decode cX11_trip 66 = .ok (.iload_n 3, 1) := by decide +kernel
theorem dX11_trip_67 : decode cX11_trip 67 = .ok (.iadd, 1) := by decide +kernel
theorem dX11_trip_68 : decode cX11_trip 68 = .ok (.istore 6, 2) := by decide +kernel
theorem dX11_trip_70 : decode cX11_trip 70 = .ok (.iload_n 3, 1) := by decide +kernel
theorem dX11_trip_71 : decode cX11_trip 71 = .ok (.iconst 3, 1) := by decide +kernel
theorem dX11_trip_72 : decode cX11_trip 72 = .ok (.if_icmp .ge 98, 3) := by decide +kernel
theorem dX11_trip_75 : decode cX11_trip 75 = .ok (.iload 5, 2) := by decide +kernel
theorem dX11_trip_77 : decode cX11_trip 77 = .ok (.iload_n 1, 1) := by decide +kernel
theorem dX11_trip_78 : decode cX11_trip 78 = .ok (.if_icmp .ge 92, 3) := by decide +kernel
theorem dX11_trip_81 : decode cX11_trip 81 = .ok (.aload_n 0, 1) := by decide +kernel
theorem dX11_trip_82 : decode cX11_trip 82 = .ok (.getfield 75, 3) := by decide +kernel
theorem dX11_trip_85 : decode cX11_trip 85 = .ok (.iload 6, 2) := by decide +kernel
theorem dX11_trip_87 : decode cX11_trip 87 = .ok (.iaload, 1) := by decide +kernel
theorem dX11_trip_88 : decode cX11_trip 88 = .ok (.ifCond .le 82, 3) := by decide +kernel
theorem dX11_trip_91 : decode cX11_trip 91 = .ok (.aload_n 0, 1) := by decide +kernel
theorem dX11_trip_92 : decode cX11_trip 92 = .ok (.getfield 215, 3) := by decide +kernel
theorem dX11_trip_95 : decode cX11_trip 95 = .ok (.aload_n 0, 1) := by decide +kernel
theorem dX11_trip_96 : decode cX11_trip 96 = .ok (.iload 6, 2) := by decide +kernel
theorem dX11_trip_98 : decode cX11_trip 98 = .ok (.aload_n 0, 1) := by decide +kernel
theorem dX11_trip_99 : decode cX11_trip 99 = .ok (.getfield 75, 3) := by decide +kernel
theorem dX11_trip_102 : decode cX11_trip 102 = .ok (.iload 6, 2) := by decide +kernel
theorem dX11_trip_104 : decode cX11_trip 104 = .ok (.iaload, 1) := by decide +kernel
theorem dX11_trip_105 : decode cX11_trip 105 = .ok (.invokevirtual 121, 3) := by decide +kernel
theorem dX11_trip_108 : decode cX11_trip 108 = .ok (.aload_n 0, 1) := by decide +kernel
theorem dX11_trip_109 : decode cX11_trip 109 = .ok (.getfield 32, 3) := by decide +kernel
theorem dX11_trip_112 : decode cX11_trip 112 = .ok (.aload_n 0, 1) := by decide +kernel
theorem dX11_trip_113 : decode cX11_trip 113 = .ok (.getfield 212, 3) := by decide +kernel
theorem dX11_trip_116 : decode cX11_trip 116 = .ok (.iaload, 1) := by decide +kernel
theorem dX11_trip_117 : decode cX11_trip 117 = .ok (.iadd, 1) := by decide +kernel
theorem dX11_trip_118 : decode cX11_trip 118 = .ok (.if_icmp .lt 52, 3) := by decide +kernel
theorem dX11_trip_121 : decode cX11_trip 121 = .ok (.aload_n 0, 1) := by decide +kernel
theorem dX11_trip_122 : decode cX11_trip 122 = .ok (.dup, 1) := by decide +kernel
theorem dX11_trip_123 : decode cX11_trip 123 = .ok (.getfield 215, 3) := by decide +kernel
theorem dX11_trip_126 : decode cX11_trip 126 = .ok (.aload_n 0, 1) := by decide +kernel
theorem dX11_trip_127 : decode cX11_trip 127 = .ok (.iload 6, 2) := by decide +kernel
theorem dX11_trip_129 : decode cX11_trip 129 = .ok (.aload_n 0, 1) := by decide +kernel
theorem dX11_trip_130 : decode cX11_trip 130 = .ok (.getfield 75, 3) := by decide +kernel
theorem dX11_trip_133 : decode cX11_trip 133 = .ok (.iload 6, 2) := by decide +kernel
theorem dX11_trip_135 : decode cX11_trip 135 = .ok (.iaload, 1) := by decide +kernel
theorem dX11_trip_136 : decode cX11_trip 136 = .ok (.invokevirtual 121, 3) := by decide +kernel
theorem dX11_trip_139 : decode cX11_trip 139 = .ok (.aload_n 0, 1) := by decide +kernel
theorem dX11_trip_140 : decode cX11_trip 140 = .ok (.getfield 32, 3) := by decide +kernel
theorem dX11_trip_143 : decode cX11_trip 143 = .ok (.aload_n 0, 1) := by decide +kernel
theorem dX11_trip_144 : decode cX11_trip 144 = .ok (.getfield 212, 3) := by decide +kernel
theorem dX11_trip_147 : decode cX11_trip 147 = .ok (.iaload, 1) := by decide +kernel
theorem dX11_trip_148 : decode cX11_trip 148 = .ok (.iadd, 1) := by decide +kernel
theorem dX11_trip_149 : decode cX11_trip 149 = .ok (.isub, 1) := by decide +kernel
theorem dX11_trip_150 : decode cX11_trip 150 = .ok (.putfield 215, 3) := by decide +kernel
theorem dX11_trip_153 : decode cX11_trip 153 = .ok (.aload_n 0, 1) := by decide +kernel
theorem dX11_trip_154 : decode cX11_trip 154 = .ok (.getfield 75, 3) := by decide +kernel
theorem dX11_trip_157 : decode cX11_trip 157 = .ok (.iload 6, 2) := by decide +kernel
theorem dX11_trip_159 : decode cX11_trip 159 = .ok (.dup2, 1) := by decide +kernel
theorem dX11_trip_160 : decode cX11_trip 160 = .ok (.iaload, 1) := by decide +kernel
theorem dX11_trip_161 : decode cX11_trip 161 = .ok (.iconst 1, 1) := by decide +kernel
theorem dX11_trip_162 : decode cX11_trip 162 = .ok (.isub, 1) := by decide +kernel
theorem dX11_trip_163 : decode cX11_trip 163 = .ok (.iastore, 1) := by decide +kernel
theorem dX11_trip_164 : decode cX11_trip 164 = .ok (.iinc 5 1, 3) := by decide +kernel
theorem dX11_trip_167 : decode cX11_trip 167 = .ok (.goto (-97), 3) := by decide +kernel
theorem dX11_trip_170 : decode cX11_trip 170 = .ok (.aload_n 0, 1) := by decide +kernel
theorem dX11_trip_171 : decode cX11_trip 171 = .ok (.getfield 215, 3) := by decide +kernel
theorem dX11_trip_174 : decode cX11_trip 174 = .ok (.aload_n 0, 1) := by decide +kernel
theorem dX11_trip_175 : decode cX11_trip 175 = .ok (.getfield 7, 3) := by decide +kernel
theorem dX11_trip_178 : decode cX11_trip 178 = .ok (.iload 4, 2) := by decide +kernel
theorem dX11_trip_180 : decode cX11_trip 180 = .ok (.imul, 1) := by decide +kernel
theorem dX11_trip_181 : decode cX11_trip 181 = .ok (.if_icmp .ge 5, 3) := by decide +kernel
theorem dX11_trip_184 : decode cX11_trip 184 = .ok (.iconst 0, 1) := by decide +kernel
theorem dX11_trip_185 : decode cX11_trip 185 = .ok (.ireturn, 1) := by decide +kernel
theorem dX11_trip_186 : decode cX11_trip 186 = .ok (.aload_n 0, 1) := by decide +kernel
theorem dX11_trip_187 : decode cX11_trip 187 = .ok (.dup, 1) := by decide +kernel
theorem dX11_trip_188 : decode cX11_trip 188 = .ok (.getfield 215, 3) := by decide +kernel
theorem dX11_trip_191 : decode cX11_trip 191 = .ok (.aload_n 0, 1) := by decide +kernel
theorem dX11_trip_192 : decode cX11_trip 192 = .ok (.getfield 7, 3) := by decide +kernel
theorem dX11_trip_195 : decode cX11_trip 195 = .ok (.iload 4, 2) := by decide +kernel
theorem dX11_trip_197 : decode cX11_trip 197 = .ok (.imul, 1) := by decide +kernel
theorem dX11_trip_198 : decode cX11_trip 198 = .ok (.isub, 1) := by decide +kernel
theorem dX11_trip_199 : decode cX11_trip 199 = .ok (.putfield 215, 3) := by decide +kernel
theorem dX11_trip_202 : decode cX11_trip 202 = .ok (.iconst 0, 1) := by decide +kernel
theorem dX11_trip_203 : decode cX11_trip 203 = .ok (.istore 7, 2) := by decide +kernel
theorem dX11_trip_205 : decode cX11_trip 205 = .ok (.iload 7, 2) := by decide +kernel
theorem dX11_trip_207 : decode cX11_trip 207 = .ok (.iload 4, 2) := by decide +kernel
theorem dX11_trip_209 : decode cX11_trip 209 = .ok (.if_icmp .ge 13, 3) := by decide +kernel
theorem dX11_trip_212 : decode cX11_trip 212 = .ok (.aload_n 0, 1) := by decide +kernel
theorem dX11_trip_213 : decode cX11_trip 213 = .ok (.invokevirtual 218, 3) := by decide +kernel
theorem dX11_trip_216 : decode cX11_trip 216 = .ok (.iinc 7 1, 3) := by decide +kernel
theorem dX11_trip_219 : decode cX11_trip 219 = .ok (.goto (-14), 3) := by decide +kernel
theorem dX11_trip_222 : decode cX11_trip 222 = .ok (.aload_n 0, 1) := by decide +kernel
theorem dX11_trip_223 : decode cX11_trip 223 = .ok (.iload_n 2, 1) := by decide +kernel
theorem dX11_trip_224 : decode cX11_trip 224 = .ok (.putfield 212, 3) := by decide +kernel
theorem dX11_trip_227 : decode cX11_trip 227 = .ok (.iconst 3, 1) := by decide +kernel
theorem dX11_trip_228 : decode cX11_trip 228 = .ok (.iload_n 2, 1) := by decide +kernel
theorem dX11_trip_229 : decode cX11_trip 229 = .ok (.imul, 1) := by decide +kernel
theorem dX11_trip_230 : decode cX11_trip 230 = .ok (.iload_n 3, 1) := by decide +kernel
theorem dX11_trip_231 : decode cX11_trip 231 = .ok (.iadd, 1) := by decide +kernel
theorem dX11_trip_232 : decode cX11_trip 232 = .ok (.istore 6, 2) := by decide +kernel
theorem dX11_trip_234 : decode cX11_trip 234 = .ok (.iload_n 3, 1) := by decide +kernel
theorem dX11_trip_235 : decode cX11_trip 235 = .ok (.iconst 3, 1) := by decide +kernel
theorem dX11_trip_236 : decode cX11_trip 236 = .ok (.if_icmp .ge 83, 3) := by decide +kernel
theorem dX11_trip_239 : decode cX11_trip 239 = .ok (.iload 5, 2) := by decide +kernel
theorem dX11_trip_241 : decode cX11_trip 241 = .ok (.ifCond .le 78, 3) := by decide +kernel
theorem dX11_trip_244 : decode cX11_trip 244 = .ok (.aload_n 0, 1) := by decide +kernel
theorem dX11_trip_245 : decode cX11_trip 245 = .ok (.getfield 75, 3) := by decide +kernel
theorem dX11_trip_248 : decode cX11_trip 248 = .ok (.iload 6, 2) := by decide +kernel
theorem dX11_trip_250 : decode cX11_trip 250 = .ok (.iaload, 1) := by decide +kernel
theorem dX11_trip_251 : decode cX11_trip 251 = .ok (.sipush 1000, 3) := by decide +kernel
theorem dX11_trip_254 : decode cX11_trip 254 = .ok (.if_icmp .ge 65, 3) := by decide +kernel
theorem dX11_trip_257 : decode cX11_trip 257 = .ok (.aload_n 0, 1) := by decide +kernel
theorem dX11_trip_258 : decode cX11_trip 258 = .ok (.getfield 215, 3) := by decide +kernel
theorem dX11_trip_261 : decode cX11_trip 261 = .ok (.aload_n 0, 1) := by decide +kernel
theorem dX11_trip_262 : decode cX11_trip 262 = .ok (.iload 6, 2) := by decide +kernel
theorem dX11_trip_264 : decode cX11_trip 264 = .ok (.aload_n 0, 1) := by decide +kernel
theorem dX11_trip_265 : decode cX11_trip 265 = .ok (.getfield 75, 3) := by decide +kernel
theorem dX11_trip_268 : decode cX11_trip 268 = .ok (.iload 6, 2) := by decide +kernel
theorem dX11_trip_270 : decode cX11_trip 270 = .ok (.iaload, 1) := by decide +kernel
theorem dX11_trip_271 : decode cX11_trip 271 = .ok (.invokevirtual 173, 3) := by decide +kernel
theorem dX11_trip_274 : decode cX11_trip 274 = .ok (.iadd, 1) := by decide +kernel
theorem dX11_trip_275 : decode cX11_trip 275 = .ok (.ldc 176, 2) := by decide +kernel
theorem dX11_trip_277 : decode cX11_trip 277 = .ok (.if_icmp .gt 42, 3) := by decide +kernel
theorem dX11_trip_280 : decode cX11_trip 280 = .ok (.aload_n 0, 1) := by decide +kernel
theorem dX11_trip_281 : decode cX11_trip 281 = .ok (.dup, 1) := by decide +kernel
theorem dX11_trip_282 : decode cX11_trip 282 = .ok (.getfield 215, 3) := by decide +kernel
theorem dX11_trip_285 : decode cX11_trip 285 = .ok (.aload_n 0, 1) := by decide +kernel
theorem dX11_trip_286 : decode cX11_trip 286 = .ok (.iload 6, 2) := by decide +kernel
theorem dX11_trip_288 : decode cX11_trip 288 = .ok (.aload_n 0, 1) := by decide +kernel
theorem dX11_trip_289 : decode cX11_trip 289 = .ok (.getfield 75, 3) := by decide +kernel
theorem dX11_trip_292 : decode cX11_trip 292 = .ok (.iload 6, 2) := by decide +kernel
theorem dX11_trip_294 : decode cX11_trip 294 = .ok (.iaload, 1) := by decide +kernel
theorem dX11_trip_295 : decode cX11_trip 295 = .ok (.invokevirtual 173, 3) := by decide +kernel
theorem dX11_trip_298 : decode cX11_trip 298 = .ok (.iadd, 1) := by decide +kernel
theorem dX11_trip_299 : decode cX11_trip 299 = .ok (.putfield 215, 3) := by decide +kernel
theorem dX11_trip_302 : decode cX11_trip 302 = .ok (.aload_n 0, 1) := by decide +kernel
theorem dX11_trip_303 : decode cX11_trip 303 = .ok (.getfield 75, 3) := by decide +kernel
theorem dX11_trip_306 : decode cX11_trip 306 = .ok (.iload 6, 2) := by decide +kernel
theorem dX11_trip_308 : decode cX11_trip 308 = .ok (.dup2, 1) := by decide +kernel
theorem dX11_trip_309 : decode cX11_trip 309 = .ok (.iaload, 1) := by decide +kernel
theorem dX11_trip_310 : decode cX11_trip 310 = .ok (.iconst 1, 1) := by decide +kernel
theorem dX11_trip_311 : decode cX11_trip 311 = .ok (.iadd, 1) := by decide +kernel
theorem dX11_trip_312 : decode cX11_trip 312 = .ok (.iastore, 1) := by decide +kernel
theorem dX11_trip_313 : decode cX11_trip 313 = .ok (.iinc 5 (-1), 3) := by decide +kernel
theorem dX11_trip_316 : decode cX11_trip 316 = .ok (.goto (-82), 3) := by decide +kernel
theorem dX11_trip_319 : decode cX11_trip 319 = .ok (.iconst 1, 1) := by decide +kernel
theorem dX11_trip_320 : decode cX11_trip 320 = .ok (.ireturn, 1) := by decide +kernel
theorem dX11_plan_0 : decode cX11_plan 0 = .ok (.aload_n 0, 1) := by decide +kernel
theorem dX11_plan_1 : decode cX11_plan 1 = .ok (.iload_n 1, 1) := by decide +kernel
theorem dX11_plan_2 : decode cX11_plan 2 = .ok (.invokevirtual 163, 3) := by decide +kernel
theorem dX11_plan_5 : decode cX11_plan 5 = .ok (.ifCond .ne 5, 3) := by decide +kernel
theorem dX11_plan_8 : decode cX11_plan 8 = .ok (.iconst (-1), 1) := by decide +kernel
theorem dX11_plan_9 : decode cX11_plan 9 = .ok (.ireturn, 1) := by decide +kernel
theorem dX11_plan_10 : decode cX11_plan 10 = .ok (.iload_n 2, 1) := by decide +kernel
theorem dX11_plan_11 : decode cX11_plan 11 = .ok (.i2l, 1) := by decide +kernel
theorem dX11_plan_12 : decode cX11_plan 12 = .ok (.lconst 1, 1) := by decide +kernel
theorem dX11_plan_13 : decode cX11_plan 13 = .ok (.ldc2_w 203, 3) := by decide +kernel
theorem dX11_plan_16 : decode cX11_plan 16 = .ok (.invokestatic 93, 3) := by decide +kernel
theorem dX11_plan_19 : decode cX11_plan 19 = .ok (.ifCond .ne 6, 3) := by decide +kernel
theorem dX11_plan_22 : decode cX11_plan 22 = .ok (.bipush (-2), 2) := by decide +kernel
theorem dX11_plan_24 : decode cX11_plan 24 = .ok (.ireturn, 1) := by decide +kernel
theorem dX11_plan_25 : decode cX11_plan 25 = .ok (.iconst 4, 1) := by decide +kernel
theorem dX11_plan_26 : decode cX11_plan 26 = .ok (.aload_n 0, 1) := by decide +kernel
theorem dX11_plan_27 : decode cX11_plan 27 = .ok (.getfield 90, 3) := by decide +kernel
theorem dX11_plan_30 : decode cX11_plan 30 = .ok (.imul, 1) := by decide +kernel
theorem dX11_plan_31 : decode cX11_plan 31 = .ok (.istore_n 3, 1) := by decide +kernel
theorem dX11_plan_32 : decode cX11_plan 32 = .ok (.iload_n 2, 1) := by decide +kernel
theorem dX11_plan_33 : decode cX11_plan 33 = .ok (.iconst 1, 1) := by decide +kernel
theorem dX11_plan_34 : decode cX11_plan 34 = .ok (.if_icmp .ne 7, 3) := by decide +kernel
theorem dX11_plan_37 : decode cX11_plan 37 = .ok (.iload_n 3, 1) := by decide +kernel
theorem dX11_plan_38 : decode cX11_plan 38 = .ok (.goto 19, 3) := by decide +kernel
theorem dX11_plan_41 : decode cX11_plan 41 = .ok (.iload_n 2, 1) := by decide +kernel
theorem dX11_plan_42 : decode cX11_plan 42 = .ok (.iconst 2, 1) := by decide +kernel
theorem dX11_plan_43 : decode cX11_plan 43 = .ok (.if_icmp .ne 9, 3) := by decide +kernel
theorem dX11_plan_46 : decode cX11_plan 46 = .ok (.iload_n 3, 1) := by decide +kernel
theorem dX11_plan_47 : decode cX11_plan 47 = .ok (.iload_n 3, 1) := by decide +kernel
theorem dX11_plan_48 : decode cX11_plan 48 = .ok (.imul, 1) := by decide +kernel
theorem dX11_plan_49 : decode cX11_plan 49 = .ok (.goto 8, 3) := by decide +kernel
theorem dX11_plan_52 : decode cX11_plan 52 = .ok (.iload_n 3, 1) := by decide +kernel
theorem dX11_plan_53 : decode cX11_plan 53 = .ok (.iload_n 3, 1) := by decide +kernel
theorem dX11_plan_54 : decode cX11_plan 54 = .ok (.imul, 1) := by decide +kernel
theorem dX11_plan_55 : decode cX11_plan 55 = .ok (.iload_n 3, 1) := by decide +kernel
theorem dX11_plan_56 : decode cX11_plan 56 = .ok (.imul, 1) := by decide +kernel
theorem dX11_plan_57 : decode cX11_plan 57 = .ok (.istore 4, 2) := by decide +kernel
theorem dX11_plan_59 : decode cX11_plan 59 = .ok (.iconst (-1), 1) := by decide +kernel
theorem dX11_plan_60 : decode cX11_plan 60 = .ok (.istore 5, 2) := by decide +kernel
theorem dX11_plan_62 : decode cX11_plan 62 = .ok (.iconst 0, 1) := by decide +kernel
theorem dX11_plan_63 : decode cX11_plan 63 = .ok (.istore 6, 2) := by decide +kernel
theorem dX11_plan_65 : decode cX11_plan 65 = .ok (.iload 6, 2) := by decide +kernel
theorem dX11_plan_67 : decode cX11_plan 67 = .ok (.iload 4, 2) := by decide +kernel
theorem dX11_plan_69 : decode cX11_plan 69 = .ok (.if_icmp .ge 237, 3) := by decide +kernel
theorem dX11_plan_72 : decode cX11_plan 72 = .ok (.iload 6, 2) := by decide +kernel
theorem dX11_plan_74 : decode cX11_plan 74 = .ok (.istore 7, 2) := by decide +kernel
theorem dX11_plan_76 : decode cX11_plan 76 = .ok (.iload_n 2, 1) := by decide +kernel
theorem dX11_plan_77 : decode cX11_plan 77 = .ok (.iconst 1, 1) := by decide +kernel
theorem dX11_plan_78 : decode cX11_plan 78 = .ok (.isub, 1) := by decide +kernel
theorem dX11_plan_79 : decode cX11_plan 79 = .ok (.istore 8, 2) := by decide +kernel
theorem dX11_plan_81 : decode cX11_plan 81 = .ok (.iload 8, 2) := by decide +kernel
theorem dX11_plan_83 : decode cX11_plan 83 = .ok (.ifCond .lt 42, 3) := by decide +kernel
theorem dX11_plan_86 : decode cX11_plan 86 = .ok (.aload_n 0, 1) := by decide +kernel
theorem dX11_plan_87 : decode cX11_plan 87 = .ok (.getfield 81, 3) := by decide +kernel
theorem dX11_plan_90 : decode cX11_plan 90 = .ok (.iload 8, 2) := by decide +kernel
theorem dX11_plan_92 : decode cX11_plan 92 = .ok (.iload 7, 2) := by decide +kernel
theorem dX11_plan_94 : decode cX11_plan 94 = .ok (.iconst 4, 1) := by decide +kernel
theorem dX11_plan_95 : decode cX11_plan 95 = .ok (.irem, 1) := by decide +kernel
theorem dX11_plan_96 : decode cX11_plan 96 = .ok (.iastore, 1) := by decide +kernel
theorem dX11_plan_97 : decode cX11_plan 97 = .ok (.aload_n 0, 1) := by decide +kernel
theorem dX11_plan_98 : decode cX11_plan 98 = .ok (.getfield 78, 3) := by decide +kernel
theorem dX11_plan_101 : decode cX11_plan 101 = .ok (.iload 8, 2) := by decide +kernel
theorem dX11_plan_103 : decode cX11_plan 103 = .ok (.iload 7, 2) := by decide +kernel
theorem dX11_plan_105 : decode cX11_plan 105 = .ok (.iconst 4, 1) := by decide +kernel
theorem dX11_plan_106 : decode cX11_plan 106 = .ok (.idiv, 1) := by decide +kernel
theorem dX11_plan_107 : decode cX11_plan 107 = .ok (.aload_n 0, 1) := by decide +kernel
theorem dX11_plan_108 : decode cX11_plan 108 = .ok (.getfield 90, 3) := by decide +kernel
theorem dX11_plan_111 : decode cX11_plan 111 = .ok (.irem, 1) := by decide +kernel
theorem dX11_plan_112 : decode cX11_plan 112 = .ok (.iastore, 1) := by decide +kernel
theorem dX11_plan_113 : decode cX11_plan 113 = .ok (.iload 7, 2) := by decide +kernel
theorem dX11_plan_115 : decode cX11_plan 115 = .ok (.iload_n 3, 1) := by decide +kernel
theorem dX11_plan_116 : decode cX11_plan 116 = .ok (.idiv, 1) := by decide +kernel
theorem dX11_plan_117 : decode cX11_plan 117 = .ok (.istore 7, 2) := by decide +kernel
theorem dX11_plan_119 : decode cX11_plan 119 = .ok (.iinc 8 (-1), 3) := by decide +kernel
theorem dX11_plan_122 : decode cX11_plan 122 = .ok (.goto (-41), 3) := by decide +kernel
theorem dX11_plan_125 : decode cX11_plan 125 = .ok (.iconst 0, 1) := by decide +kernel
theorem dX11_plan_126 : decode cX11_plan 126 = .ok (.istore 8, 2) := by decide +kernel
theorem dX11_plan_128 : decode cX11_plan 128 = .ok (.iload 8, 2) := by decide +kernel
theorem dX11_plan_130 : decode cX11_plan 130 = .ok (.bipush 18, 2) := by decide +kernel
theorem dX11_plan_132 : decode cX11_plan 132 = .ok (.if_icmp .ge 23, 3) := by decide +kernel
theorem dX11_plan_135 : decode cX11_plan 135 = .ok (.aload_n 0, 1) := by decide +kernel
theorem dX11_plan_136 : decode cX11_plan 136 = .ok (.getfield 75, 3) := by decide +kernel
theorem dX11_plan_139 : decode cX11_plan 139 = .ok (.iload 8, 2) := by decide +kernel
theorem dX11_plan_141 : decode cX11_plan 141 = .ok (.aload_n 0, 1) := by decide +kernel
theorem dX11_plan_142 : decode cX11_plan 142 = .ok (.getfield 13, 3) := by decide +kernel
theorem dX11_plan_145 : decode cX11_plan 145 = .ok (.iload 8, 2) := by decide +kernel
theorem dX11_plan_147 : decode cX11_plan 147 = .ok (.iaload, 1) := by decide +kernel
theorem dX11_plan_148 : decode cX11_plan 148 = .ok (.iastore, 1) := by decide +kernel
theorem dX11_plan_149 : decode cX11_plan 149 = .ok (.iinc 8 1, 3) := by decide +kernel
theorem dX11_plan_152 : decode cX11_plan 152 = .ok (.goto (-24), 3) := by decide +kernel
theorem dX11_plan_155 : decode cX11_plan 155 = .ok (.aload_n 0, 1) := by decide +kernel
theorem dX11_plan_156 : decode cX11_plan 156 = .ok (.aload_n 0, 1) := by decide +kernel
theorem dX11_plan_157 : decode cX11_plan 157 = .ok (.getfield 133, 3) := by decide +kernel
theorem dX11_plan_160 : decode cX11_plan 160 = .ok (.putfield 209, 3) := by decide +kernel
theorem dX11_plan_163 : decode cX11_plan 163 = .ok (.aload_n 0, 1) := by decide +kernel
theorem dX11_plan_164 : decode cX11_plan 164 = .ok (.aload_n 0, 1) := by decide +kernel
theorem dX11_plan_165 : decode cX11_plan 165 = .ok (.getfield 63, 3) := by decide +kernel
theorem dX11_plan_168 : decode cX11_plan 168 = .ok (.iload_n 1, 1) := by decide +kernel
theorem dX11_plan_169 : decode cX11_plan 169 = .ok (.iaload, 1) := by decide +kernel
theorem dX11_plan_170 : decode cX11_plan 170 = .ok (.putfield 215, 3) := by decide +kernel
theorem dX11_plan_173 : decode cX11_plan 173 = .ok (.aload_n 0, 1) := by decide +kernel
theorem dX11_plan_174 : decode cX11_plan 174 = .ok (.aload_n 0, 1) := by decide +kernel
theorem dX11_plan_175 : decode cX11_plan 175 = .ok (.getfield 57, 3) := by decide +kernel
theorem dX11_plan_178 : decode cX11_plan 178 = .ok (.iload_n 1, 1) := by decide +kernel
theorem dX11_plan_179 : decode cX11_plan 179 = .ok (.iaload, 1) := by decide +kernel
theorem dX11_plan_180 : decode cX11_plan 180 = .ok (.putfield 212, 3) := by decide +kernel
theorem dX11_plan_183 : decode cX11_plan 183 = .ok (.iconst 1, 1) := by decide +kernel
theorem dX11_plan_184 : decode cX11_plan 184 = .ok (.istore 8, 2) := by decide +kernel
theorem dX11_plan_186 : decode cX11_plan 186 = .ok (.iconst 0, 1) := by decide +kernel
theorem dX11_plan_187 : decode cX11_plan 187 = .ok (.istore 9, 2) := by decide +kernel
theorem dX11_plan_189 : decode cX11_plan 189 = .ok (.iload 9, 2) := by decide +kernel
theorem dX11_plan_191 : decode cX11_plan 191 = .ok (.iload_n 2, 1) := by decide +kernel
theorem dX11_plan_192 : decode cX11_plan 192 = .ok (.if_icmp .ge 40, 3) := by decide +kernel
theorem dX11_plan_195 : decode cX11_plan 195 = .ok (.iload 8, 2) := by decide +kernel
theorem dX11_plan_197 : decode cX11_plan 197 = .ok (.ifCond .eq 35, 3) := by decide +kernel
theorem dX11_plan_200 : decode cX11_plan 200 = .ok (.aload_n 0, 1) := by decide +kernel
theorem dX11_plan_201 : decode cX11_plan 201 = .ok (.aload_n 0, 1) := by decide +kernel
theorem dX11_plan_202 : decode cX11_plan 202 = .ok (.getfield 60, 3) := by decide +kernel
theorem dX11_plan_205 : decode cX11_plan 205 = .ok (.iload_n 1, 1) := by decide +kernel
theorem dX11_plan_206 : decode cX11_plan 206 = .ok (.iaload, 1) := by decide +kernel
theorem dX11_plan_207 : decode cX11_plan 207 = .ok (.aload_n 0, 1) := by decide +kernel
theorem dX11_plan_208 : decode cX11_plan 208 = .ok (.getfield 78, 3) := by decide +kernel
theorem dX11_plan_211 : decode cX11_plan 211 = .ok (.iload 9, 2) := by decide +kernel
theorem dX11_plan_213 : decode cX11_plan 213 = .ok (.iaload, 1) := by decide +kernel
theorem dX11_plan_214 : decode cX11_plan 214 = .ok (.aload_n 0, 1) := by decide +kernel
theorem dX11_plan_215 : decode cX11_plan 215 = .ok (.getfield 81, 3) := by decide +kernel
theorem dX11_plan_218 : decode cX11_plan 218 = .ok (.iload 9, 2) := by decide +kernel
theorem dX11_plan_220 : decode cX11_plan 220 = .ok (.iaload, 1) := by decide +kernel
theorem dX11_plan_221 : decode cX11_plan 221 = .ok (.invokevirtual 221, 3) := by decide +kernel
theorem dX11_plan_224 : decode cX11_plan 224 = .ok (.istore 8, 2) := by decide +kernel
theorem dX11_plan_226 : decode cX11_plan 226 = .ok (.iinc 9 1, 3) := by decide +kernel
theorem dX11_plan_229 : decode cX11_plan 229 = .ok (.goto (-40), 3) := by decide +kernel
theorem dX11_plan_232 : decode cX11_plan 232 = .ok (.iload 8, 2) := by decide +kernel
theorem dX11_plan_234 : decode cX11_plan 234 = .ok (.ifCond .eq 66, 3) := by decide +kernel
theorem dX11_plan_237 : decode cX11_plan 237 = .ok (.aload_n 0, 1) := by decide +kernel
theorem dX11_plan_238 : decode cX11_plan 238 = .ok (.getfield 215, 3) := by decide +kernel
theorem dX11_plan_241 : decode cX11_plan 241 = .ok (.iload 5, 2) := by decide +kernel
theorem dX11_plan_243 : decode cX11_plan 243 = .ok (.if_icmp .le 57, 3) := by decide +kernel
theorem dX11_plan_246 : decode cX11_plan 246 = .ok (.aload_n 0, 1) := by decide +kernel
theorem dX11_plan_247 : decode cX11_plan 247 = .ok (.getfield 215, 3) := by decide +kernel
theorem dX11_plan_250 : decode cX11_plan 250 = .ok (.istore 5, 2) := by decide +kernel
theorem dX11_plan_252 : decode cX11_plan 252 = .ok (.aload_n 0, 1) := by decide +kernel
theorem dX11_plan_253 : decode cX11_plan 253 = .ok (.iload_n 2, 1) := by decide +kernel
theorem dX11_plan_254 : decode cX11_plan 254 = .ok (.putfield 225, 3) := by decide +kernel
theorem dX11_plan_257 : decode cX11_plan 257 = .ok (.iconst 0, 1) := by decide +kernel
theorem dX11_plan_258 : decode cX11_plan 258 = .ok (.istore 9, 2) := by decide +kernel
theorem dX11_plan_260 : decode cX11_plan 260 = .ok (.iload 9, 2) := by decide +kernel
theorem dX11_plan_262 : decode cX11_plan 262 = .ok (.iload_n 2, 1) := by decide +kernel
theorem dX11_plan_263 : decode cX11_plan 263 = .ok (.if_icmp .ge 37, 3) := by decide +kernel
theorem dX11_plan_266 : decode cX11_plan 266 = .ok (.aload_n 0, 1) := by decide +kernel
theorem dX11_plan_267 : decode cX11_plan 267 = .ok (.getfield 84, 3) := by decide +kernel
theorem dX11_plan_270 : decode cX11_plan 270 = .ok (.iload 9, 2) := by decide +kernel
theorem dX11_plan_272 : decode cX11_plan 272 = .ok (.aload_n 0, 1) := by decide +kernel
theorem dX11_plan_273 : decode cX11_plan 273 = .ok (.getfield 78, 3) := by decide +kernel
theorem dX11_plan_276 : decode cX11_plan 276 = .ok (.iload 9, 2) := by decide +kernel
theorem dX11_plan_278 : decode cX11_plan 278 = .ok (.iaload, 1) := by decide +kernel
theorem dX11_plan_279 : decode cX11_plan 279 = .ok (.iastore, 1) := by decide +kernel
theorem dX11_plan_280 : decode cX11_plan 280 = .ok (.aload_n 0, 1) := by decide +kernel
theorem dX11_plan_281 : decode cX11_plan 281 = .ok (.getfield 87, 3) := by decide +kernel
theorem dX11_plan_284 : decode cX11_plan 284 = .ok (.iload 9, 2) := by decide +kernel
theorem dX11_plan_286 : decode cX11_plan 286 = .ok (.aload_n 0, 1) := by decide +kernel
theorem dX11_plan_287 : decode cX11_plan 287 = .ok (.getfield 81, 3) := by decide +kernel
theorem dX11_plan_290 : decode cX11_plan 290 = .ok (.iload 9, 2) := by decide +kernel
theorem dX11_plan_292 : decode cX11_plan 292 = .ok (.iaload, 1) := by decide +kernel
theorem dX11_plan_293 : decode cX11_plan 293 = .ok (.iastore, 1) := by decide +kernel
theorem dX11_plan_294 : decode cX11_plan 294 = .ok (.iinc 9 1, 3) := by decide +kernel
theorem dX11_plan_297 : decode cX11_plan 297 = .ok (.goto (-37), 3) := by decide +kernel
theorem dX11_plan_300 : decode cX11_plan 300 = .ok (.iinc 6 1, 3) := by decide +kernel
theorem dX11_plan_303 : decode cX11_plan 303 = .ok (.goto (-238), 3) := by decide +kernel
theorem dX11_plan_306 : decode cX11_plan 306 = .ok (.iload 5, 2) := by decide +kernel
theorem dX11_plan_308 : decode cX11_plan 308 = .ok (.ifCond .ge 8, 3) := by decide +kernel
theorem dX11_plan_311 : decode cX11_plan 311 = .ok (.bipush (-5), 2) := by decide +kernel
theorem dX11_plan_313 : decode cX11_plan 313 = .ok (.goto 5, 3) := by decide +kernel
theorem dX11_plan_316 : decode cX11_plan 316 = .ok (.iload 5, 2) := by decide +kernel
theorem dX11_plan_318 : decode cX11_plan 318 = .ok (.ireturn, 1) := by decide +kernel
theorem dX11_planned_0 : decode cX11_planned 0 = .ok (.iload_n 1, 1) := by decide +kernel
theorem dX11_planned_1 : decode cX11_planned 1 = .ok (.i2l, 1) := by decide +kernel
theorem dX11_planned_2 : decode cX11_planned 2 = .ok (.lconst 0, 1) := by decide +kernel
theorem dX11_planned_3 : decode cX11_planned 3 = .ok (.aload_n 0, 1) := by decide +kernel
theorem dX11_planned_4 : decode cX11_planned 4 = .ok (.getfield 225, 3) := by decide +kernel
theorem dX11_planned_7 : decode cX11_planned 7 = .ok (.iconst 1, 1) := by decide +kernel
theorem dX11_planned_8 : decode cX11_planned 8 = .ok (.isub, 1) := by decide +kernel
theorem dX11_planned_9 : decode cX11_planned 9 = .ok (.i2l, 1) := by decide +kernel
theorem dX11_planned_10 : decode cX11_planned 10 = .ok (.invokestatic 93, 3) := by decide +kernel
theorem dX11_planned_13 : decode cX11_planned 13 = .ok (.ifCond .ne 6, 3) := by decide +kernel
theorem dX11_planned_16 : decode cX11_planned 16 = .ok (.bipush (-6), 2) := by decide +kernel
theorem dX11_planned_18 : decode cX11_planned 18 = .ok (.ireturn, 1) := by decide +kernel
theorem dX11_planned_19 : decode cX11_planned 19 = .ok (.iload_n 2, 1) := by decide +kernel
theorem dX11_planned_20 : decode cX11_planned 20 = .ok (.ifCond .ne 12, 3) := by decide +kernel
theorem dX11_planned_23 : decode cX11_planned 23 = .ok (.aload_n 0, 1) := by decide +kernel
theorem dX11_planned_24 : decode cX11_planned 24 = .ok (.getfield 84, 3) := by decide +kernel
theorem dX11_planned_27 : decode cX11_planned 27 = .ok (.iload_n 1, 1) := by decide +kernel
theorem dX11_planned_28 : decode cX11_planned 28 = .ok (.iaload, 1) := by decide +kernel
theorem dX11_planned_29 : decode cX11_planned 29 = .ok (.goto 19, 3) := by decide +kernel
theorem dX11_planned_32 : decode cX11_planned 32 = .ok (.iload_n 2, 1) := by decide +kernel
theorem dX11_planned_33 : decode cX11_planned 33 = .ok (.iconst 1, 1) := by decide +kernel
theorem dX11_planned_34 : decode cX11_planned 34 = .ok (.if_icmp .ne 12, 3) := by decide +kernel
theorem dX11_planned_37 : decode cX11_planned 37 = .ok (.aload_n 0, 1) := by decide +kernel
theorem dX11_planned_38 : decode cX11_planned 38 = .ok (.getfield 87, 3) := by decide +kernel
theorem dX11_planned_41 : decode cX11_planned 41 = .ok (.iload_n 1, 1) := by decide +kernel
theorem dX11_planned_42 : decode cX11_planned 42 = .ok (.iaload, 1) := by decide +kernel
theorem dX11_planned_43 : decode cX11_planned 43 = .ok (.goto 5, 3) := by decide +kernel
theorem dX11_planned_46 : decode cX11_planned 46 = .ok (.bipush (-6), 2) := by decide +kernel
theorem dX11_planned_48 : decode cX11_planned 48 = .ok (.ireturn, 1) := by decide +kernel
theorem dX11_starves_0 : decode cX11_starves 0 = .ok (.aload_n 0, 1) := by decide +kernel
theorem dX11_starves_1 : decode cX11_starves 1 = .ok (.iload_n 1, 1) := by decide +kernel
theorem dX11_starves_2 : decode cX11_starves 2 = .ok (.invokevirtual 99, 3) := by decide +kernel
theorem dX11_starves_5 : decode cX11_starves 5 = .ok (.ifCond .eq 10, 3) := by decide +kernel
theorem dX11_starves_8 : decode cX11_starves 8 = .ok (.iload_n 2, 1) := by decide +kernel
theorem dX11_starves_9 : decode cX11_starves 9 = .ok (.invokestatic 103, 3) := by decide +kernel
theorem dX11_starves_12 : decode cX11_starves 12 = .ok (.ifCond .ne 5, 3) := by decide +kernel
theorem dX11_starves_15 : decode cX11_starves 15 = .ok (.iconst (-1), 1) := by decide +kernel
theorem dX11_starves_16 : decode cX11_starves 16 = .ok (.ireturn, 1) := by decide +kernel
theorem dX11_starves_17 : decode cX11_starves 17 = .ok (.iload_n 3, 1) := by decide +kernel
theorem dX11_starves_18 : decode cX11_starves 18 = .ok (.i2l, 1) := by decide +kernel
theorem dX11_starves_19 : decode cX11_starves 19 = .ok (.lconst 1, 1) := by decide +kernel
theorem dX11_starves_20 : decode cX11_starves 20 = .ok (.ldc2_w 149, 3) := by decide +kernel
theorem dX11_starves_23 : decode cX11_starves 23 = .ok (.invokestatic 93, 3) := by decide +kernel
theorem dX11_starves_26 : decode cX11_starves 26 = .ok (.ifCond .ne 6, 3) := by decide +kernel
theorem dX11_starves_29 : decode cX11_starves 29 = .ok (.bipush (-2), 2) := by decide +kernel
theorem dX11_starves_31 : decode cX11_starves 31 = .ok (.ireturn, 1) := by decide +kernel
theorem dX11_starves_32 : decode cX11_starves 32 = .ok (.iconst 3, 1) := by decide +kernel
theorem dX11_starves_33 : decode cX11_starves 33 = .ok (.iload_n 1, 1) := by decide +kernel
theorem dX11_starves_34 : decode cX11_starves 34 = .ok (.imul, 1) := by decide +kernel
theorem dX11_starves_35 : decode cX11_starves 35 = .ok (.iload_n 2, 1) := by decide +kernel
theorem dX11_starves_36 : decode cX11_starves 36 = .ok (.iadd, 1) := by decide +kernel
theorem dX11_starves_37 : decode cX11_starves 37 = .ok (.istore 4, 2) := by decide +kernel
theorem dX11_starves_39 : decode cX11_starves 39 = .ok (.aload_n 0, 1) := by decide +kernel
theorem dX11_starves_40 : decode cX11_starves 40 = .ok (.getfield 13, 3) := by decide +kernel
theorem dX11_starves_43 : decode cX11_starves 43 = .ok (.iload 4, 2) := by decide +kernel
theorem dX11_starves_45 : decode cX11_starves 45 = .ok (.iaload, 1) := by decide +kernel
theorem dX11_starves_46 : decode cX11_starves 46 = .ok (.istore 5, 2) := by decide +kernel
theorem dX11_starves_48 : decode cX11_starves 48 = .ok (.aload_n 0, 1) := by decide +kernel
theorem dX11_starves_49 : decode cX11_starves 49 = .ok (.getfield 133, 3) := by decide +kernel
theorem dX11_starves_52 : decode cX11_starves 52 = .ok (.istore 6, 2) := by decide +kernel
theorem dX11_starves_54 : decode cX11_starves 54 = .ok (.iload 6, 2) := by decide +kernel
theorem dX11_starves_56 : decode cX11_starves 56 = .ok (.aload_n 0, 1) := by decide +kernel
theorem dX11_starves_57 : decode cX11_starves 57 = .ok (.getfield 133, 3) := by decide +kernel
theorem dX11_starves_60 : decode cX11_starves 60 = .ok (.iload_n 3, 1) := by decide +kernel
theorem dX11_starves_61 : decode cX11_starves 61 = .ok (.iadd, 1) := by decide +kernel
theorem dX11_starves_62 : decode cX11_starves 62 = .ok (.if_icmp .ge 121, 3) := by decide +kernel
theorem dX11_starves_65 : decode cX11_starves 65 = .ok (.iload 6, 2) := by decide +kernel
theorem dX11_starves_67 : decode cX11_starves 67 = .ok (.sipush 999, 3) := by decide +kernel
theorem dX11_starves_70 : decode cX11_starves 70 = .ok (.if_icmp .ge 113, 3) := by decide +kernel
theorem dX11_starves_73 : decode cX11_starves 73 = .ok (.iconst 0, 1) := by decide +kernel
theorem dX11_starves_74 : decode cX11_starves 74 = .ok (.istore 7, 2) := by decide +kernel
theorem dX11_starves_76 : decode cX11_starves 76 = .ok (.iload 7, 2) := by decide +kernel
theorem dX11_starves_78 : decode cX11_starves 78 = .ok (.aload_n 0, 1) := by decide +kernel
theorem dX11_starves_79 : decode cX11_starves 79 = .ok (.getfield 130, 3) := by decide +kernel
theorem dX11_starves_82 : decode cX11_starves 82 = .ok (.if_icmp .ge 53, 3) := by decide +kernel
theorem dX11_starves_85 : decode cX11_starves 85 = .ok (.aload_n 0, 1) := by decide +kernel
theorem dX11_starves_86 : decode cX11_starves 86 = .ok (.getfield 48, 3) := by decide +kernel
theorem dX11_starves_89 : decode cX11_starves 89 = .ok (.iload 7, 2) := by decide +kernel
theorem dX11_starves_91 : decode cX11_starves 91 = .ok (.iaload, 1) := by decide +kernel
theorem dX11_starves_92 : decode cX11_starves 92 = .ok (.iload 6, 2) := by decide +kernel
theorem dX11_starves_94 : decode cX11_starves 94 = .ok (.if_icmp .ne 31, 3) := by decide +kernel
theorem dX11_starves_97 : decode cX11_starves 97 = .ok (.aload_n 0, 1) := by decide +kernel
theorem dX11_starves_98 : decode cX11_starves 98 = .ok (.getfield 51, 3) := by decide +kernel
theorem dX11_starves_101 : decode cX11_starves 101 = .ok (.iload 7, 2) := by decide +kernel
theorem dX11_starves_103 : decode cX11_starves 103 = .ok (.iaload, 1) := by decide +kernel
theorem dX11_starves_104 : decode cX11_starves 104 = .ok (.iload 4, 2) := by decide +kernel
theorem dX11_starves_106 : decode cX11_starves 106 = .ok (.if_icmp .ne 19, 3) := by decide +kernel
theorem dX11_starves_109 : decode cX11_starves 109 = .ok (.iload 5, 2) := by decide +kernel
theorem dX11_starves_111 : decode cX11_starves 111 = .ok (.aload_n 0, 1) := by decide +kernel
theorem dX11_starves_112 : decode cX11_starves 112 = .ok (.getfield 54, 3) := by decide +kernel
theorem dX11_starves_115 : decode cX11_starves 115 = .ok (.iload 7, 2) := by decide +kernel
theorem dX11_starves_117 : decode cX11_starves 117 = .ok (.iaload, 1) := by decide +kernel
theorem dX11_starves_118 : decode cX11_starves 118 = .ok (.iadd, 1) := by decide +kernel
theorem dX11_starves_119 : decode cX11_starves 119 = .ok (.invokestatic 136, 3) := by decide +kernel
theorem dX11_starves_122 : decode cX11_starves 122 = .ok (.goto 5, 3) := by decide +kernel
theorem dX11_starves_125 : decode cX11_starves 125 = .ok (.iload 5, 2) := by decide +kernel
theorem dX11_starves_127 : decode cX11_starves 127 = .ok (.istore 5, 2) := by decide +kernel
theorem dX11_starves_129 : decode cX11_starves 129 = .ok (.iinc 7 1, 3) := by decide +kernel
theorem dX11_starves_132 : decode cX11_starves 132 = .ok (.goto (-56), 3) := by decide +kernel
theorem dX11_starves_135 : decode cX11_starves 135 = .ok (.iload 5, 2) := by decide +kernel
theorem dX11_starves_137 : decode cX11_starves 137 = .ok (.aload_n 0, 1) := by decide +kernel
theorem dX11_starves_138 : decode cX11_starves 138 = .ok (.getfield 17, 3) := by decide +kernel
theorem dX11_starves_141 : decode cX11_starves 141 = .ok (.iload 4, 2) := by decide +kernel
theorem dX11_starves_143 : decode cX11_starves 143 = .ok (.iaload, 1) := by decide +kernel
theorem dX11_starves_144 : decode cX11_starves 144 = .ok (.iadd, 1) := by decide +kernel
theorem dX11_starves_145 : decode cX11_starves 145 = .ok (.invokestatic 136, 3) := by decide +kernel
theorem dX11_starves_148 : decode cX11_starves 148 = .ok (.istore 5, 2) := by decide +kernel
theorem dX11_starves_150 : decode cX11_starves 150 = .ok (.iload 5, 2) := by decide +kernel
theorem dX11_starves_152 : decode cX11_starves 152 = .ok (.aload_n 0, 1) := by decide +kernel
theorem dX11_starves_153 : decode cX11_starves 153 = .ok (.getfield 20, 3) := by decide +kernel
theorem dX11_starves_156 : decode cX11_starves 156 = .ok (.iload 4, 2) := by decide +kernel
theorem dX11_starves_158 : decode cX11_starves 158 = .ok (.iaload, 1) := by decide +kernel
theorem dX11_starves_159 : decode cX11_starves 159 = .ok (.if_icmp .ge 6, 3) := by decide +kernel
theorem dX11_starves_162 : decode cX11_starves 162 = .ok (.iload 6, 2) := by decide +kernel
theorem dX11_starves_164 : decode cX11_starves 164 = .ok (.ireturn, 1) := by decide +kernel
theorem dX11_starves_165 : decode cX11_starves 165 = .ok (.iload 5, 2) := by decide +kernel
theorem dX11_starves_167 : decode cX11_starves 167 = .ok (.aload_n 0, 1) := by decide +kernel
theorem dX11_starves_168 : decode cX11_starves 168 = .ok (.getfield 20, 3) := by decide +kernel
theorem dX11_starves_171 : decode cX11_starves 171 = .ok (.iload 4, 2) := by decide +kernel
theorem dX11_starves_173 : decode cX11_starves 173 = .ok (.iaload, 1) := by decide +kernel
theorem dX11_starves_174 : decode cX11_starves 174 = .ok (.isub, 1) := by decide +kernel
theorem dX11_starves_175 : decode cX11_starves 175 = .ok (.istore 5, 2) := by decide +kernel
theorem dX11_starves_177 : decode cX11_starves 177 = .ok (.iinc 6 1, 3) := by decide +kernel
theorem dX11_starves_180 : decode cX11_starves 180 = .ok (.goto (-126), 3) := by decide +kernel
theorem dX11_starves_183 : decode cX11_starves 183 = .ok (.bipush (-6), 2) := by decide +kernel
theorem dX11_starves_185 : decode cX11_starves 185 = .ok (.ireturn, 1) := by decide +kernel
theorem dL_law_0 : decode cL_law 0 = .ok (.new 7, 3) := by decide +kernel
theorem dL_law_3 : decode cL_law 3 = .ok (.dup, 1) := by decide +kernel
theorem dL_law_4 : decode cL_law 4 = .ok (.invokespecial 9, 3) := by decide +kernel
theorem dL_law_7 : decode cL_law 7 = .ok (.astore_n 1, 1) := by decide +kernel
theorem dL_law_8 : decode cL_law 8 = .ok (.new 10, 3) := by decide +kernel
theorem dL_law_11 : decode cL_law 11 = .ok (.dup, 1) := by decide +kernel
theorem dL_law_12 : decode cL_law 12 = .ok (.invokespecial 12, 3) := by decide +kernel
theorem dL_law_15 : decode cL_law 15 = .ok (.astore_n 2, 1) := by decide +kernel
theorem dL_law_16 : decode cL_law 16 = .ok (.iconst 0, 1) := by decide +kernel
theorem dL_law_17 : decode cL_law 17 = .ok (.istore_n 3, 1) := by decide +kernel
theorem dL_law_18 : decode cL_law 18 = .ok (.iload_n 3, 1) := by decide +kernel
theorem dL_law_19 : decode cL_law 19 = .ok (.aload_n 0, 1) := by decide +kernel
theorem dL_law_20 : decode cL_law 20 = .ok (.arraylength, 1) := by decide +kernel
theorem dL_law_21 : decode cL_law 21 = .ok (.iconst 5, 1) := by decide +kernel
theorem dL_law_22 : decode cL_law 22 = .ok (.isub, 1) := by decide +kernel
theorem dL_law_23 : decode cL_law 23 = .ok (.if_icmp .gt 837, 3) := by decide +kernel
theorem dL_law_26 : decode cL_law 26 = .ok (.aload_n 0, 1) := by decide +kernel
theorem dL_law_27 : decode cL_law 27 = .ok (.iload_n 3, 1) := by decide +kernel
theorem dL_law_28 : decode cL_law 28 = .ok (.iaload, 1) := by decide +kernel
theorem dL_law_29 : decode cL_law 29 = .ok (.bipush 31, 2) := by decide +kernel
theorem dL_law_31 : decode cL_law 31 = .ok (.iand, 1) := by decide +kernel
theorem dL_law_32 : decode cL_law 32 = .ok (.tableswitch 822 0 19 #[96, 109, 162, 205, 238, 287, 330, 363, 386, 439, 482, 525, 568, 601, 634, 657, 680, 713, 746, 779], 96) := by decide +kernel
theorem dL_law_128 : decode cL_law 128 = .ok (.aload_n 1, 1) := by decide +kernel
theorem dL_law_129 : decode cL_law 129 = .ok (.invokevirtual 13, 3) := by decide +kernel
theorem dL_law_132 : decode cL_law 132 = .ok (.aload_n 2, 1) := by decide +kernel
theorem dL_law_133 : decode cL_law 133 = .ok (.invokevirtual 17, 3) := by decide +kernel
theorem dL_law_136 : decode cL_law 136 = .ok (.if_icmp .eq 718, 3) := by decide +kernel
theorem dL_law_139 : decode cL_law 139 = .ok (.iconst 0, 1) := by decide +kernel
theorem dL_law_140 : decode cL_law 140 = .ok (.ireturn, 1) := by decide +kernel
theorem dL_law_141 : decode cL_law 141 = .ok (.aload_n 1, 1) := by decide +kernel
theorem dL_law_142 : decode cL_law 142 = .ok (.aload_n 0, 1) := by decide +kernel
theorem dL_law_143 : decode cL_law 143 = .ok (.iload_n 3, 1) := by decide +kernel
theorem dL_law_144 : decode cL_law 144 = .ok (.iconst 1, 1) := by decide +kernel
theorem dL_law_145 : decode cL_law 145 = .ok (.iadd, 1) := by decide +kernel
theorem dL_law_146 : decode cL_law 146 = .ok (.iaload, 1) := by decide +kernel
theorem dL_law_147 : decode cL_law 147 = .ok (.aload_n 0, 1) := by decide +kernel
theorem dL_law_148 : decode cL_law 148 = .ok (.iload_n 3, 1) := by decide +kernel
theorem dL_law_149 : decode cL_law 149 = .ok (.iconst 2, 1) := by decide +kernel
theorem dL_law_150 : decode cL_law 150 = .ok (.iadd, 1) := by decide +kernel
theorem dL_law_151 : decode cL_law 151 = .ok (.iaload, 1) := by decide +kernel
theorem dL_law_152 : decode cL_law 152 = .ok (.aload_n 0, 1) := by decide +kernel
theorem dL_law_153 : decode cL_law 153 = .ok (.iload_n 3, 1) := by decide +kernel
theorem dL_law_154 : decode cL_law 154 = .ok (.iconst 3, 1) := by decide +kernel
theorem dL_law_155 : decode cL_law 155 = .ok (.iadd, 1) := by decide +kernel
theorem dL_law_156 : decode cL_law 156 = .ok (.iaload, 1) := by decide +kernel
theorem dL_law_157 : decode cL_law 157 = .ok (.aload_n 0, 1) := by decide +kernel
theorem dL_law_158 : decode cL_law 158 = .ok (.iload_n 3, 1) := by decide +kernel
theorem dL_law_159 : decode cL_law 159 = .ok (.iconst 4, 1) := by decide +kernel
theorem dL_law_160 : decode cL_law 160 = .ok (.iadd, 1) := by decide +kernel
theorem dL_law_161 : decode cL_law 161 = .ok (.iaload, 1) := by decide +kernel
theorem dL_law_162 : decode cL_law 162 = .ok (.invokevirtual 18, 3) := by decide +kernel
theorem dL_law_165 : decode cL_law 165 = .ok (.aload_n 2, 1) := by decide +kernel
theorem dL_law_166 : decode cL_law 166 = .ok (.aload_n 0, 1) := by decide +kernel
theorem dL_law_167 : decode cL_law 167 = .ok (.iload_n 3, 1) := by decide +kernel
theorem dL_law_168 : decode cL_law 168 = .ok (.iconst 1, 1) := by decide +kernel
theorem dL_law_169 : decode cL_law 169 = .ok (.iadd, 1) := by decide +kernel
theorem dL_law_170 : decode cL_law 170 = .ok (.iaload, 1) := by decide +kernel
theorem dL_law_171 : decode cL_law 171 = .ok (.aload_n 0, 1) := by decide +kernel
theorem dL_law_172 : decode cL_law 172 = .ok (.iload_n 3, 1) := by decide +kernel
theorem dL_law_173 : decode cL_law 173 = .ok (.iconst 2, 1) := by decide +kernel
theorem dL_law_174 : decode cL_law 174 = .ok (.iadd, 1) := by decide +kernel
theorem dL_law_175 : decode cL_law 175 = .ok (.iaload, 1) := by decide +kernel
theorem dL_law_176 : decode cL_law 176 = .ok (.aload_n 0, 1) := by decide +kernel
theorem dL_law_177 : decode cL_law 177 = .ok (.iload_n 3, 1) := by decide +kernel
theorem dL_law_178 : decode cL_law 178 = .ok (.iconst 3, 1) := by decide +kernel
theorem dL_law_179 : decode cL_law 179 = .ok (.iadd, 1) := by decide +kernel
theorem dL_law_180 : decode cL_law 180 = .ok (.iaload, 1) := by decide +kernel
theorem dL_law_181 : decode cL_law 181 = .ok (.aload_n 0, 1) := by decide +kernel
theorem dL_law_182 : decode cL_law 182 = .ok (.iload_n 3, 1) := by decide +kernel
theorem dL_law_183 : decode cL_law 183 = .ok (.iconst 4, 1) := by decide +kernel
theorem dL_law_184 : decode cL_law 184 = .ok (.iadd, 1) := by decide +kernel
theorem dL_law_185 : decode cL_law 185 = .ok (.iaload, 1) := by decide +kernel
theorem dL_law_186 : decode cL_law 186 = .ok (.invokevirtual 22, 3) := by decide +kernel
theorem dL_law_189 : decode cL_law 189 = .ok (.if_icmp .eq 665, 3) := by decide +kernel
theorem dL_law_192 : decode cL_law 192 = .ok (.iconst 0, 1) := by decide +kernel
theorem dL_law_193 : decode cL_law 193 = .ok (.ireturn, 1) := by decide +kernel
theorem dL_law_194 : decode cL_law 194 = .ok (.aload_n 1, 1) := by decide +kernel
theorem dL_law_195 : decode cL_law 195 = .ok (.aload_n 0, 1) := by decide +kernel
theorem dL_law_196 : decode cL_law 196 = .ok (.iload_n 3, 1) := by decide +kernel
theorem dL_law_197 : decode cL_law 197 = .ok (.iconst 1, 1) := by decide +kernel
theorem dL_law_198 : decode cL_law 198 = .ok (.iadd, 1) := by decide +kernel
theorem dL_law_199 : decode cL_law 199 = .ok (.iaload, 1) := by decide +kernel
theorem dL_law_200 : decode cL_law 200 = .ok (.aload_n 0, 1) := by decide +kernel
theorem dL_law_201 : decode cL_law 201 = .ok (.iload_n 3, 1) := by decide +kernel
theorem dL_law_202 : decode cL_law 202 = .ok (.iconst 2, 1) := by decide +kernel
theorem dL_law_203 : decode cL_law 203 = .ok (.iadd, 1) := by decide +kernel
theorem dL_law_204 : decode cL_law 204 = .ok (.iaload, 1) := by decide +kernel
theorem dL_law_205 : decode cL_law 205 = .ok (.aload_n 0, 1) := by decide +kernel
theorem dL_law_206 : decode cL_law 206 = .ok (.iload_n 3, 1) := by decide +kernel
theorem dL_law_207 : decode cL_law 207 = .ok (.iconst 3, 1) := by decide +kernel
theorem dL_law_208 : decode cL_law 208 = .ok (.iadd, 1) := by decide +kernel
theorem dL_law_209 : decode cL_law 209 = .ok (.iaload, 1) := by decide +kernel
theorem dL_law_210 : decode cL_law 210 = .ok (.invokevirtual 23, 3) := by decide +kernel
theorem dL_law_213 : decode cL_law 213 = .ok (.aload_n 2, 1) := by decide +kernel
theorem dL_law_214 : decode cL_law 214 = .ok (.aload_n 0, 1) := by decide +kernel
theorem dL_law_215 : decode cL_law 215 = .ok (.iload_n 3, 1) := by decide +kernel
theorem dL_law_216 : decode cL_law 216 = .ok (.iconst 1, 1) := by decide +kernel
theorem dL_law_217 : decode cL_law 217 = .ok (.iadd, 1) := by decide +kernel
theorem dL_law_218 : decode cL_law 218 = .ok (.iaload, 1) := by decide +kernel
theorem dL_law_219 : decode cL_law 219 = .ok (.aload_n 0, 1) := by decide +kernel
theorem dL_law_220 : decode cL_law 220 = .ok (.iload_n 3, 1) := by decide +kernel
theorem dL_law_221 : decode cL_law 221 = .ok (.iconst 2, 1) := by decide +kernel
theorem dL_law_222 : decode cL_law 222 = .ok (.iadd, 1) := by decide +kernel
theorem dL_law_223 : decode cL_law 223 = .ok (.iaload, 1) := by decide +kernel
theorem dL_law_224 : decode cL_law 224 = .ok (.aload_n 0, 1) := by decide +kernel
theorem dL_law_225 : decode cL_law 225 = .ok (.iload_n 3, 1) := by decide +kernel
theorem dL_law_226 : decode cL_law 226 = .ok (.iconst 3, 1) := by decide +kernel
theorem dL_law_227 : decode cL_law 227 = .ok (.iadd, 1) := by decide +kernel
theorem dL_law_228 : decode cL_law 228 = .ok (.iaload, 1) := by decide +kernel
theorem dL_law_229 : decode cL_law 229 = .ok (.invokevirtual 27, 3) := by decide +kernel
theorem dL_law_232 : decode cL_law 232 = .ok (.if_icmp .eq 622, 3) := by decide +kernel
theorem dL_law_235 : decode cL_law 235 = .ok (.iconst 0, 1) := by decide +kernel
theorem dL_law_236 : decode cL_law 236 = .ok (.ireturn, 1) := by decide +kernel
theorem dL_law_237 : decode cL_law 237 = .ok (.aload_n 1, 1) := by decide +kernel
theorem dL_law_238 : decode cL_law 238 = .ok (.aload_n 0, 1) := by decide +kernel
theorem dL_law_239 : decode cL_law 239 = .ok (.iload_n 3, 1) := by decide +kernel
theorem dL_law_240 : decode cL_law 240 = .ok (.iconst 1, 1) := by decide +kernel
theorem dL_law_241 : decode cL_law 241 = .ok (.iadd, 1) := by decide +kernel
theorem dL_law_242 : decode cL_law 242 = .ok (.iaload, 1) := by decide +kernel
theorem dL_law_243 : decode cL_law 243 = .ok (.aload_n 0, 1) := by decide +kernel
theorem dL_law_244 : decode cL_law 244 = .ok (.iload_n 3, 1) := by decide +kernel
theorem dL_law_245 : decode cL_law 245 = .ok (.iconst 2, 1) := by decide +kernel
theorem dL_law_246 : decode cL_law 246 = .ok (.iadd, 1) := by decide +kernel
theorem dL_law_247 : decode cL_law 247 = .ok (.iaload, 1) := by decide +kernel
theorem dL_law_248 : decode cL_law 248 = .ok (.invokevirtual 28, 3) := by decide +kernel
theorem dL_law_251 : decode cL_law 251 = .ok (.aload_n 2, 1) := by decide +kernel
theorem dL_law_252 : decode cL_law 252 = .ok (.aload_n 0, 1) := by decide +kernel
theorem dL_law_253 : decode cL_law 253 = .ok (.iload_n 3, 1) := by decide +kernel
theorem dL_law_254 : decode cL_law 254 = .ok (.iconst 1, 1) := by decide +kernel
theorem dL_law_255 : decode cL_law 255 = .ok (.iadd, 1) := by decide +kernel
theorem dL_law_256 : decode cL_law 256 = .ok (.iaload, 1) := by decide +kernel
theorem dL_law_257 : decode cL_law 257 = .ok (.aload_n 0, 1) := by decide +kernel
theorem dL_law_258 : decode cL_law 258 = .ok (.iload_n 3, 1) := by decide +kernel
theorem dL_law_259 : decode cL_law 259 = .ok (.iconst 2, 1) := by decide +kernel
theorem dL_law_260 : decode cL_law 260 = .ok (.iadd, 1) := by decide +kernel
theorem dL_law_261 : decode cL_law 261 = .ok (.iaload, 1) := by decide +kernel
theorem dL_law_262 : decode cL_law 262 = .ok (.invokevirtual 32, 3) := by decide +kernel
theorem dL_law_265 : decode cL_law 265 = .ok (.if_icmp .eq 589, 3) := by decide +kernel
theorem dL_law_268 : decode cL_law 268 = .ok (.iconst 0, 1) := by decide +kernel
theorem dL_law_269 : decode cL_law 269 = .ok (.ireturn, 1) := by decide +kernel
theorem dL_law_270 : decode cL_law 270 = .ok (.aload_n 1, 1) := by decide +kernel
theorem dL_law_271 : decode cL_law 271 = .ok (.aload_n 0, 1) := by decide +kernel
theorem dL_law_272 : decode cL_law 272 = .ok (.iload_n 3, 1) := by decide +kernel
theorem dL_law_273 : decode cL_law 273 = .ok (.iconst 1, 1) := by decide +kernel
theorem dL_law_274 : decode cL_law 274 = .ok (.iadd, 1) := by decide +kernel
theorem dL_law_275 : decode cL_law 275 = .ok (.iaload, 1) := by decide +kernel
theorem dL_law_276 : decode cL_law 276 = .ok (.aload_n 0, 1) := by decide +kernel
theorem dL_law_277 : decode cL_law 277 = .ok (.iload_n 3, 1) := by decide +kernel
theorem dL_law_278 : decode cL_law 278 = .ok (.iconst 2, 1) := by decide +kernel
theorem dL_law_279 : decode cL_law 279 = .ok (.iadd, 1) := by decide +kernel
theorem dL_law_280 : decode cL_law 280 = .ok (.iaload, 1) := by decide +kernel
theorem dL_law_281 : decode cL_law 281 = .ok (.ifCond .eq 7, 3) := by decide +kernel
theorem dL_law_284 : decode cL_law 284 = .ok (.iconst 1, 1) := by decide +kernel
theorem dL_law_285 : decode cL_law 285 = .ok (.goto 4, 3) := by decide +kernel
theorem dL_law_288 : decode cL_law 288 = .ok (.iconst 0, 1) := by decide +kernel
theorem dL_law_289 : decode cL_law 289 = .ok (.invokevirtual 33, 3) := by decide +kernel
theorem dL_law_292 : decode cL_law 292 = .ok (.aload_n 2, 1) := by decide +kernel
theorem dL_law_293 : decode cL_law 293 = .ok (.aload_n 0, 1) := by decide +kernel
theorem dL_law_294 : decode cL_law 294 = .ok (.iload_n 3, 1) := by decide +kernel
theorem dL_law_295 : decode cL_law 295 = .ok (.iconst 1, 1) := by decide +kernel
theorem dL_law_296 : decode cL_law 296 = .ok (.iadd, 1) := by decide +kernel
theorem dL_law_297 : decode cL_law 297 = .ok (.iaload, 1) := by decide +kernel
theorem dL_law_298 : decode cL_law 298 = .ok (.aload_n 0, 1) := by decide +kernel
theorem dL_law_299 : decode cL_law 299 = .ok (.iload_n 3, 1) := by decide +kernel
theorem dL_law_300 : decode cL_law 300 = .ok (.iconst 2, 1) := by decide +kernel
theorem dL_law_301 : decode cL_law 301 = .ok (.iadd, 1) := by decide +kernel
theorem dL_law_302 : decode cL_law 302 = .ok (.iaload, 1) := by decide +kernel
theorem dL_law_303 : decode cL_law 303 = .ok (.ifCond .eq 7, 3) := by decide +kernel
theorem dL_law_306 : decode cL_law 306 = .ok (.iconst 1, 1) := by decide +kernel
theorem dL_law_307 : decode cL_law 307 = .ok (.goto 4, 3) := by decide +kernel
theorem dL_law_310 : decode cL_law 310 = .ok (.iconst 0, 1) := by decide +kernel
theorem dL_law_311 : decode cL_law 311 = .ok (.invokevirtual 37, 3) := by decide +kernel
theorem dL_law_314 : decode cL_law 314 = .ok (.if_icmp .eq 540, 3) := by decide +kernel
theorem dL_law_317 : decode cL_law 317 = .ok (.iconst 0, 1) := by decide +kernel
theorem dL_law_318 : decode cL_law 318 = .ok (.ireturn, 1) := by decide +kernel
theorem dL_law_319 : decode cL_law 319 = .ok (.aload_n 1, 1) := by decide +kernel
theorem dL_law_320 : decode cL_law 320 = .ok (.aload_n 0, 1) := by decide +kernel
theorem dL_law_321 : decode cL_law 321 = .ok (.iload_n 3, 1) := by decide +kernel
theorem dL_law_322 : decode cL_law 322 = .ok (.iconst 1, 1) := by decide +kernel
theorem dL_law_323 : decode cL_law 323 = .ok (.iadd, 1) := by decide +kernel
theorem dL_law_324 : decode cL_law 324 = .ok (.iaload, 1) := by decide +kernel
theorem dL_law_325 : decode cL_law 325 = .ok (.aload_n 0, 1) := by decide +kernel
theorem dL_law_326 : decode cL_law 326 = .ok (.iload_n 3, 1) := by decide +kernel
theorem dL_law_327 : decode cL_law 327 = .ok (.iconst 2, 1) := by decide +kernel
theorem dL_law_328 : decode cL_law 328 = .ok (.iadd, 1) := by decide +kernel
theorem dL_law_329 : decode cL_law 329 = .ok (.iaload, 1) := by decide +kernel
theorem dL_law_330 : decode cL_law 330 = .ok (.aload_n 0, 1) := by decide +kernel
theorem dL_law_331 : decode cL_law 331 = .ok (.iload_n 3, 1) := by decide +kernel
theorem dL_law_332 : decode cL_law 332 = .ok (.iconst 3, 1) := by decide +kernel
theorem dL_law_333 : decode cL_law 333 = .ok (.iadd, 1) := by decide +kernel
theorem dL_law_334 : decode cL_law 334 = .ok (.iaload, 1) := by decide +kernel
theorem dL_law_335 : decode cL_law 335 = .ok (.invokevirtual 38, 3) := by decide +kernel
theorem dL_law_338 : decode cL_law 338 = .ok (.aload_n 2, 1) := by decide +kernel
theorem dL_law_339 : decode cL_law 339 = .ok (.aload_n 0, 1) := by decide +kernel
theorem dL_law_340 : decode cL_law 340 = .ok (.iload_n 3, 1) := by decide +kernel
theorem dL_law_341 : decode cL_law 341 = .ok (.iconst 1, 1) := by decide +kernel
theorem dL_law_342 : decode cL_law 342 = .ok (.iadd, 1) := by decide +kernel
theorem dL_law_343 : decode cL_law 343 = .ok (.iaload, 1) := by decide +kernel
theorem dL_law_344 : decode cL_law 344 = .ok (.aload_n 0, 1) := by decide +kernel
theorem dL_law_345 : decode cL_law 345 = .ok (.iload_n 3, 1) := by decide +kernel
theorem dL_law_346 : decode cL_law 346 = .ok (.iconst 2, 1) := by decide +kernel
theorem dL_law_347 : decode cL_law 347 = .ok (.iadd, 1) := by decide +kernel
theorem dL_law_348 : decode cL_law 348 = .ok (.iaload, 1) := by decide +kernel
theorem dL_law_349 : decode cL_law 349 = .ok (.aload_n 0, 1) := by decide +kernel
theorem dL_law_350 : decode cL_law 350 = .ok (.iload_n 3, 1) := by decide +kernel
theorem dL_law_351 : decode cL_law 351 = .ok (.iconst 3, 1) := by decide +kernel
theorem dL_law_352 : decode cL_law 352 = .ok (.iadd, 1) := by decide +kernel
theorem dL_law_353 : decode cL_law 353 = .ok (.iaload, 1) := by decide +kernel
theorem dL_law_354 : decode cL_law 354 = .ok (.invokevirtual 41, 3) := by decide +kernel
theorem dL_law_357 : decode cL_law 357 = .ok (.if_icmp .eq 497, 3) := by decide +kernel
theorem dL_law_360 : decode cL_law 360 = .ok (.iconst 0, 1) := by decide +kernel
theorem dL_law_361 : decode cL_law 361 = .ok (.ireturn, 1) := by decide +kernel
theorem dL_law_362 : decode cL_law 362 = .ok (.aload_n 1, 1) := by decide +kernel
theorem dL_law_363 : decode cL_law 363 = .ok (.aload_n 0, 1) := by decide +kernel
theorem dL_law_364 : decode cL_law 364 = .ok (.iload_n 3, 1) := by decide +kernel
theorem dL_law_365 : decode cL_law 365 = .ok (.iconst 1, 1) := by decide +kernel
theorem dL_law_366 : decode cL_law 366 = .ok (.iadd, 1) := by decide +kernel
theorem dL_law_367 : decode cL_law 367 = .ok (.iaload, 1) := by decide +kernel
theorem dL_law_368 : decode cL_law 368 = .ok (.aload_n 0, 1) := by decide +kernel
theorem dL_law_369 : decode cL_law 369 = .ok (.iload_n 3, 1) := by decide +kernel
theorem dL_law_370 : decode cL_law 370 = .ok (.iconst 2, 1) := by decide +kernel
theorem dL_law_371 : decode cL_law 371 = .ok (.iadd, 1) := by decide +kernel
theorem dL_law_372 : decode cL_law 372 = .ok (.iaload, 1) := by decide +kernel
theorem dL_law_373 : decode cL_law 373 = .ok (.invokevirtual 42, 3) := by decide +kernel
theorem dL_law_376 : decode cL_law 376 = .ok (.aload_n 2, 1) := by decide +kernel
theorem dL_law_377 : decode cL_law 377 = .ok (.aload_n 0, 1) := by decide +kernel
theorem dL_law_378 : decode cL_law 378 = .ok (.iload_n 3, 1) := by decide +kernel
theorem dL_law_379 : decode cL_law 379 = .ok (.iconst 1, 1) := by decide +kernel
theorem dL_law_380 : decode cL_law 380 = .ok (.iadd, 1) := by decide +kernel
theorem dL_law_381 : decode cL_law 381 = .ok (.iaload, 1) := by decide +kernel
theorem dL_law_382 : decode cL_law 382 = .ok (.aload_n 0, 1) := by decide +kernel
theorem dL_law_383 : decode cL_law 383 = .ok (.iload_n 3, 1) := by decide +kernel
theorem dL_law_384 : decode cL_law 384 = .ok (.iconst 2, 1) := by decide +kernel
theorem dL_law_385 : decode cL_law 385 = .ok (.iadd, 1) := by decide +kernel
theorem dL_law_386 : decode cL_law 386 = .ok (.iaload, 1) := by decide +kernel
theorem dL_law_387 : decode cL_law 387 = .ok (.invokevirtual 45, 3) := by decide +kernel
theorem dL_law_390 : decode cL_law 390 = .ok (.if_icmp .eq 464, 3) := by decide +kernel
theorem dL_law_393 : decode cL_law 393 = .ok (.iconst 0, 1) := by decide +kernel
theorem dL_law_394 : decode cL_law 394 = .ok (.ireturn, 1) := by decide +kernel
theorem dL_law_395 : decode cL_law 395 = .ok (.aload_n 1, 1) := by decide +kernel
theorem dL_law_396 : decode cL_law 396 = .ok (.aload_n 0, 1) := by decide +kernel
theorem dL_law_397 : decode cL_law 397 = .ok (.iload_n 3, 1) := by decide +kernel
theorem dL_law_398 : decode cL_law 398 = .ok (.iconst 1, 1) := by decide +kernel
theorem dL_law_399 : decode cL_law 399 = .ok (.iadd, 1) := by decide +kernel
theorem dL_law_400 : decode cL_law 400 = .ok (.iaload, 1) := by decide +kernel
theorem dL_law_401 : decode cL_law 401 = .ok (.invokevirtual 46, 3) := by decide +kernel
theorem dL_law_404 : decode cL_law 404 = .ok (.aload_n 2, 1) := by decide +kernel
theorem dL_law_405 : decode cL_law 405 = .ok (.aload_n 0, 1) := by decide +kernel
theorem dL_law_406 : decode cL_law 406 = .ok (.iload_n 3, 1) := by decide +kernel
theorem dL_law_407 : decode cL_law 407 = .ok (.iconst 1, 1) := by decide +kernel
theorem dL_law_408 : decode cL_law 408 = .ok (.iadd, 1) := by decide +kernel
theorem dL_law_409 : decode cL_law 409 = .ok (.iaload, 1) := by decide +kernel
theorem dL_law_410 : decode cL_law 410 = .ok (.invokevirtual 50, 3) := by decide +kernel
theorem dL_law_413 : decode cL_law 413 = .ok (.if_icmp .eq 441, 3) := by decide +kernel
theorem dL_law_416 : decode cL_law 416 = .ok (.iconst 0, 1) := by decide +kernel
theorem dL_law_417 : decode cL_law 417 = .ok (.ireturn, 1) := by decide +kernel
theorem dL_law_418 : decode cL_law 418 = .ok (.aload_n 1, 1) := by decide +kernel
theorem dL_law_419 : decode cL_law 419 = .ok (.aload_n 0, 1) := by decide +kernel
theorem dL_law_420 : decode cL_law 420 = .ok (.iload_n 3, 1) := by decide +kernel
theorem dL_law_421 : decode cL_law 421 = .ok (.iconst 1, 1) := by decide +kernel
theorem dL_law_422 : decode cL_law 422 = .ok (.iadd, 1) := by decide +kernel
theorem dL_law_423 : decode cL_law 423 = .ok (.iaload, 1) := by decide +kernel
theorem dL_law_424 : decode cL_law 424 = .ok (.aload_n 0, 1) := by decide +kernel
theorem dL_law_425 : decode cL_law 425 = .ok (.iload_n 3, 1) := by decide +kernel
theorem dL_law_426 : decode cL_law 426 = .ok (.iconst 2, 1) := by decide +kernel
theorem dL_law_427 : decode cL_law 427 = .ok (.iadd, 1) := by decide +kernel
theorem dL_law_428 : decode cL_law 428 = .ok (.iaload, 1) := by decide +kernel
theorem dL_law_429 : decode cL_law 429 = .ok (.aload_n 0, 1) := by decide +kernel
theorem dL_law_430 : decode cL_law 430 = .ok (.iload_n 3, 1) := by decide +kernel
theorem dL_law_431 : decode cL_law 431 = .ok (.iconst 3, 1) := by decide +kernel
theorem dL_law_432 : decode cL_law 432 = .ok (.iadd, 1) := by decide +kernel
theorem dL_law_433 : decode cL_law 433 = .ok (.iaload, 1) := by decide +kernel
theorem dL_law_434 : decode cL_law 434 = .ok (.aload_n 0, 1) := by decide +kernel
theorem dL_law_435 : decode cL_law 435 = .ok (.iload_n 3, 1) := by decide +kernel
theorem dL_law_436 : decode cL_law 436 = .ok (.iconst 4, 1) := by decide +kernel
theorem dL_law_437 : decode cL_law 437 = .ok (.iadd, 1) := by decide +kernel
theorem dL_law_438 : decode cL_law 438 = .ok (.iaload, 1) := by decide +kernel
theorem dL_law_439 : decode cL_law 439 = .ok (.invokevirtual 51, 3) := by decide +kernel
theorem dL_law_442 : decode cL_law 442 = .ok (.aload_n 2, 1) := by decide +kernel
theorem dL_law_443 : decode cL_law 443 = .ok (.aload_n 0, 1) := by decide +kernel
theorem dL_law_444 : decode cL_law 444 = .ok (.iload_n 3, 1) := by decide +kernel
theorem dL_law_445 : decode cL_law 445 = .ok (.iconst 1, 1) := by decide +kernel
theorem dL_law_446 : decode cL_law 446 = .ok (.iadd, 1) := by decide +kernel
theorem dL_law_447 : decode cL_law 447 = .ok (.iaload, 1) := by decide +kernel
theorem dL_law_448 : decode cL_law 448 = .ok (.aload_n 0, 1) := by decide +kernel
theorem dL_law_449 : decode cL_law 449 = .ok (.iload_n 3, 1) := by decide +kernel
theorem dL_law_450 : decode cL_law 450 = .ok (.iconst 2, 1) := by decide +kernel
theorem dL_law_451 : decode cL_law 451 = .ok (.iadd, 1) := by decide +kernel
theorem dL_law_452 : decode cL_law 452 = .ok (.iaload, 1) := by decide +kernel
theorem dL_law_453 : decode cL_law 453 = .ok (.aload_n 0, 1) := by decide +kernel
theorem dL_law_454 : decode cL_law 454 = .ok (.iload_n 3, 1) := by decide +kernel
theorem dL_law_455 : decode cL_law 455 = .ok (.iconst 3, 1) := by decide +kernel
theorem dL_law_456 : decode cL_law 456 = .ok (.iadd, 1) := by decide +kernel
theorem dL_law_457 : decode cL_law 457 = .ok (.iaload, 1) := by decide +kernel
theorem dL_law_458 : decode cL_law 458 = .ok (.aload_n 0, 1) := by decide +kernel
theorem dL_law_459 : decode cL_law 459 = .ok (.iload_n 3, 1) := by decide +kernel
theorem dL_law_460 : decode cL_law 460 = .ok (.iconst 4, 1) := by decide +kernel
theorem dL_law_461 : decode cL_law 461 = .ok (.iadd, 1) := by decide +kernel
theorem dL_law_462 : decode cL_law 462 = .ok (.iaload, 1) := by decide +kernel
theorem dL_law_463 : decode cL_law 463 = .ok (.invokevirtual 54, 3) := by decide +kernel
theorem dL_law_466 : decode cL_law 466 = .ok (.if_icmp .eq 388, 3) := by decide +kernel
theorem dL_law_469 : decode cL_law 469 = .ok (.iconst 0, 1) := by decide +kernel
theorem dL_law_470 : decode cL_law 470 = .ok (.ireturn, 1) := by decide +kernel
theorem dL_law_471 : decode cL_law 471 = .ok (.aload_n 1, 1) := by decide +kernel
theorem dL_law_472 : decode cL_law 472 = .ok (.aload_n 0, 1) := by decide +kernel
theorem dL_law_473 : decode cL_law 473 = .ok (.iload_n 3, 1) := by decide +kernel
theorem dL_law_474 : decode cL_law 474 = .ok (.iconst 1, 1) := by decide +kernel
theorem dL_law_475 : decode cL_law 475 = .ok (.iadd, 1) := by decide +kernel
theorem dL_law_476 : decode cL_law 476 = .ok (.iaload, 1) := by decide +kernel
theorem dL_law_477 : decode cL_law 477 = .ok (.aload_n 0, 1) := by decide +kernel
theorem dL_law_478 : decode cL_law 478 = .ok (.iload_n 3, 1) := by decide +kernel
theorem dL_law_479 : decode cL_law 479 = .ok (.iconst 2, 1) := by decide +kernel
theorem dL_law_480 : decode cL_law 480 = .ok (.iadd, 1) := by decide +kernel
theorem dL_law_481 : decode cL_law 481 = .ok (.iaload, 1) := by decide +kernel
theorem dL_law_482 : decode cL_law 482 = .ok (.aload_n 0, 1) := by decide +kernel
theorem dL_law_483 : decode cL_law 483 = .ok (.iload_n 3, 1) := by decide +kernel
theorem dL_law_484 : decode cL_law 484 = .ok (.iconst 3, 1) := by decide +kernel
theorem dL_law_485 : decode cL_law 485 = .ok (.iadd, 1) := by decide +kernel
theorem dL_law_486 : decode cL_law 486 = .ok (.iaload, 1) := by decide +kernel
theorem dL_law_487 : decode cL_law 487 = .ok (.invokevirtual 55, 3) := by decide +kernel
theorem dL_law_490 : decode cL_law 490 = .ok (.aload_n 2, 1) := by decide +kernel
theorem dL_law_491 : decode cL_law 491 = .ok (.aload_n 0, 1) := by decide +kernel
theorem dL_law_492 : decode cL_law 492 = .ok (.iload_n 3, 1) := by decide +kernel
theorem dL_law_493 : decode cL_law 493 = .ok (.iconst 1, 1) := by decide +kernel
theorem dL_law_494 : decode cL_law 494 = .ok (.iadd, 1) := by decide +kernel
theorem dL_law_495 : decode cL_law 495 = .ok (.iaload, 1) := by decide +kernel
theorem dL_law_496 : decode cL_law 496 = .ok (.aload_n 0, 1) := by decide +kernel
theorem dL_law_497 : decode cL_law 497 = .ok (.iload_n 3, 1) := by decide +kernel
theorem dL_law_498 : decode cL_law 498 = .ok (.iconst 2, 1) := by decide +kernel
theorem dL_law_499 : decode cL_law 499 = .ok (.iadd, 1) := by decide +kernel
theorem dL_law_500 : decode cL_law 500 = .ok (.iaload, 1) := by decide +kernel
theorem dL_law_501 : decode cL_law 501 = .ok (.aload_n 0, 1) := by decide +kernel
theorem dL_law_502 : decode cL_law 502 = .ok (.iload_n 3, 1) := by decide +kernel
theorem dL_law_503 : decode cL_law 503 = .ok (.iconst 3, 1) := by decide +kernel
theorem dL_law_504 : decode cL_law 504 = .ok (.iadd, 1) := by decide +kernel
theorem dL_law_505 : decode cL_law 505 = .ok (.iaload, 1) := by decide +kernel
theorem dL_law_506 : decode cL_law 506 = .ok (.invokevirtual 58, 3) := by decide +kernel
theorem dL_law_509 : decode cL_law 509 = .ok (.if_icmp .eq 345, 3) := by decide +kernel
theorem dL_law_512 : decode cL_law 512 = .ok (.iconst 0, 1) := by decide +kernel
theorem dL_law_513 : decode cL_law 513 = .ok (.ireturn, 1) := by decide +kernel
theorem dL_law_514 : decode cL_law 514 = .ok (.aload_n 1, 1) := by decide +kernel
theorem dL_law_515 : decode cL_law 515 = .ok (.aload_n 0, 1) := by decide +kernel
theorem dL_law_516 : decode cL_law 516 = .ok (.iload_n 3, 1) := by decide +kernel
theorem dL_law_517 : decode cL_law 517 = .ok (.iconst 1, 1) := by decide +kernel
theorem dL_law_518 : decode cL_law 518 = .ok (.iadd, 1) := by decide +kernel
theorem dL_law_519 : decode cL_law 519 = .ok (.iaload, 1) := by decide +kernel
theorem dL_law_520 : decode cL_law 520 = .ok (.aload_n 0, 1) := by decide +kernel
theorem dL_law_521 : decode cL_law 521 = .ok (.iload_n 3, 1) := by decide +kernel
theorem dL_law_522 : decode cL_law 522 = .ok (.iconst 2, 1) := by decide +kernel
theorem dL_law_523 : decode cL_law 523 = .ok (.iadd, 1) := by decide +kernel
theorem dL_law_524 : decode cL_law 524 = .ok (.iaload, 1) := by decide +kernel
theorem dL_law_525 : decode cL_law 525 = .ok (.aload_n 0, 1) := by decide +kernel
theorem dL_law_526 : decode cL_law 526 = .ok (.iload_n 3, 1) := by decide +kernel
theorem dL_law_527 : decode cL_law 527 = .ok (.iconst 3, 1) := by decide +kernel
theorem dL_law_528 : decode cL_law 528 = .ok (.iadd, 1) := by decide +kernel
theorem dL_law_529 : decode cL_law 529 = .ok (.iaload, 1) := by decide +kernel
theorem dL_law_530 : decode cL_law 530 = .ok (.invokevirtual 59, 3) := by decide +kernel
theorem dL_law_533 : decode cL_law 533 = .ok (.aload_n 2, 1) := by decide +kernel
theorem dL_law_534 : decode cL_law 534 = .ok (.aload_n 0, 1) := by decide +kernel
theorem dL_law_535 : decode cL_law 535 = .ok (.iload_n 3, 1) := by decide +kernel
theorem dL_law_536 : decode cL_law 536 = .ok (.iconst 1, 1) := by decide +kernel
theorem dL_law_537 : decode cL_law 537 = .ok (.iadd, 1) := by decide +kernel
theorem dL_law_538 : decode cL_law 538 = .ok (.iaload, 1) := by decide +kernel
theorem dL_law_539 : decode cL_law 539 = .ok (.aload_n 0, 1) := by decide +kernel
theorem dL_law_540 : decode cL_law 540 = .ok (.iload_n 3, 1) := by decide +kernel
theorem dL_law_541 : decode cL_law 541 = .ok (.iconst 2, 1) := by decide +kernel
theorem dL_law_542 : decode cL_law 542 = .ok (.iadd, 1) := by decide +kernel
theorem dL_law_543 : decode cL_law 543 = .ok (.iaload, 1) := by decide +kernel
theorem dL_law_544 : decode cL_law 544 = .ok (.aload_n 0, 1) := by decide +kernel
theorem dL_law_545 : decode cL_law 545 = .ok (.iload_n 3, 1) := by decide +kernel
theorem dL_law_546 : decode cL_law 546 = .ok (.iconst 3, 1) := by decide +kernel
theorem dL_law_547 : decode cL_law 547 = .ok (.iadd, 1) := by decide +kernel
theorem dL_law_548 : decode cL_law 548 = .ok (.iaload, 1) := by decide +kernel
theorem dL_law_549 : decode cL_law 549 = .ok (.invokevirtual 62, 3) := by decide +kernel
theorem dL_law_552 : decode cL_law 552 = .ok (.if_icmp .eq 302, 3) := by decide +kernel
theorem dL_law_555 : decode cL_law 555 = .ok (.iconst 0, 1) := by decide +kernel
theorem dL_law_556 : decode cL_law 556 = .ok (.ireturn, 1) := by decide +kernel
theorem dL_law_557 : decode cL_law 557 = .ok (.aload_n 1, 1) := by decide +kernel
theorem dL_law_558 : decode cL_law 558 = .ok (.aload_n 0, 1) := by decide +kernel
theorem dL_law_559 : decode cL_law 559 = .ok (.iload_n 3, 1) := by decide +kernel
theorem dL_law_560 : decode cL_law 560 = .ok (.iconst 1, 1) := by decide +kernel
theorem dL_law_561 : decode cL_law 561 = .ok (.iadd, 1) := by decide +kernel
theorem dL_law_562 : decode cL_law 562 = .ok (.iaload, 1) := by decide +kernel
theorem dL_law_563 : decode cL_law 563 = .ok (.aload_n 0, 1) := by decide +kernel
theorem dL_law_564 : decode cL_law 564 = .ok (.iload_n 3, 1) := by decide +kernel
theorem dL_law_565 : decode cL_law 565 = .ok (.iconst 2, 1) := by decide +kernel
theorem dL_law_566 : decode cL_law 566 = .ok (.iadd, 1) := by decide +kernel
theorem dL_law_567 : decode cL_law 567 = .ok (.iaload, 1) := by decide +kernel
theorem dL_law_568 : decode cL_law 568 = .ok (.aload_n 0, 1) := by decide +kernel
theorem dL_law_569 : decode cL_law 569 = .ok (.iload_n 3, 1) := by decide +kernel
theorem dL_law_570 : decode cL_law 570 = .ok (.iconst 3, 1) := by decide +kernel
theorem dL_law_571 : decode cL_law 571 = .ok (.iadd, 1) := by decide +kernel
theorem dL_law_572 : decode cL_law 572 = .ok (.iaload, 1) := by decide +kernel
theorem dL_law_573 : decode cL_law 573 = .ok (.invokevirtual 63, 3) := by decide +kernel
theorem dL_law_576 : decode cL_law 576 = .ok (.aload_n 2, 1) := by decide +kernel
theorem dL_law_577 : decode cL_law 577 = .ok (.aload_n 0, 1) := by decide +kernel
theorem dL_law_578 : decode cL_law 578 = .ok (.iload_n 3, 1) := by decide +kernel
theorem dL_law_579 : decode cL_law 579 = .ok (.iconst 1, 1) := by decide +kernel
theorem dL_law_580 : decode cL_law 580 = .ok (.iadd, 1) := by decide +kernel
theorem dL_law_581 : decode cL_law 581 = .ok (.iaload, 1) := by decide +kernel
theorem dL_law_582 : decode cL_law 582 = .ok (.aload_n 0, 1) := by decide +kernel
theorem dL_law_583 : decode cL_law 583 = .ok (.iload_n 3, 1) := by decide +kernel
theorem dL_law_584 : decode cL_law 584 = .ok (.iconst 2, 1) := by decide +kernel
theorem dL_law_585 : decode cL_law 585 = .ok (.iadd, 1) := by decide +kernel
theorem dL_law_586 : decode cL_law 586 = .ok (.iaload, 1) := by decide +kernel
theorem dL_law_587 : decode cL_law 587 = .ok (.aload_n 0, 1) := by decide +kernel
theorem dL_law_588 : decode cL_law 588 = .ok (.iload_n 3, 1) := by decide +kernel
theorem dL_law_589 : decode cL_law 589 = .ok (.iconst 3, 1) := by decide +kernel
theorem dL_law_590 : decode cL_law 590 = .ok (.iadd, 1) := by decide +kernel
theorem dL_law_591 : decode cL_law 591 = .ok (.iaload, 1) := by decide +kernel
theorem dL_law_592 : decode cL_law 592 = .ok (.invokevirtual 66, 3) := by decide +kernel
theorem dL_law_595 : decode cL_law 595 = .ok (.if_icmp .eq 259, 3) := by decide +kernel
theorem dL_law_598 : decode cL_law 598 = .ok (.iconst 0, 1) := by decide +kernel
theorem dL_law_599 : decode cL_law 599 = .ok (.ireturn, 1) := by decide +kernel
theorem dL_law_600 : decode cL_law 600 = .ok (.aload_n 1, 1) := by decide +kernel
theorem dL_law_601 : decode cL_law 601 = .ok (.aload_n 0, 1) := by decide +kernel
theorem dL_law_602 : decode cL_law 602 = .ok (.iload_n 3, 1) := by decide +kernel
theorem dL_law_603 : decode cL_law 603 = .ok (.iconst 1, 1) := by decide +kernel
theorem dL_law_604 : decode cL_law 604 = .ok (.iadd, 1) := by decide +kernel
theorem dL_law_605 : decode cL_law 605 = .ok (.iaload, 1) := by decide +kernel
theorem dL_law_606 : decode cL_law 606 = .ok (.aload_n 0, 1) := by decide +kernel
theorem dL_law_607 : decode cL_law 607 = .ok (.iload_n 3, 1) := by decide +kernel
theorem dL_law_608 : decode cL_law 608 = .ok (.iconst 2, 1) := by decide +kernel
theorem dL_law_609 : decode cL_law 609 = .ok (.iadd, 1) := by decide +kernel
theorem dL_law_610 : decode cL_law 610 = .ok (.iaload, 1) := by decide +kernel
theorem dL_law_611 : decode cL_law 611 = .ok (.invokevirtual 67, 3) := by decide +kernel
theorem dL_law_614 : decode cL_law 614 = .ok (.aload_n 2, 1) := by decide +kernel
theorem dL_law_615 : decode cL_law 615 = .ok (.aload_n 0, 1) := by decide +kernel
theorem dL_law_616 : decode cL_law 616 = .ok (.iload_n 3, 1) := by decide +kernel
theorem dL_law_617 : decode cL_law 617 = .ok (.iconst 1, 1) := by decide +kernel
theorem dL_law_618 : decode cL_law 618 = .ok (.iadd, 1) := by decide +kernel
theorem dL_law_619 : decode cL_law 619 = .ok (.iaload, 1) := by decide +kernel
theorem dL_law_620 : decode cL_law 620 = .ok (.aload_n 0, 1) := by decide +kernel
theorem dL_law_621 : decode cL_law 621 = .ok (.iload_n 3, 1) := by decide +kernel
theorem dL_law_622 : decode cL_law 622 = .ok (.iconst 2, 1) := by decide +kernel
theorem dL_law_623 : decode cL_law 623 = .ok (.iadd, 1) := by decide +kernel
theorem dL_law_624 : decode cL_law 624 = .ok (.iaload, 1) := by decide +kernel
theorem dL_law_625 : decode cL_law 625 = .ok (.invokevirtual 70, 3) := by decide +kernel
theorem dL_law_628 : decode cL_law 628 = .ok (.if_icmp .eq 226, 3) := by decide +kernel
theorem dL_law_631 : decode cL_law 631 = .ok (.iconst 0, 1) := by decide +kernel
theorem dL_law_632 : decode cL_law 632 = .ok (.ireturn, 1) := by decide +kernel
theorem dL_law_633 : decode cL_law 633 = .ok (.aload_n 1, 1) := by decide +kernel
theorem dL_law_634 : decode cL_law 634 = .ok (.aload_n 0, 1) := by decide +kernel
theorem dL_law_635 : decode cL_law 635 = .ok (.iload_n 3, 1) := by decide +kernel
theorem dL_law_636 : decode cL_law 636 = .ok (.iconst 1, 1) := by decide +kernel
theorem dL_law_637 : decode cL_law 637 = .ok (.iadd, 1) := by decide +kernel
theorem dL_law_638 : decode cL_law 638 = .ok (.iaload, 1) := by decide +kernel
theorem dL_law_639 : decode cL_law 639 = .ok (.aload_n 0, 1) := by decide +kernel
theorem dL_law_640 : decode cL_law 640 = .ok (.iload_n 3, 1) := by decide +kernel
theorem dL_law_641 : decode cL_law 641 = .ok (.iconst 2, 1) := by decide +kernel
theorem dL_law_642 : decode cL_law 642 = .ok (.iadd, 1) := by decide +kernel
theorem dL_law_643 : decode cL_law 643 = .ok (.iaload, 1) := by decide +kernel
theorem dL_law_644 : decode cL_law 644 = .ok (.invokevirtual 71, 3) := by decide +kernel
theorem dL_law_647 : decode cL_law 647 = .ok (.aload_n 2, 1) := by decide +kernel
theorem dL_law_648 : decode cL_law 648 = .ok (.aload_n 0, 1) := by decide +kernel
theorem dL_law_649 : decode cL_law 649 = .ok (.iload_n 3, 1) := by decide +kernel
theorem dL_law_650 : decode cL_law 650 = .ok (.iconst 1, 1) := by decide +kernel
theorem dL_law_651 : decode cL_law 651 = .ok (.iadd, 1) := by decide +kernel
theorem dL_law_652 : decode cL_law 652 = .ok (.iaload, 1) := by decide +kernel
theorem dL_law_653 : decode cL_law 653 = .ok (.aload_n 0, 1) := by decide +kernel
theorem dL_law_654 : decode cL_law 654 = .ok (.iload_n 3, 1) := by decide +kernel
theorem dL_law_655 : decode cL_law 655 = .ok (.iconst 2, 1) := by decide +kernel
theorem dL_law_656 : decode cL_law 656 = .ok (.iadd, 1) := by decide +kernel
theorem dL_law_657 : decode cL_law 657 = .ok (.iaload, 1) := by decide +kernel
theorem dL_law_658 : decode cL_law 658 = .ok (.invokevirtual 74, 3) := by decide +kernel
theorem dL_law_661 : decode cL_law 661 = .ok (.if_icmp .eq 193, 3) := by decide +kernel
theorem dL_law_664 : decode cL_law 664 = .ok (.iconst 0, 1) := by decide +kernel
theorem dL_law_665 : decode cL_law 665 = .ok (.ireturn, 1) := by decide +kernel
theorem dL_law_666 : decode cL_law 666 = .ok (.aload_n 1, 1) := by decide +kernel
theorem dL_law_667 : decode cL_law 667 = .ok (.aload_n 0, 1) := by decide +kernel
theorem dL_law_668 : decode cL_law 668 = .ok (.iload_n 3, 1) := by decide +kernel
theorem dL_law_669 : decode cL_law 669 = .ok (.iconst 1, 1) := by decide +kernel
theorem dL_law_670 : decode cL_law 670 = .ok (.iadd, 1) := by decide +kernel
theorem dL_law_671 : decode cL_law 671 = .ok (.iaload, 1) := by decide +kernel
theorem dL_law_672 : decode cL_law 672 = .ok (.invokevirtual 75, 3) := by decide +kernel
theorem dL_law_675 : decode cL_law 675 = .ok (.aload_n 2, 1) := by decide +kernel
theorem dL_law_676 : decode cL_law 676 = .ok (.aload_n 0, 1) := by decide +kernel
theorem dL_law_677 : decode cL_law 677 = .ok (.iload_n 3, 1) := by decide +kernel
theorem dL_law_678 : decode cL_law 678 = .ok (.iconst 1, 1) := by decide +kernel
theorem dL_law_679 : decode cL_law 679 = .ok (.iadd, 1) := by decide +kernel
theorem dL_law_680 : decode cL_law 680 = .ok (.iaload, 1) := by decide +kernel
theorem dL_law_681 : decode cL_law 681 = .ok (.invokevirtual 78, 3) := by decide +kernel
theorem dL_law_684 : decode cL_law 684 = .ok (.if_icmp .eq 170, 3) := by decide +kernel
theorem dL_law_687 : decode cL_law 687 = .ok (.iconst 0, 1) := by decide +kernel
theorem dL_law_688 : decode cL_law 688 = .ok (.ireturn, 1) := by decide +kernel
theorem dL_law_689 : decode cL_law 689 = .ok (.aload_n 1, 1) := by decide +kernel
theorem dL_law_690 : decode cL_law 690 = .ok (.aload_n 0, 1) := by decide +kernel
theorem dL_law_691 : decode cL_law 691 = .ok (.iload_n 3, 1) := by decide +kernel
theorem dL_law_692 : decode cL_law 692 = .ok (.iconst 1, 1) := by decide +kernel
theorem dL_law_693 : decode cL_law 693 = .ok (.iadd, 1) := by decide +kernel
theorem dL_law_694 : decode cL_law 694 = .ok (.iaload, 1) := by decide +kernel
theorem dL_law_695 : decode cL_law 695 = .ok (.invokevirtual 79, 3) := by decide +kernel
theorem dL_law_698 : decode cL_law 698 = .ok (.aload_n 2, 1) := by decide +kernel
theorem dL_law_699 : decode cL_law 699 = .ok (.aload_n 0, 1) := by decide +kernel
theorem dL_law_700 : decode cL_law 700 = .ok (.iload_n 3, 1) := by decide +kernel
theorem dL_law_701 : decode cL_law 701 = .ok (.iconst 1, 1) := by decide +kernel
theorem dL_law_702 : decode cL_law 702 = .ok (.iadd, 1) := by decide +kernel
theorem dL_law_703 : decode cL_law 703 = .ok (.iaload, 1) := by decide +kernel
theorem dL_law_704 : decode cL_law 704 = .ok (.invokevirtual 82, 3) := by decide +kernel
theorem dL_law_707 : decode cL_law 707 = .ok (.if_icmp .eq 147, 3) := by decide +kernel
theorem dL_law_710 : decode cL_law 710 = .ok (.iconst 0, 1) := by decide +kernel
theorem dL_law_711 : decode cL_law 711 = .ok (.ireturn, 1) := by decide +kernel
theorem dL_law_712 : decode cL_law 712 = .ok (.aload_n 1, 1) := by decide +kernel
theorem dL_law_713 : decode cL_law 713 = .ok (.aload_n 0, 1) := by decide +kernel
theorem dL_law_714 : decode cL_law 714 = .ok (.iload_n 3, 1) := by decide +kernel
theorem dL_law_715 : decode cL_law 715 = .ok (.iconst 1, 1) := by decide +kernel
theorem dL_law_716 : decode cL_law 716 = .ok (.iadd, 1) := by decide +kernel
theorem dL_law_717 : decode cL_law 717 = .ok (.iaload, 1) := by decide +kernel
theorem dL_law_718 : decode cL_law 718 = .ok (.aload_n 0, 1) := by decide +kernel
theorem dL_law_719 : decode cL_law 719 = .ok (.iload_n 3, 1) := by decide +kernel
theorem dL_law_720 : decode cL_law 720 = .ok (.iconst 2, 1) := by decide +kernel
theorem dL_law_721 : decode cL_law 721 = .ok (.iadd, 1) := by decide +kernel
theorem dL_law_722 : decode cL_law 722 = .ok (.iaload, 1) := by decide +kernel
theorem dL_law_723 : decode cL_law 723 = .ok (.invokevirtual 83, 3) := by decide +kernel
theorem dL_law_726 : decode cL_law 726 = .ok (.aload_n 2, 1) := by decide +kernel
theorem dL_law_727 : decode cL_law 727 = .ok (.aload_n 0, 1) := by decide +kernel
theorem dL_law_728 : decode cL_law 728 = .ok (.iload_n 3, 1) := by decide +kernel
theorem dL_law_729 : decode cL_law 729 = .ok (.iconst 1, 1) := by decide +kernel
theorem dL_law_730 : decode cL_law 730 = .ok (.iadd, 1) := by decide +kernel
theorem dL_law_731 : decode cL_law 731 = .ok (.iaload, 1) := by decide +kernel
theorem dL_law_732 : decode cL_law 732 = .ok (.aload_n 0, 1) := by decide +kernel
theorem dL_law_733 : decode cL_law 733 = .ok (.iload_n 3, 1) := by decide +kernel
theorem dL_law_734 : decode cL_law 734 = .ok (.iconst 2, 1) := by decide +kernel
theorem dL_law_735 : decode cL_law 735 = .ok (.iadd, 1) := by decide +kernel
theorem dL_law_736 : decode cL_law 736 = .ok (.iaload, 1) := by decide +kernel
theorem dL_law_737 : decode cL_law 737 = .ok (.invokevirtual 86, 3) := by decide +kernel
theorem dL_law_740 : decode cL_law 740 = .ok (.if_icmp .eq 114, 3) := by decide +kernel
theorem dL_law_743 : decode cL_law 743 = .ok (.iconst 0, 1) := by decide +kernel
theorem dL_law_744 : decode cL_law 744 = .ok (.ireturn, 1) := by decide +kernel
theorem dL_law_745 : decode cL_law 745 = .ok (.aload_n 1, 1) := by decide +kernel
theorem dL_law_746 : decode cL_law 746 = .ok (.aload_n 0, 1) := by decide +kernel
theorem dL_law_747 : decode cL_law 747 = .ok (.iload_n 3, 1) := by decide +kernel
theorem dL_law_748 : decode cL_law 748 = .ok (.iconst 1, 1) := by decide +kernel
theorem dL_law_749 : decode cL_law 749 = .ok (.iadd, 1) := by decide +kernel
theorem dL_law_750 : decode cL_law 750 = .ok (.iaload, 1) := by decide +kernel
theorem dL_law_751 : decode cL_law 751 = .ok (.aload_n 0, 1) := by decide +kernel
theorem dL_law_752 : decode cL_law 752 = .ok (.iload_n 3, 1) := by decide +kernel
theorem dL_law_753 : decode cL_law 753 = .ok (.iconst 2, 1) := by decide +kernel
theorem dL_law_754 : decode cL_law 754 = .ok (.iadd, 1) := by decide +kernel
theorem dL_law_755 : decode cL_law 755 = .ok (.iaload, 1) := by decide +kernel
theorem dL_law_756 : decode cL_law 756 = .ok (.invokevirtual 87, 3) := by decide +kernel
theorem dL_law_759 : decode cL_law 759 = .ok (.aload_n 2, 1) := by decide +kernel
theorem dL_law_760 : decode cL_law 760 = .ok (.aload_n 0, 1) := by decide +kernel
theorem dL_law_761 : decode cL_law 761 = .ok (.iload_n 3, 1) := by decide +kernel
theorem dL_law_762 : decode cL_law 762 = .ok (.iconst 1, 1) := by decide +kernel
theorem dL_law_763 : decode cL_law 763 = .ok (.iadd, 1) := by decide +kernel
theorem dL_law_764 : decode cL_law 764 = .ok (.iaload, 1) := by decide +kernel
theorem dL_law_765 : decode cL_law 765 = .ok (.aload_n 0, 1) := by decide +kernel
theorem dL_law_766 : decode cL_law 766 = .ok (.iload_n 3, 1) := by decide +kernel
theorem dL_law_767 : decode cL_law 767 = .ok (.iconst 2, 1) := by decide +kernel
theorem dL_law_768 : decode cL_law 768 = .ok (.iadd, 1) := by decide +kernel
theorem dL_law_769 : decode cL_law 769 = .ok (.iaload, 1) := by decide +kernel
theorem dL_law_770 : decode cL_law 770 = .ok (.invokevirtual 90, 3) := by decide +kernel
theorem dL_law_773 : decode cL_law 773 = .ok (.if_icmp .eq 81, 3) := by decide +kernel
theorem dL_law_776 : decode cL_law 776 = .ok (.iconst 0, 1) := by decide +kernel
theorem dL_law_777 : decode cL_law 777 = .ok (.ireturn, 1) := by decide +kernel
theorem dL_law_778 : decode cL_law 778 = .ok (.aload_n 1, 1) := by decide +kernel
theorem dL_law_779 : decode cL_law 779 = .ok (.aload_n 0, 1) := by decide +kernel
theorem dL_law_780 : decode cL_law 780 = .ok (.iload_n 3, 1) := by decide +kernel
theorem dL_law_781 : decode cL_law 781 = .ok (.iconst 1, 1) := by decide +kernel
theorem dL_law_782 : decode cL_law 782 = .ok (.iadd, 1) := by decide +kernel
theorem dL_law_783 : decode cL_law 783 = .ok (.iaload, 1) := by decide +kernel
theorem dL_law_784 : decode cL_law 784 = .ok (.aload_n 0, 1) := by decide +kernel
theorem dL_law_785 : decode cL_law 785 = .ok (.iload_n 3, 1) := by decide +kernel
theorem dL_law_786 : decode cL_law 786 = .ok (.iconst 2, 1) := by decide +kernel
theorem dL_law_787 : decode cL_law 787 = .ok (.iadd, 1) := by decide +kernel
theorem dL_law_788 : decode cL_law 788 = .ok (.iaload, 1) := by decide +kernel
theorem dL_law_789 : decode cL_law 789 = .ok (.invokevirtual 91, 3) := by decide +kernel
theorem dL_law_792 : decode cL_law 792 = .ok (.aload_n 2, 1) := by decide +kernel
theorem dL_law_793 : decode cL_law 793 = .ok (.aload_n 0, 1) := by decide +kernel
theorem dL_law_794 : decode cL_law 794 = .ok (.iload_n 3, 1) := by decide +kernel
theorem dL_law_795 : decode cL_law 795 = .ok (.iconst 1, 1) := by decide +kernel
theorem dL_law_796 : decode cL_law 796 = .ok (.iadd, 1) := by decide +kernel
theorem dL_law_797 : decode cL_law 797 = .ok (.iaload, 1) := by decide +kernel
theorem dL_law_798 : decode cL_law 798 = .ok (.aload_n 0, 1) := by decide +kernel
theorem dL_law_799 : decode cL_law 799 = .ok (.iload_n 3, 1) := by decide +kernel
theorem dL_law_800 : decode cL_law 800 = .ok (.iconst 2, 1) := by decide +kernel
theorem dL_law_801 : decode cL_law 801 = .ok (.iadd, 1) := by decide +kernel
theorem dL_law_802 : decode cL_law 802 = .ok (.iaload, 1) := by decide +kernel
theorem dL_law_803 : decode cL_law 803 = .ok (.invokevirtual 94, 3) := by decide +kernel
theorem dL_law_806 : decode cL_law 806 = .ok (.if_icmp .eq 48, 3) := by decide +kernel
theorem dL_law_809 : decode cL_law 809 = .ok (.iconst 0, 1) := by decide +kernel
theorem dL_law_810 : decode cL_law 810 = .ok (.ireturn, 1) := by decide +kernel
theorem dL_law_811 : decode cL_law 811 = .ok (.aload_n 1, 1) := by decide +kernel
theorem dL_law_812 : decode cL_law 812 = .ok (.aload_n 0, 1) := by decide +kernel
theorem dL_law_813 : decode cL_law 813 = .ok (.iload_n 3, 1) := by decide +kernel
theorem dL_law_814 : decode cL_law 814 = .ok (.iconst 1, 1) := by decide +kernel
theorem dL_law_815 : decode cL_law 815 = .ok (.iadd, 1) := by decide +kernel
theorem dL_law_816 : decode cL_law 816 = .ok (.iaload, 1) := by decide +kernel
theorem dL_law_817 : decode cL_law 817 = .ok (.aload_n 0, 1) := by decide +kernel
theorem dL_law_818 : decode cL_law 818 = .ok (.iload_n 3, 1) := by decide +kernel
theorem dL_law_819 : decode cL_law 819 = .ok (.iconst 2, 1) := by decide +kernel
theorem dL_law_820 : decode cL_law 820 = .ok (.iadd, 1) := by decide +kernel
theorem dL_law_821 : decode cL_law 821 = .ok (.iaload, 1) := by decide +kernel
theorem dL_law_822 : decode cL_law 822 = .ok (.aload_n 0, 1) := by decide +kernel
theorem dL_law_823 : decode cL_law 823 = .ok (.iload_n 3, 1) := by decide +kernel
theorem dL_law_824 : decode cL_law 824 = .ok (.iconst 3, 1) := by decide +kernel
theorem dL_law_825 : decode cL_law 825 = .ok (.iadd, 1) := by decide +kernel
theorem dL_law_826 : decode cL_law 826 = .ok (.iaload, 1) := by decide +kernel
theorem dL_law_827 : decode cL_law 827 = .ok (.invokevirtual 95, 3) := by decide +kernel
theorem dL_law_830 : decode cL_law 830 = .ok (.aload_n 2, 1) := by decide +kernel
theorem dL_law_831 : decode cL_law 831 = .ok (.aload_n 0, 1) := by decide +kernel
theorem dL_law_832 : decode cL_law 832 = .ok (.iload_n 3, 1) := by decide +kernel
theorem dL_law_833 : decode cL_law 833 = .ok (.iconst 1, 1) := by decide +kernel
theorem dL_law_834 : decode cL_law 834 = .ok (.iadd, 1) := by decide +kernel
theorem dL_law_835 : decode cL_law 835 = .ok (.iaload, 1) := by decide +kernel
theorem dL_law_836 : decode cL_law 836 = .ok (.aload_n 0, 1) := by decide +kernel
theorem dL_law_837 : decode cL_law 837 = .ok (.iload_n 3, 1) := by decide +kernel
theorem dL_law_838 : decode cL_law 838 = .ok (.iconst 2, 1) := by decide +kernel
theorem dL_law_839 : decode cL_law 839 = .ok (.iadd, 1) := by decide +kernel
theorem dL_law_840 : decode cL_law 840 = .ok (.iaload, 1) := by decide +kernel
theorem dL_law_841 : decode cL_law 841 = .ok (.aload_n 0, 1) := by decide +kernel
theorem dL_law_842 : decode cL_law 842 = .ok (.iload_n 3, 1) := by decide +kernel
theorem dL_law_843 : decode cL_law 843 = .ok (.iconst 3, 1) := by decide +kernel
theorem dL_law_844 : decode cL_law 844 = .ok (.iadd, 1) := by decide +kernel
theorem dL_law_845 : decode cL_law 845 = .ok (.iaload, 1) := by decide +kernel
theorem dL_law_846 : decode cL_law 846 = .ok (.invokevirtual 98, 3) := by decide +kernel
theorem dL_law_849 : decode cL_law 849 = .ok (.if_icmp .eq 5, 3) := by decide +kernel
theorem dL_law_852 : decode cL_law 852 = .ok (.iconst 0, 1) := by decide +kernel
theorem dL_law_853 : decode cL_law 853 = .ok (.ireturn, 1) := by decide +kernel
theorem dL_law_854 : decode cL_law 854 = .ok (.iinc 3 5, 3) := by decide +kernel
theorem dL_law_857 : decode cL_law 857 = .ok (.goto (-839), 3) := by decide +kernel
theorem dL_law_860 : decode cL_law 860 = .ok (.iconst 1, 1) := by decide +kernel
theorem dL_law_861 : decode cL_law 861 = .ok (.ireturn, 1) := by decide +kernel
