theorem dX10_buy_73 : decode cX10_buy 73 = .ok (.getfield 155, 3) := by decide +kernel
theorem dX10_buy_76 : decode cX10_buy 76 = .ok (.aload 5, 2) := by decide +kernel
theorem dX10_buy_78 : decode cX10_buy 78 = .ok (.invokevirtual 172, 3) := by decide +kernel
theorem dX10_buy_81 : decode cX10_buy 81 = .ok (.isub, 1) := by decide +kernel
theorem dX10_buy_82 : decode cX10_buy 82 = .ok (.invokestatic 175, 3) := by decide +kernel
theorem dX10_buy_85 : decode cX10_buy 85 = .ok (.invokevirtual 181, 3) := by decide +kernel
theorem dX10_buy_88 : decode cX10_buy 88 = .ok (.aload 7, 2) := by decide +kernel
theorem dX10_buy_90 : decode cX10_buy 90 = .ok (.aload_n 0, 1) := by decide +kernel
theorem dX10_buy_91 : decode cX10_buy 91 = .ok (.getfield 33, 3) := by decide +kernel
theorem dX10_buy_94 : decode cX10_buy 94 = .ok (.getfield 185, 3) := by decide +kernel
theorem dX10_buy_97 : decode cX10_buy 97 = .ok (.putfield 169, 3) := by decide +kernel
theorem dX10_buy_100 : decode cX10_buy 100 = .ok (.aload 5, 2) := by decide +kernel
theorem dX10_buy_102 : decode cX10_buy 102 = .ok (.aload_n 0, 1) := by decide +kernel
theorem dX10_buy_103 : decode cX10_buy 103 = .ok (.getfield 33, 3) := by decide +kernel
theorem dX10_buy_106 : decode cX10_buy 106 = .ok (.getfield 186, 3) := by decide +kernel
theorem dX10_buy_109 : decode cX10_buy 109 = .ok (.putfield 158, 3) := by decide +kernel
theorem dX10_buy_112 : decode cX10_buy 112 = .ok (.aload 5, 2) := by decide +kernel
theorem dX10_buy_114 : decode cX10_buy 114 = .ok (.getfield 187, 3) := by decide +kernel
theorem dX10_buy_117 : decode cX10_buy 117 = .ok (.iload_n 2, 1) := by decide +kernel
theorem dX10_buy_118 : decode cX10_buy 118 = .ok (.dup2, 1) := by decide +kernel
theorem dX10_buy_119 : decode cX10_buy 119 = .ok (.iaload, 1) := by decide +kernel
theorem dX10_buy_120 : decode cX10_buy 120 = .ok (.aload_n 0, 1) := by decide +kernel
theorem dX10_buy_121 : decode cX10_buy 121 = .ok (.getfield 33, 3) := by decide +kernel
theorem dX10_buy_124 : decode cX10_buy 124 = .ok (.getfield 190, 3) := by decide +kernel
theorem dX10_buy_127 : decode cX10_buy 127 = .ok (.iadd, 1) := by decide +kernel
theorem dX10_buy_128 : decode cX10_buy 128 = .ok (.iastore, 1) := by decide +kernel
theorem dX10_buy_129 : decode cX10_buy 129 = .ok (.aload 6, 2) := by decide +kernel
theorem dX10_buy_131 : decode cX10_buy 131 = .ok (.dup, 1) := by decide +kernel
theorem dX10_buy_132 : decode cX10_buy 132 = .ok (.getfield 117, 3) := by decide +kernel
theorem dX10_buy_135 : decode cX10_buy 135 = .ok (.aload_n 0, 1) := by decide +kernel
theorem dX10_buy_136 : decode cX10_buy 136 = .ok (.getfield 33, 3) := by decide +kernel
theorem dX10_buy_139 : decode cX10_buy 139 = .ok (.getfield 193, 3) := by decide +kernel
theorem dX10_buy_142 : decode cX10_buy 142 = .ok (.isub, 1) := by decide +kernel
theorem dX10_buy_143 : decode cX10_buy 143 = .ok (.putfield 117, 3) := by decide +kernel
theorem dX10_buy_146 : decode cX10_buy 146 = .ok (.aload 6, 2) := by decide +kernel
theorem dX10_buy_148 : decode cX10_buy 148 = .ok (.dup, 1) := by decide +kernel
theorem dX10_buy_149 : decode cX10_buy 149 = .ok (.getfield 114, 3) := by decide +kernel
theorem dX10_buy_152 : decode cX10_buy 152 = .ok (.aload_n 0, 1) := by decide +kernel
theorem dX10_buy_153 : decode cX10_buy 153 = .ok (.getfield 33, 3) := by decide +kernel
theorem dX10_buy_156 : decode cX10_buy 156 = .ok (.getfield 196, 3) := by decide +kernel
theorem dX10_buy_159 : decode cX10_buy 159 = .ok (.iadd, 1) := by decide +kernel
theorem dX10_buy_160 : decode cX10_buy 160 = .ok (.putfield 114, 3) := by decide +kernel
theorem dX10_buy_163 : decode cX10_buy 163 = .ok (.aload_n 0, 1) := by decide +kernel
theorem dX10_buy_164 : decode cX10_buy 164 = .ok (.getfield 33, 3) := by decide +kernel
theorem dX10_buy_167 : decode cX10_buy 167 = .ok (.getfield 190, 3) := by decide +kernel
theorem dX10_buy_170 : decode cX10_buy 170 = .ok (.ireturn, 1) := by decide +kernel
theorem dX10_sell_0 : decode cX10_sell 0 = .ok (.aload_n 0, 1) := by decide +kernel
theorem dX10_sell_1 : decode cX10_sell 1 = .ok (.iload_n 1, 1) := by decide +kernel
theorem dX10_sell_2 : decode cX10_sell 2 = .ok (.iload_n 2, 1) := by decide +kernel
theorem dX10_sell_3 : decode cX10_sell 3 = .ok (.iload_n 3, 1) := by decide +kernel
theorem dX10_sell_4 : decode cX10_sell 4 = .ok (.invokevirtual 161, 3) := by decide +kernel
theorem dX10_sell_7 : decode cX10_sell 7 = .ok (.istore 4, 2) := by decide +kernel
theorem dX10_sell_9 : decode cX10_sell 9 = .ok (.iload 4, 2) := by decide +kernel
theorem dX10_sell_11 : decode cX10_sell 11 = .ok (.ifCond .eq 6, 3) := by decide +kernel
theorem dX10_sell_14 : decode cX10_sell 14 = .ok (.iload 4, 2) := by decide +kernel
theorem dX10_sell_16 : decode cX10_sell 16 = .ok (.ireturn, 1) := by decide +kernel
theorem dX10_sell_17 : decode cX10_sell 17 = .ok (.aload_n 0, 1) := by decide +kernel
theorem dX10_sell_18 : decode cX10_sell 18 = .ok (.getfield 18, 3) := by decide +kernel
theorem dX10_sell_21 : decode cX10_sell 21 = .ok (.iload_n 1, 1) := by decide +kernel
theorem dX10_sell_22 : decode cX10_sell 22 = .ok (.aaload, 1) := by decide +kernel
theorem dX10_sell_23 : decode cX10_sell 23 = .ok (.astore 5, 2) := by decide +kernel
theorem dX10_sell_25 : decode cX10_sell 25 = .ok (.aload_n 0, 1) := by decide +kernel
theorem dX10_sell_26 : decode cX10_sell 26 = .ok (.getfield 10, 3) := by decide +kernel
theorem dX10_sell_29 : decode cX10_sell 29 = .ok (.getfield 92, 3) := by decide +kernel
theorem dX10_sell_32 : decode cX10_sell 32 = .ok (.aload 5, 2) := by decide +kernel
theorem dX10_sell_34 : decode cX10_sell 34 = .ok (.getfield 152, 3) := by decide +kernel
theorem dX10_sell_37 : decode cX10_sell 37 = .ok (.aaload, 1) := by decide +kernel
theorem dX10_sell_38 : decode cX10_sell 38 = .ok (.astore 6, 2) := by decide +kernel
theorem dX10_sell_40 : decode cX10_sell 40 = .ok (.aload 6, 2) := by decide +kernel
theorem dX10_sell_42 : decode cX10_sell 42 = .ok (.getfield 165, 3) := by decide +kernel
theorem dX10_sell_45 : decode cX10_sell 45 = .ok (.iload_n 2, 1) := by decide +kernel
theorem dX10_sell_46 : decode cX10_sell 46 = .ok (.aaload, 1) := by decide +kernel
theorem dX10_sell_47 : decode cX10_sell 47 = .ok (.astore 7, 2) := by decide +kernel
theorem dX10_sell_49 : decode cX10_sell 49 = .ok (.aload_n 0, 1) := by decide +kernel
theorem dX10_sell_50 : decode cX10_sell 50 = .ok (.getfield 33, 3) := by decide +kernel
theorem dX10_sell_53 : decode cX10_sell 53 = .ok (.aload 7, 2) := by decide +kernel
theorem dX10_sell_55 : decode cX10_sell 55 = .ok (.aload 7, 2) := by decide +kernel
theorem dX10_sell_57 : decode cX10_sell 57 = .ok (.getfield 169, 3) := by decide +kernel
theorem dX10_sell_60 : decode cX10_sell 60 = .ok (.aload 6, 2) := by decide +kernel
theorem dX10_sell_62 : decode cX10_sell 62 = .ok (.getfield 96, 3) := by decide +kernel
theorem dX10_sell_65 : decode cX10_sell 65 = .ok (.aload 5, 2) := by decide +kernel
theorem dX10_sell_67 : decode cX10_sell 67 = .ok (.getfield 158, 3) := by decide +kernel
theorem dX10_sell_70 : decode cX10_sell 70 = .ok (.iload_n 3, 1) := by decide +kernel
theorem dX10_sell_71 : decode cX10_sell 71 = .ok (.aload 5, 2) := by decide +kernel
theorem dX10_sell_73 : decode cX10_sell 73 = .ok (.getfield 187, 3) := by decide +kernel
theorem dX10_sell_76 : decode cX10_sell 76 = .ok (.iload_n 2, 1) := by decide +kernel
theorem dX10_sell_77 : decode cX10_sell 77 = .ok (.iaload, 1) := by decide +kernel
theorem dX10_sell_78 : decode cX10_sell 78 = .ok (.invokestatic 175, 3) := by decide +kernel
theorem dX10_sell_81 : decode cX10_sell 81 = .ok (.invokevirtual 199, 3) := by decide +kernel
theorem dX10_sell_84 : decode cX10_sell 84 = .ok (.aload 7, 2) := by decide +kernel
theorem dX10_sell_86 : decode cX10_sell 86 = .ok (.aload_n 0, 1) := by decide +kernel
theorem dX10_sell_87 : decode cX10_sell 87 = .ok (.getfield 33, 3) := by decide +kernel
theorem dX10_sell_90 : decode cX10_sell 90 = .ok (.getfield 185, 3) := by decide +kernel
theorem dX10_sell_93 : decode cX10_sell 93 = .ok (.putfield 169, 3) := by decide +kernel
theorem dX10_sell_96 : decode cX10_sell 96 = .ok (.aload 5, 2) := by decide +kernel
theorem dX10_sell_98 : decode cX10_sell 98 = .ok (.aload_n 0, 1) := by decide +kernel
theorem dX10_sell_99 : decode cX10_sell 99 = .ok (.getfield 33, 3) := by decide +kernel
theorem dX10_sell_102 : decode cX10_sell 102 = .ok (.getfield 186, 3) := by decide +kernel
theorem dX10_sell_105 : decode cX10_sell 105 = .ok (.putfield 158, 3) := by decide +kernel
theorem dX10_sell_108 : decode cX10_sell 108 = .ok (.aload 5, 2) := by decide +kernel
theorem dX10_sell_110 : decode cX10_sell 110 = .ok (.getfield 187, 3) := by decide +kernel
theorem dX10_sell_113 : decode cX10_sell 113 = .ok (.iload_n 2, 1) := by decide +kernel
theorem dX10_sell_114 : decode cX10_sell 114 = .ok (.dup2, 1) := by decide +kernel
theorem dX10_sell_115 : decode cX10_sell 115 = .ok (.iaload, 1) := by decide +kernel
theorem dX10_sell_116 : decode cX10_sell 116 = .ok (.aload_n 0, 1) := by decide +kernel
theorem dX10_sell_117 : decode cX10_sell 117 = .ok (.getfield 33, 3) := by decide +kernel
theorem dX10_sell_120 : decode cX10_sell 120 = .ok (.getfield 190, 3) := by decide +kernel
theorem dX10_sell_123 : decode cX10_sell 123 = .ok (.isub, 1) := by decide +kernel
theorem dX10_sell_124 : decode cX10_sell 124 = .ok (.iastore, 1) := by decide +kernel
theorem dX10_sell_125 : decode cX10_sell 125 = .ok (.aload 6, 2) := by decide +kernel
theorem dX10_sell_127 : decode cX10_sell 127 = .ok (.dup, 1) := by decide +kernel
theorem dX10_sell_128 : decode cX10_sell 128 = .ok (.getfield 117, 3) := by decide +kernel
theorem dX10_sell_131 : decode cX10_sell 131 = .ok (.aload_n 0, 1) := by decide +kernel
theorem dX10_sell_132 : decode cX10_sell 132 = .ok (.getfield 33, 3) := by decide +kernel
theorem dX10_sell_135 : decode cX10_sell 135 = .ok (.getfield 193, 3) := by decide +kernel
theorem dX10_sell_138 : decode cX10_sell 138 = .ok (.iadd, 1) := by decide +kernel
theorem dX10_sell_139 : decode cX10_sell 139 = .ok (.putfield 117, 3) := by decide +kernel
theorem dX10_sell_142 : decode cX10_sell 142 = .ok (.aload 6, 2) := by decide +kernel
theorem dX10_sell_144 : decode cX10_sell 144 = .ok (.dup, 1) := by decide +kernel
theorem dX10_sell_145 : decode cX10_sell 145 = .ok (.getfield 114, 3) := by decide +kernel
theorem dX10_sell_148 : decode cX10_sell 148 = .ok (.aload_n 0, 1) := by decide +kernel
theorem dX10_sell_149 : decode cX10_sell 149 = .ok (.getfield 33, 3) := by decide +kernel
theorem dX10_sell_152 : decode cX10_sell 152 = .ok (.getfield 196, 3) := by decide +kernel
theorem dX10_sell_155 : decode cX10_sell 155 = .ok (.iadd, 1) := by decide +kernel
theorem dX10_sell_156 : decode cX10_sell 156 = .ok (.putfield 114, 3) := by decide +kernel
theorem dX10_sell_159 : decode cX10_sell 159 = .ok (.aload_n 0, 1) := by decide +kernel
theorem dX10_sell_160 : decode cX10_sell 160 = .ok (.getfield 33, 3) := by decide +kernel
theorem dX10_sell_163 : decode cX10_sell 163 = .ok (.getfield 190, 3) := by decide +kernel
theorem dX10_sell_166 : decode cX10_sell 166 = .ok (.ireturn, 1) := by decide +kernel
theorem dX10_go_0 : decode cX10_go 0 = .ok (.aload_n 0, 1) := by decide +kernel
theorem dX10_go_1 : decode cX10_go 1 = .ok (.iload_n 1, 1) := by decide +kernel
theorem dX10_go_2 : decode cX10_go 2 = .ok (.invokevirtual 202, 3) := by decide +kernel
theorem dX10_go_5 : decode cX10_go 5 = .ok (.ifCond .eq 11, 3) := by decide +kernel
theorem dX10_go_8 : decode cX10_go 8 = .ok (.aload_n 0, 1) := by decide +kernel
theorem dX10_go_9 : decode cX10_go 9 = .ok (.iload_n 2, 1) := by decide +kernel
theorem dX10_go_10 : decode cX10_go 10 = .ok (.invokevirtual 57, 3) := by decide +kernel
theorem dX10_go_13 : decode cX10_go 13 = .ok (.ifCond .ne 5, 3) := by decide +kernel
theorem dX10_go_16 : decode cX10_go 16 = .ok (.iconst (-1), 1) := by decide +kernel
theorem dX10_go_17 : decode cX10_go 17 = .ok (.ireturn, 1) := by decide +kernel
theorem dX10_go_18 : decode cX10_go 18 = .ok (.aload_n 0, 1) := by decide +kernel
theorem dX10_go_19 : decode cX10_go 19 = .ok (.getfield 18, 3) := by decide +kernel
theorem dX10_go_22 : decode cX10_go 22 = .ok (.iload_n 1, 1) := by decide +kernel
theorem dX10_go_23 : decode cX10_go 23 = .ok (.aaload, 1) := by decide +kernel
theorem dX10_go_24 : decode cX10_go 24 = .ok (.astore_n 3, 1) := by decide +kernel
theorem dX10_go_25 : decode cX10_go 25 = .ok (.aload_n 0, 1) := by decide +kernel
theorem dX10_go_26 : decode cX10_go 26 = .ok (.getfield 10, 3) := by decide +kernel
theorem dX10_go_29 : decode cX10_go 29 = .ok (.getfield 109, 3) := by decide +kernel
theorem dX10_go_32 : decode cX10_go 32 = .ok (.aload_n 3, 1) := by decide +kernel
theorem dX10_go_33 : decode cX10_go 33 = .ok (.getfield 152, 3) := by decide +kernel
theorem dX10_go_36 : decode cX10_go 36 = .ok (.aaload, 1) := by decide +kernel
theorem dX10_go_37 : decode cX10_go 37 = .ok (.iload_n 2, 1) := by decide +kernel
theorem dX10_go_38 : decode cX10_go 38 = .ok (.iaload, 1) := by decide +kernel
theorem dX10_go_39 : decode cX10_go 39 = .ok (.istore 4, 2) := by decide +kernel
theorem dX10_go_41 : decode cX10_go 41 = .ok (.aload_n 0, 1) := by decide +kernel
theorem dX10_go_42 : decode cX10_go 42 = .ok (.getfield 10, 3) := by decide +kernel
theorem dX10_go_45 : decode cX10_go 45 = .ok (.getfield 125, 3) := by decide +kernel
theorem dX10_go_48 : decode cX10_go 48 = .ok (.iload 4, 2) := by decide +kernel
theorem dX10_go_50 : decode cX10_go 50 = .ok (.iadd, 1) := by decide +kernel
theorem dX10_go_51 : decode cX10_go 51 = .ok (.sipush 999, 3) := by decide +kernel
theorem dX10_go_54 : decode cX10_go 54 = .ok (.if_icmp .le 6, 3) := by decide +kernel
theorem dX10_go_57 : decode cX10_go 57 = .ok (.bipush (-3), 2) := by decide +kernel
theorem dX10_go_59 : decode cX10_go 59 = .ok (.ireturn, 1) := by decide +kernel
theorem dX10_go_60 : decode cX10_go 60 = .ok (.aload_n 0, 1) := by decide +kernel
theorem dX10_go_61 : decode cX10_go 61 = .ok (.getfield 10, 3) := by decide +kernel
theorem dX10_go_64 : decode cX10_go 64 = .ok (.getfield 205, 3) := by decide +kernel
theorem dX10_go_67 : decode cX10_go 67 = .ok (.iload 4, 2) := by decide +kernel
theorem dX10_go_69 : decode cX10_go 69 = .ok (.imul, 1) := by decide +kernel
theorem dX10_go_70 : decode cX10_go 70 = .ok (.istore 5, 2) := by decide +kernel
theorem dX10_go_72 : decode cX10_go 72 = .ok (.aload_n 0, 1) := by decide +kernel
theorem dX10_go_73 : decode cX10_go 73 = .ok (.getfield 10, 3) := by decide +kernel
theorem dX10_go_76 : decode cX10_go 76 = .ok (.aload_n 3, 1) := by decide +kernel
theorem dX10_go_77 : decode cX10_go 77 = .ok (.getfield 152, 3) := by decide +kernel
theorem dX10_go_80 : decode cX10_go 80 = .ok (.iload_n 2, 1) := by decide +kernel
theorem dX10_go_81 : decode cX10_go 81 = .ok (.invokevirtual 208, 3) := by decide +kernel
theorem dX10_go_84 : decode cX10_go 84 = .ok (.ifCond .eq 12, 3) := by decide +kernel
theorem dX10_go_87 : decode cX10_go 87 = .ok (.iload 5, 2) := by decide +kernel
theorem dX10_go_89 : decode cX10_go 89 = .ok (.aload_n 3, 1) := by decide +kernel
theorem dX10_go_90 : decode cX10_go 90 = .ok (.getfield 158, 3) := by decide +kernel
theorem dX10_go_93 : decode cX10_go 93 = .ok (.if_icmp .le 6, 3) := by decide +kernel
theorem dX10_go_96 : decode cX10_go 96 = .ok (.bipush (-5), 2) := by decide +kernel
theorem dX10_go_98 : decode cX10_go 98 = .ok (.ireturn, 1) := by decide +kernel
theorem dX10_go_99 : decode cX10_go 99 = .ok (.aload_n 3, 1) := by decide +kernel
theorem dX10_go_100 : decode cX10_go 100 = .ok (.dup, 1) := by decide +kernel
theorem dX10_go_101 : decode cX10_go 101 = .ok (.getfield 158, 3) := by decide +kernel
theorem dX10_go_104 : decode cX10_go 104 = .ok (.iload 5, 2) := by decide +kernel
theorem dX10_go_106 : decode cX10_go 106 = .ok (.isub, 1) := by decide +kernel
theorem dX10_go_107 : decode cX10_go 107 = .ok (.putfield 158, 3) := by decide +kernel
theorem dX10_go_110 : decode cX10_go 110 = .ok (.aload_n 0, 1) := by decide +kernel
theorem dX10_go_111 : decode cX10_go 111 = .ok (.dup, 1) := by decide +kernel
theorem dX10_go_112 : decode cX10_go 112 = .ok (.getfield 211, 3) := by decide +kernel
theorem dX10_go_115 : decode cX10_go 115 = .ok (.iload 5, 2) := by decide +kernel
theorem dX10_go_117 : decode cX10_go 117 = .ok (.iadd, 1) := by decide +kernel
theorem dX10_go_118 : decode cX10_go 118 = .ok (.putfield 211, 3) := by decide +kernel
theorem dX10_go_121 : decode cX10_go 121 = .ok (.aload_n 0, 1) := by decide +kernel
theorem dX10_go_122 : decode cX10_go 122 = .ok (.iload 4, 2) := by decide +kernel
theorem dX10_go_124 : decode cX10_go 124 = .ok (.invokevirtual 128, 3) := by decide +kernel
theorem dX10_go_127 : decode cX10_go 127 = .ok (.aload_n 3, 1) := by decide +kernel
theorem dX10_go_128 : decode cX10_go 128 = .ok (.iload_n 2, 1) := by decide +kernel
theorem dX10_go_129 : decode cX10_go 129 = .ok (.putfield 152, 3) := by decide +kernel
theorem dX10_go_132 : decode cX10_go 132 = .ok (.aload_n 0, 1) := by decide +kernel
theorem dX10_go_133 : decode cX10_go 133 = .ok (.getfield 10, 3) := by decide +kernel
theorem dX10_go_136 : decode cX10_go 136 = .ok (.getfield 125, 3) := by decide +kernel
theorem dX10_go_139 : decode cX10_go 139 = .ok (.ireturn, 1) := by decide +kernel
theorem dX10_ofShip_0 : decode cX10_ofShip 0 = .ok (.aload_n 0, 1) := by decide +kernel
theorem dX10_ofShip_1 : decode cX10_ofShip 1 = .ok (.iload_n 1, 1) := by decide +kernel
theorem dX10_ofShip_2 : decode cX10_ofShip 2 = .ok (.invokevirtual 202, 3) := by decide +kernel
theorem dX10_ofShip_5 : decode cX10_ofShip 5 = .ok (.ifCond .ne 5, 3) := by decide +kernel
theorem dX10_ofShip_8 : decode cX10_ofShip 8 = .ok (.iconst (-1), 1) := by decide +kernel
theorem dX10_ofShip_9 : decode cX10_ofShip 9 = .ok (.ireturn, 1) := by decide +kernel
theorem dX10_ofShip_10 : decode cX10_ofShip 10 = .ok (.aload_n 0, 1) := by decide +kernel
theorem dX10_ofShip_11 : decode cX10_ofShip 11 = .ok (.getfield 18, 3) := by decide +kernel
theorem dX10_ofShip_14 : decode cX10_ofShip 14 = .ok (.iload_n 1, 1) := by decide +kernel
theorem dX10_ofShip_15 : decode cX10_ofShip 15 = .ok (.aaload, 1) := by decide +kernel
theorem dX10_ofShip_16 : decode cX10_ofShip 16 = .ok (.astore_n 3, 1) := by decide +kernel
theorem dX10_ofShip_17 : decode cX10_ofShip 17 = .ok (.iload_n 2, 1) := by decide +kernel
theorem dX10_ofShip_18 : decode cX10_ofShip 18 = .ok (.bipush 10, 2) := by decide +kernel
theorem dX10_ofShip_20 : decode cX10_ofShip 20 = .ok (.bipush 12, 2) := by decide +kernel
theorem dX10_ofShip_22 : decode cX10_ofShip 22 = .ok (.invokestatic 64, 3) := by decide +kernel
theorem dX10_ofShip_25 : decode cX10_ofShip 25 = .ok (.ifCond .eq 13, 3) := by decide +kernel
theorem dX10_ofShip_28 : decode cX10_ofShip 28 = .ok (.aload_n 3, 1) := by decide +kernel
theorem dX10_ofShip_29 : decode cX10_ofShip 29 = .ok (.getfield 187, 3) := by decide +kernel
theorem dX10_ofShip_32 : decode cX10_ofShip 32 = .ok (.iload_n 2, 1) := by decide +kernel
theorem dX10_ofShip_33 : decode cX10_ofShip 33 = .ok (.bipush 10, 2) := by decide +kernel
theorem dX10_ofShip_35 : decode cX10_ofShip 35 = .ok (.isub, 1) := by decide +kernel
theorem dX10_ofShip_36 : decode cX10_ofShip 36 = .ok (.iaload, 1) := by decide +kernel
theorem dX10_ofShip_37 : decode cX10_ofShip 37 = .ok (.ireturn, 1) := by decide +kernel
theorem dX10_ofShip_38 : decode cX10_ofShip 38 = .ok (.iload_n 2, 1) := by decide +kernel
theorem dX10_ofShip_39 : decode cX10_ofShip 39 = .ok (.tableswitch 49 0 3 #[29, 34, 39, 44], 29) := by decide +kernel
theorem dX10_ofShip_68 : decode cX10_ofShip 68 = .ok (.aload_n 3, 1) := by decide +kernel
theorem dX10_ofShip_69 : decode cX10_ofShip 69 = .ok (.getfield 152, 3) := by decide +kernel
theorem dX10_ofShip_72 : decode cX10_ofShip 72 = .ok (.ireturn, 1) := by decide +kernel
theorem dX10_ofShip_73 : decode cX10_ofShip 73 = .ok (.aload_n 3, 1) := by decide +kernel
theorem dX10_ofShip_74 : decode cX10_ofShip 74 = .ok (.getfield 155, 3) := by decide +kernel
theorem dX10_ofShip_77 : decode cX10_ofShip 77 = .ok (.ireturn, 1) := by decide +kernel
theorem dX10_ofShip_78 : decode cX10_ofShip 78 = .ok (.aload_n 3, 1) := by decide +kernel
theorem dX10_ofShip_79 : decode cX10_ofShip 79 = .ok (.getfield 158, 3) := by decide +kernel
theorem dX10_ofShip_82 : decode cX10_ofShip 82 = .ok (.ireturn, 1) := by decide +kernel
theorem dX10_ofShip_83 : decode cX10_ofShip 83 = .ok (.aload_n 3, 1) := by decide +kernel
theorem dX10_ofShip_84 : decode cX10_ofShip 84 = .ok (.invokevirtual 172, 3) := by decide +kernel
theorem dX10_ofShip_87 : decode cX10_ofShip 87 = .ok (.ireturn, 1) := by decide +kernel
theorem dX10_ofShip_88 : decode cX10_ofShip 88 = .ok (.bipush (-2), 2) := by decide +kernel
theorem dX10_ofShip_90 : decode cX10_ofShip 90 = .ok (.ireturn, 1) := by decide +kernel
theorem dX10_fuel_0 : decode cX10_fuel 0 = .ok (.iload_n 1, 1) := by decide +kernel
theorem dX10_fuel_1 : decode cX10_fuel 1 = .ok (.iconst 0, 1) := by decide +kernel
theorem dX10_fuel_2 : decode cX10_fuel 2 = .ok (.bipush 20, 2) := by decide +kernel
theorem dX10_fuel_4 : decode cX10_fuel 4 = .ok (.invokestatic 64, 3) := by decide +kernel
theorem dX10_fuel_7 : decode cX10_fuel 7 = .ok (.ifCond .ne 6, 3) := by decide +kernel
theorem dX10_fuel_10 : decode cX10_fuel 10 = .ok (.bipush (-2), 2) := by decide +kernel
theorem dX10_fuel_12 : decode cX10_fuel 12 = .ok (.ireturn, 1) := by decide +kernel
theorem dX10_fuel_13 : decode cX10_fuel 13 = .ok (.aload_n 0, 1) := by decide +kernel
theorem dX10_fuel_14 : decode cX10_fuel 14 = .ok (.getfield 10, 3) := by decide +kernel
theorem dX10_fuel_17 : decode cX10_fuel 17 = .ok (.getfield 205, 3) := by decide +kernel
theorem dX10_fuel_20 : decode cX10_fuel 20 = .ok (.istore_n 2, 1) := by decide +kernel
theorem dX10_fuel_21 : decode cX10_fuel 21 = .ok (.aload_n 0, 1) := by decide +kernel
theorem dX10_fuel_22 : decode cX10_fuel 22 = .ok (.getfield 10, 3) := by decide +kernel
theorem dX10_fuel_25 : decode cX10_fuel 25 = .ok (.iload_n 1, 1) := by decide +kernel
theorem dX10_fuel_26 : decode cX10_fuel 26 = .ok (.putfield 205, 3) := by decide +kernel
theorem dX10_fuel_29 : decode cX10_fuel 29 = .ok (.iload_n 2, 1) := by decide +kernel
theorem dX10_fuel_30 : decode cX10_fuel 30 = .ok (.ireturn, 1) := by decide +kernel
theorem dX10_told_0 : decode cX10_told 0 = .ok (.iload_n 1, 1) := by decide +kernel
theorem dX10_told_1 : decode cX10_told 1 = .ok (.tableswitch 138 0 11 #[63, 71, 76, 84, 95, 100, 105, 110, 115, 120, 125, 130], 63) := by decide +kernel
theorem dX10_told_64 : decode cX10_told 64 = .ok (.aload_n 0, 1) := by decide +kernel
theorem dX10_told_65 : decode cX10_told 65 = .ok (.getfield 10, 3) := by decide +kernel
theorem dX10_told_68 : decode cX10_told 68 = .ok (.getfield 53, 3) := by decide +kernel
theorem dX10_told_71 : decode cX10_told 71 = .ok (.ireturn, 1) := by decide +kernel
theorem dX10_told_72 : decode cX10_told 72 = .ok (.aload_n 0, 1) := by decide +kernel
theorem dX10_told_73 : decode cX10_told 73 = .ok (.getfield 149, 3) := by decide +kernel
theorem dX10_told_76 : decode cX10_told 76 = .ok (.ireturn, 1) := by decide +kernel
theorem dX10_told_77 : decode cX10_told 77 = .ok (.aload_n 0, 1) := by decide +kernel
theorem dX10_told_78 : decode cX10_told 78 = .ok (.getfield 10, 3) := by decide +kernel
theorem dX10_told_81 : decode cX10_told 81 = .ok (.getfield 125, 3) := by decide +kernel
theorem dX10_told_84 : decode cX10_told 84 = .ok (.ireturn, 1) := by decide +kernel
theorem dX10_told_85 : decode cX10_told 85 = .ok (.aload_n 0, 1) := by decide +kernel
theorem dX10_told_86 : decode cX10_told 86 = .ok (.getfield 10, 3) := by decide +kernel
theorem dX10_told_89 : decode cX10_told 89 = .ok (.getfield 132, 3) := by decide +kernel
theorem dX10_told_92 : decode cX10_told 92 = .ok (.getfield 136, 3) := by decide +kernel
theorem dX10_told_95 : decode cX10_told 95 = .ok (.ireturn, 1) := by decide +kernel
theorem dX10_told_96 : decode cX10_told 96 = .ok (.aload_n 0, 1) := by decide +kernel
theorem dX10_told_97 : decode cX10_told 97 = .ok (.invokevirtual 214, 3) := by decide +kernel
theorem dX10_told_100 : decode cX10_told 100 = .ok (.ireturn, 1) := by decide +kernel
theorem dX10_told_101 : decode cX10_told 101 = .ok (.aload_n 0, 1) := by decide +kernel
theorem dX10_told_102 : decode cX10_told 102 = .ok (.getfield 217, 3) := by decide +kernel
theorem dX10_told_105 : decode cX10_told 105 = .ok (.ireturn, 1) := by decide +kernel
theorem dX10_told_106 : decode cX10_told 106 = .ok (.aload_n 0, 1) := by decide +kernel
theorem dX10_told_107 : decode cX10_told 107 = .ok (.getfield 220, 3) := by decide +kernel
theorem dX10_told_110 : decode cX10_told 110 = .ok (.ireturn, 1) := by decide +kernel
theorem dX10_told_111 : decode cX10_told 111 = .ok (.aload_n 0, 1) := by decide +kernel
theorem dX10_told_112 : decode cX10_told 112 = .ok (.getfield 223, 3) := by decide +kernel
theorem dX10_told_115 : decode cX10_told 115 = .ok (.ireturn, 1) := by decide +kernel
theorem dX10_told_116 : decode cX10_told 116 = .ok (.aload_n 0, 1) := by decide +kernel
theorem dX10_told_117 : decode cX10_told 117 = .ok (.getfield 89, 3) := by decide +kernel
theorem dX10_told_120 : decode cX10_told 120 = .ok (.ireturn, 1) := by decide +kernel
theorem dX10_told_121 : decode cX10_told 121 = .ok (.aload_n 0, 1) := by decide +kernel
theorem dX10_told_122 : decode cX10_told 122 = .ok (.invokevirtual 226, 3) := by decide +kernel
theorem dX10_told_125 : decode cX10_told 125 = .ok (.ireturn, 1) := by decide +kernel
theorem dX10_told_126 : decode cX10_told 126 = .ok (.aload_n 0, 1) := by decide +kernel
theorem dX10_told_127 : decode cX10_told 127 = .ok (.getfield 211, 3) := by decide +kernel
theorem dX10_told_130 : decode cX10_told 130 = .ok (.ireturn, 1) := by decide +kernel
theorem dX10_told_131 : decode cX10_told 131 = .ok (.aload_n 0, 1) := by decide +kernel
theorem dX10_told_132 : decode cX10_told 132 = .ok (.getfield 10, 3) := by decide +kernel
theorem dX10_told_135 : decode cX10_told 135 = .ok (.getfield 205, 3) := by decide +kernel
theorem dX10_told_138 : decode cX10_told 138 = .ok (.ireturn, 1) := by decide +kernel
theorem dX10_told_139 : decode cX10_told 139 = .ok (.ldc 124, 2) := by decide +kernel
theorem dX10_told_141 : decode cX10_told 141 = .ok (.ireturn, 1) := by decide +kernel
theorem dX10_ring_0 : decode cX10_ring 0 = .ok (.iload_n 1, 1) := by decide +kernel
theorem dX10_ring_1 : decode cX10_ring 1 = .ok (.iconst 1, 1) := by decide +kernel
theorem dX10_ring_2 : decode cX10_ring 2 = .ok (.bipush 20, 2) := by decide +kernel
theorem dX10_ring_4 : decode cX10_ring 4 = .ok (.invokestatic 64, 3) := by decide +kernel
theorem dX10_ring_7 : decode cX10_ring 7 = .ok (.ifCond .eq 18, 3) := by decide +kernel
theorem dX10_ring_10 : decode cX10_ring 10 = .ok (.iload_n 2, 1) := by decide +kernel
theorem dX10_ring_11 : decode cX10_ring 11 = .ok (.iconst 0, 1) := by decide +kernel
theorem dX10_ring_12 : decode cX10_ring 12 = .ok (.iconst 2, 1) := by decide +kernel
theorem dX10_ring_13 : decode cX10_ring 13 = .ok (.invokestatic 64, 3) := by decide +kernel
theorem dX10_ring_16 : decode cX10_ring 16 = .ok (.ifCond .ne 12, 3) := by decide +kernel
theorem dX10_ring_19 : decode cX10_ring 19 = .ok (.iload_n 2, 1) := by decide +kernel
theorem dX10_ring_20 : decode cX10_ring 20 = .ok (.bipush 10, 2) := by decide +kernel
theorem dX10_ring_22 : decode cX10_ring 22 = .ok (.if_icmp .ge 6, 3) := by decide +kernel
theorem dX10_ring_25 : decode cX10_ring 25 = .ok (.ldc 124, 2) := by decide +kernel
theorem dX10_ring_27 : decode cX10_ring 27 = .ok (.ireturn, 1) := by decide +kernel
theorem dX10_ring_28 : decode cX10_ring 28 = .ok (.aload_n 0, 1) := by decide +kernel
theorem dX10_ring_29 : decode cX10_ring 29 = .ok (.getfield 42, 3) := by decide +kernel
theorem dX10_ring_32 : decode cX10_ring 32 = .ok (.iload_n 1, 1) := by decide +kernel
theorem dX10_ring_33 : decode cX10_ring 33 = .ok (.invokevirtual 229, 3) := by decide +kernel
theorem dX10_ring_36 : decode cX10_ring 36 = .ok (.aload_n 0, 1) := by decide +kernel
theorem dX10_ring_37 : decode cX10_ring 37 = .ok (.getfield 42, 3) := by decide +kernel
theorem dX10_ring_40 : decode cX10_ring 40 = .ok (.getfield 232, 3) := by decide +kernel
theorem dX10_ring_43 : decode cX10_ring 43 = .ok (.ifCond .ne 6, 3) := by decide +kernel
theorem dX10_ring_46 : decode cX10_ring 46 = .ok (.ldc 235, 2) := by decide +kernel
theorem dX10_ring_48 : decode cX10_ring 48 = .ok (.ireturn, 1) := by decide +kernel
theorem dX10_ring_49 : decode cX10_ring 49 = .ok (.iload_n 2, 1) := by decide +kernel
theorem dX10_ring_50 : decode cX10_ring 50 = .ok (.ifCond .ne 11, 3) := by decide +kernel
theorem dX10_ring_53 : decode cX10_ring 53 = .ok (.aload_n 0, 1) := by decide +kernel
theorem dX10_ring_54 : decode cX10_ring 54 = .ok (.getfield 42, 3) := by decide +kernel
theorem dX10_ring_57 : decode cX10_ring 57 = .ok (.getfield 236, 3) := by decide +kernel
theorem dX10_ring_60 : decode cX10_ring 60 = .ok (.ireturn, 1) := by decide +kernel
theorem dX10_ring_61 : decode cX10_ring 61 = .ok (.iload_n 2, 1) := by decide +kernel
theorem dX10_ring_62 : decode cX10_ring 62 = .ok (.iconst 1, 1) := by decide +kernel
theorem dX10_ring_63 : decode cX10_ring 63 = .ok (.if_icmp .ne 11, 3) := by decide +kernel
theorem dX10_ring_66 : decode cX10_ring 66 = .ok (.aload_n 0, 1) := by decide +kernel
theorem dX10_ring_67 : decode cX10_ring 67 = .ok (.getfield 42, 3) := by decide +kernel
theorem dX10_ring_70 : decode cX10_ring 70 = .ok (.getfield 239, 3) := by decide +kernel
theorem dX10_ring_73 : decode cX10_ring 73 = .ok (.ireturn, 1) := by decide +kernel
theorem dX10_ring_74 : decode cX10_ring 74 = .ok (.iload_n 2, 1) := by decide +kernel
theorem dX10_ring_75 : decode cX10_ring 75 = .ok (.iconst 2, 1) := by decide +kernel
theorem dX10_ring_76 : decode cX10_ring 76 = .ok (.if_icmp .ne 11, 3) := by decide +kernel
theorem dX10_ring_79 : decode cX10_ring 79 = .ok (.aload_n 0, 1) := by decide +kernel
theorem dX10_ring_80 : decode cX10_ring 80 = .ok (.getfield 42, 3) := by decide +kernel
theorem dX10_ring_83 : decode cX10_ring 83 = .ok (.getfield 232, 3) := by decide +kernel
theorem dX10_ring_86 : decode cX10_ring 86 = .ok (.ireturn, 1) := by decide +kernel
theorem dX10_ring_87 : decode cX10_ring 87 = .ok (.iload_n 2, 1) := by decide +kernel
theorem dX10_ring_88 : decode cX10_ring 88 = .ok (.bipush 10, 2) := by decide +kernel
theorem dX10_ring_90 : decode cX10_ring 90 = .ok (.isub, 1) := by decide +kernel
theorem dX10_ring_91 : decode cX10_ring 91 = .ok (.istore_n 3, 1) := by decide +kernel
theorem dX10_ring_92 : decode cX10_ring 92 = .ok (.iload_n 3, 1) := by decide +kernel
theorem dX10_ring_93 : decode cX10_ring 93 = .ok (.aload_n 0, 1) := by decide +kernel
theorem dX10_ring_94 : decode cX10_ring 94 = .ok (.getfield 42, 3) := by decide +kernel
theorem dX10_ring_97 : decode cX10_ring 97 = .ok (.getfield 232, 3) := by decide +kernel
theorem dX10_ring_100 : decode cX10_ring 100 = .ok (.if_icmp .ge 15, 3) := by decide +kernel
theorem dX10_ring_103 : decode cX10_ring 103 = .ok (.aload_n 0, 1) := by decide +kernel
theorem dX10_ring_104 : decode cX10_ring 104 = .ok (.getfield 42, 3) := by decide +kernel
theorem dX10_ring_107 : decode cX10_ring 107 = .ok (.getfield 242, 3) := by decide +kernel
theorem dX10_ring_110 : decode cX10_ring 110 = .ok (.iload_n 3, 1) := by decide +kernel
theorem dX10_ring_111 : decode cX10_ring 111 = .ok (.iaload, 1) := by decide +kernel
theorem dX10_ring_112 : decode cX10_ring 112 = .ok (.goto 5, 3) := by decide +kernel
theorem dX10_ring_115 : decode cX10_ring 115 = .ok (.bipush (-6), 2) := by decide +kernel
theorem dX10_ring_117 : decode cX10_ring 117 = .ok (.ireturn, 1) := by decide +kernel
theorem dX10_plan_0 : decode cX10_plan 0 = .ok (.aload_n 0, 1) := by decide +kernel
theorem dX10_plan_1 : decode cX10_plan 1 = .ok (.iload_n 1, 1) := by decide +kernel
theorem dX10_plan_2 : decode cX10_plan 2 = .ok (.invokevirtual 202, 3) := by decide +kernel
theorem dX10_plan_5 : decode cX10_plan 5 = .ok (.ifCond .ne 5, 3) := by decide +kernel
theorem dX10_plan_8 : decode cX10_plan 8 = .ok (.iconst (-1), 1) := by decide +kernel
theorem dX10_plan_9 : decode cX10_plan 9 = .ok (.ireturn, 1) := by decide +kernel
theorem dX10_plan_10 : decode cX10_plan 10 = .ok (.iload_n 2, 1) := by decide +kernel
theorem dX10_plan_11 : decode cX10_plan 11 = .ok (.iconst 1, 1) := by decide +kernel
theorem dX10_plan_12 : decode cX10_plan 12 = .ok (.iconst 3, 1) := by decide +kernel
theorem dX10_plan_13 : decode cX10_plan 13 = .ok (.invokestatic 64, 3) := by decide +kernel
theorem dX10_plan_16 : decode cX10_plan 16 = .ok (.ifCond .ne 6, 3) := by decide +kernel
theorem dX10_plan_19 : decode cX10_plan 19 = .ok (.bipush (-2), 2) := by decide +kernel
theorem dX10_plan_21 : decode cX10_plan 21 = .ok (.ireturn, 1) := by decide +kernel
theorem dX10_plan_22 : decode cX10_plan 22 = .ok (.aload_n 0, 1) := by decide +kernel
theorem dX10_plan_23 : decode cX10_plan 23 = .ok (.getfield 18, 3) := by decide +kernel
theorem dX10_plan_26 : decode cX10_plan 26 = .ok (.iload_n 1, 1) := by decide +kernel
theorem dX10_plan_27 : decode cX10_plan 27 = .ok (.aaload, 1) := by decide +kernel
theorem dX10_plan_28 : decode cX10_plan 28 = .ok (.astore_n 3, 1) := by decide +kernel
theorem dX10_plan_29 : decode cX10_plan 29 = .ok (.aload_n 0, 1) := by decide +kernel
theorem dX10_plan_30 : decode cX10_plan 30 = .ok (.getfield 49, 3) := by decide +kernel
theorem dX10_plan_33 : decode cX10_plan 33 = .ok (.aload_n 3, 1) := by decide +kernel
theorem dX10_plan_34 : decode cX10_plan 34 = .ok (.getfield 152, 3) := by decide +kernel
theorem dX10_plan_37 : decode cX10_plan 37 = .ok (.aload_n 3, 1) := by decide +kernel
theorem dX10_plan_38 : decode cX10_plan 38 = .ok (.getfield 155, 3) := by decide +kernel
theorem dX10_plan_41 : decode cX10_plan 41 = .ok (.aload_n 3, 1) := by decide +kernel
theorem dX10_plan_42 : decode cX10_plan 42 = .ok (.getfield 158, 3) := by decide +kernel
theorem dX10_plan_45 : decode cX10_plan 45 = .ok (.iload_n 2, 1) := by decide +kernel
theorem dX10_plan_46 : decode cX10_plan 46 = .ok (.invokevirtual 245, 3) := by decide +kernel
theorem dX10_plan_49 : decode cX10_plan 49 = .ok (.ifCond .eq 13, 3) := by decide +kernel
theorem dX10_plan_52 : decode cX10_plan 52 = .ok (.aload_n 0, 1) := by decide +kernel
theorem dX10_plan_53 : decode cX10_plan 53 = .ok (.getfield 49, 3) := by decide +kernel
theorem dX10_plan_56 : decode cX10_plan 56 = .ok (.getfield 248, 3) := by decide +kernel
theorem dX10_plan_59 : decode cX10_plan 59 = .ok (.goto 5, 3) := by decide +kernel
theorem dX10_plan_62 : decode cX10_plan 62 = .ok (.bipush (-5), 2) := by decide +kernel
theorem dX10_plan_64 : decode cX10_plan 64 = .ok (.ireturn, 1) := by decide +kernel
theorem dX10_planned_0 : decode cX10_planned 0 = .ok (.iload_n 1, 1) := by decide +kernel
theorem dX10_planned_1 : decode cX10_planned 1 = .ok (.iconst 0, 1) := by decide +kernel
theorem dX10_planned_2 : decode cX10_planned 2 = .ok (.aload_n 0, 1) := by decide +kernel
theorem dX10_planned_3 : decode cX10_planned 3 = .ok (.getfield 49, 3) := by decide +kernel
theorem dX10_planned_6 : decode cX10_planned 6 = .ok (.getfield 251, 3) := by decide +kernel
theorem dX10_planned_9 : decode cX10_planned 9 = .ok (.iconst 1, 1) := by decide +kernel
theorem dX10_planned_10 : decode cX10_planned 10 = .ok (.isub, 1) := by decide +kernel
theorem dX10_planned_11 : decode cX10_planned 11 = .ok (.invokestatic 64, 3) := by decide +kernel
theorem dX10_planned_14 : decode cX10_planned 14 = .ok (.ifCond .ne 6, 3) := by decide +kernel
theorem dX10_planned_17 : decode cX10_planned 17 = .ok (.bipush (-6), 2) := by decide +kernel
theorem dX10_planned_19 : decode cX10_planned 19 = .ok (.ireturn, 1) := by decide +kernel
theorem dX10_planned_20 : decode cX10_planned 20 = .ok (.iload_n 2, 1) := by decide +kernel
theorem dX10_planned_21 : decode cX10_planned 21 = .ok (.ifCond .ne 13, 3) := by decide +kernel
theorem dX10_planned_24 : decode cX10_planned 24 = .ok (.aload_n 0, 1) := by decide +kernel
theorem dX10_planned_25 : decode cX10_planned 25 = .ok (.getfield 49, 3) := by decide +kernel
theorem dX10_planned_28 : decode cX10_planned 28 = .ok (.getfield 254, 3) := by decide +kernel
theorem dX10_planned_31 : decode cX10_planned 31 = .ok (.iload_n 1, 1) := by decide +kernel
theorem dX10_planned_32 : decode cX10_planned 32 = .ok (.iaload, 1) := by decide +kernel
theorem dX10_planned_33 : decode cX10_planned 33 = .ok (.ireturn, 1) := by decide +kernel
theorem dX10_planned_34 : decode cX10_planned 34 = .ok (.iload_n 2, 1) := by decide +kernel
theorem dX10_planned_35 : decode cX10_planned 35 = .ok (.iconst 1, 1) := by decide +kernel
theorem dX10_planned_36 : decode cX10_planned 36 = .ok (.if_icmp .ne 15, 3) := by decide +kernel
theorem dX10_planned_39 : decode cX10_planned 39 = .ok (.aload_n 0, 1) := by decide +kernel
theorem dX10_planned_40 : decode cX10_planned 40 = .ok (.getfield 49, 3) := by decide +kernel
theorem dX10_planned_43 : decode cX10_planned 43 = .ok (.getfield 257, 3) := by decide +kernel
theorem dX10_planned_46 : decode cX10_planned 46 = .ok (.iload_n 1, 1) := by decide +kernel
theorem dX10_planned_47 : decode cX10_planned 47 = .ok (.iaload, 1) := by decide +kernel
theorem dX10_planned_48 : decode cX10_planned 48 = .ok (.goto 5, 3) := by decide +kernel
theorem dX10_planned_51 : decode cX10_planned 51 = .ok (.bipush (-6), 2) := by decide +kernel
theorem dX10_planned_53 : decode cX10_planned 53 = .ok (.ireturn, 1) := by decide +kernel
theorem dX10_starves_0 : decode cX10_starves 0 = .ok (.aload_n 0, 1) := by decide +kernel
theorem dX10_starves_1 : decode cX10_starves 1 = .ok (.iload_n 1, 1) := by decide +kernel
theorem dX10_starves_2 : decode cX10_starves 2 = .ok (.invokevirtual 57, 3) := by decide +kernel
theorem dX10_starves_5 : decode cX10_starves 5 = .ok (.ifCond .eq 10, 3) := by decide +kernel
theorem dX10_starves_8 : decode cX10_starves 8 = .ok (.iload_n 2, 1) := by decide +kernel
theorem dX10_starves_9 : decode cX10_starves 9 = .ok (.invokestatic 61, 3) := by decide +kernel
theorem dX10_starves_12 : decode cX10_starves 12 = .ok (.ifCond .ne 5, 3) := by decide +kernel
theorem dX10_starves_15 : decode cX10_starves 15 = .ok (.iconst (-1), 1) := by decide +kernel
theorem dX10_starves_16 : decode cX10_starves 16 = .ok (.ireturn, 1) := by decide +kernel
theorem dX10_starves_17 : decode cX10_starves 17 = .ok (.iload_n 3, 1) := by decide +kernel
theorem dX10_starves_18 : decode cX10_starves 18 = .ok (.iconst 1, 1) := by decide +kernel
theorem dX10_starves_19 : decode cX10_starves 19 = .ok (.sipush 200, 3) := by decide +kernel
theorem dX10_starves_22 : decode cX10_starves 22 = .ok (.invokestatic 64, 3) := by decide +kernel
theorem dX10_starves_25 : decode cX10_starves 25 = .ok (.ifCond .ne 6, 3) := by decide +kernel
theorem dX10_starves_28 : decode cX10_starves 28 = .ok (.bipush (-2), 2) := by decide +kernel
theorem dX10_starves_30 : decode cX10_starves 30 = .ok (.ireturn, 1) := by decide +kernel
theorem dX10_starves_31 : decode cX10_starves 31 = .ok (.aload_n 0, 1) := by decide +kernel
theorem dX10_starves_32 : decode cX10_starves 32 = .ok (.getfield 10, 3) := by decide +kernel
theorem dX10_starves_35 : decode cX10_starves 35 = .ok (.iload_n 1, 1) := by decide +kernel
theorem dX10_starves_36 : decode cX10_starves 36 = .ok (.iload_n 2, 1) := by decide +kernel
theorem dX10_starves_37 : decode cX10_starves 37 = .ok (.invokevirtual 75, 3) := by decide +kernel
theorem dX10_starves_40 : decode cX10_starves 40 = .ok (.astore 4, 2) := by decide +kernel
theorem dX10_starves_42 : decode cX10_starves 42 = .ok (.aload_n 0, 1) := by decide +kernel
theorem dX10_starves_43 : decode cX10_starves 43 = .ok (.getfield 26, 3) := by decide +kernel
theorem dX10_starves_46 : decode cX10_starves 46 = .ok (.aload 4, 2) := by decide +kernel
theorem dX10_starves_48 : decode cX10_starves 48 = .ok (.aload_n 0, 1) := by decide +kernel
theorem dX10_starves_49 : decode cX10_starves 49 = .ok (.getfield 10, 3) := by decide +kernel
theorem dX10_starves_52 : decode cX10_starves 52 = .ok (.getfield 132, 3) := by decide +kernel
theorem dX10_starves_55 : decode cX10_starves 55 = .ok (.aload 4, 2) := by decide +kernel
theorem dX10_starves_57 : decode cX10_starves 57 = .ok (.getfield 169, 3) := by decide +kernel
theorem dX10_starves_60 : decode cX10_starves 60 = .ok (.aload_n 0, 1) := by decide +kernel
theorem dX10_starves_61 : decode cX10_starves 61 = .ok (.getfield 10, 3) := by decide +kernel
theorem dX10_starves_64 : decode cX10_starves 64 = .ok (.getfield 125, 3) := by decide +kernel
theorem dX10_starves_67 : decode cX10_starves 67 = .ok (.aload_n 0, 1) := by decide +kernel
theorem dX10_starves_68 : decode cX10_starves 68 = .ok (.getfield 10, 3) := by decide +kernel
theorem dX10_starves_71 : decode cX10_starves 71 = .ok (.getfield 125, 3) := by decide +kernel
theorem dX10_starves_74 : decode cX10_starves 74 = .ok (.iload_n 3, 1) := by decide +kernel
theorem dX10_starves_75 : decode cX10_starves 75 = .ok (.iadd, 1) := by decide +kernel
theorem dX10_starves_76 : decode cX10_starves 76 = .ok (.sipush 999, 3) := by decide +kernel
theorem dX10_starves_79 : decode cX10_starves 79 = .ok (.invokestatic 175, 3) := by decide +kernel
theorem dX10_starves_82 : decode cX10_starves 82 = .ok (.invokevirtual 260, 3) := by decide +kernel
theorem dX10_starves_85 : decode cX10_starves 85 = .ok (.aload_n 0, 1) := by decide +kernel
theorem dX10_starves_86 : decode cX10_starves 86 = .ok (.getfield 26, 3) := by decide +kernel
theorem dX10_starves_89 : decode cX10_starves 89 = .ok (.getfield 264, 3) := by decide +kernel
theorem dX10_starves_92 : decode cX10_starves 92 = .ok (.ireturn, 1) := by decide +kernel
theorem dX10_within_0 : decode cX10_within 0 = .ok (.iload_n 0, 1) := by decide +kernel
theorem dX10_within_1 : decode cX10_within 1 = .ok (.iload_n 1, 1) := by decide +kernel
theorem dX10_within_2 : decode cX10_within 2 = .ok (.if_icmp .lt 12, 3) := by decide +kernel
theorem dX10_within_5 : decode cX10_within 5 = .ok (.iload_n 0, 1) := by decide +kernel
theorem dX10_within_6 : decode cX10_within 6 = .ok (.iload_n 2, 1) := by decide +kernel
theorem dX10_within_7 : decode cX10_within 7 = .ok (.if_icmp .gt 7, 3) := by decide +kernel
theorem dX10_within_10 : decode cX10_within 10 = .ok (.iconst 1, 1) := by decide +kernel
theorem dX10_within_11 : decode cX10_within 11 = .ok (.goto 4, 3) := by decide +kernel
theorem dX10_within_14 : decode cX10_within 14 = .ok (.iconst 0, 1) := by decide +kernel
theorem dX10_within_15 : decode cX10_within 15 = .ok (.ireturn, 1) := by decide +kernel
theorem dX10_oneIf_0 : decode cX10_oneIf 0 = .ok (.iload_n 0, 1) := by decide +kernel
theorem dX10_oneIf_1 : decode cX10_oneIf 1 = .ok (.ifCond .eq 7, 3) := by decide +kernel
theorem dX10_oneIf_4 : decode cX10_oneIf 4 = .ok (.iconst 1, 1) := by decide +kernel
theorem dX10_oneIf_5 : decode cX10_oneIf 5 = .ok (.goto 4, 3) := by decide +kernel
theorem dX10_oneIf_8 : decode cX10_oneIf 8 = .ok (.iconst 0, 1) := by decide +kernel
theorem dX10_oneIf_9 : decode cX10_oneIf 9 = .ok (.ireturn, 1) := by decide +kernel
theorem dX10_isPort_0 : decode cX10_isPort 0 = .ok (.iload_n 1, 1) := by decide +kernel
theorem dX10_isPort_1 : decode cX10_isPort 1 = .ok (.iconst 0, 1) := by decide +kernel
theorem dX10_isPort_2 : decode cX10_isPort 2 = .ok (.aload_n 0, 1) := by decide +kernel
theorem dX10_isPort_3 : decode cX10_isPort 3 = .ok (.getfield 10, 3) := by decide +kernel
theorem dX10_isPort_6 : decode cX10_isPort 6 = .ok (.getfield 53, 3) := by decide +kernel
theorem dX10_isPort_9 : decode cX10_isPort 9 = .ok (.iconst 1, 1) := by decide +kernel
theorem dX10_isPort_10 : decode cX10_isPort 10 = .ok (.isub, 1) := by decide +kernel
theorem dX10_isPort_11 : decode cX10_isPort 11 = .ok (.invokestatic 64, 3) := by decide +kernel
theorem dX10_isPort_14 : decode cX10_isPort 14 = .ok (.ireturn, 1) := by decide +kernel
theorem dX10_isGood_0 : decode cX10_isGood 0 = .ok (.iload_n 0, 1) := by decide +kernel
theorem dX10_isGood_1 : decode cX10_isGood 1 = .ok (.iconst 0, 1) := by decide +kernel
theorem dX10_isGood_2 : decode cX10_isGood 2 = .ok (.iconst 2, 1) := by decide +kernel
theorem dX10_isGood_3 : decode cX10_isGood 3 = .ok (.invokestatic 64, 3) := by decide +kernel
theorem dX10_isGood_6 : decode cX10_isGood 6 = .ok (.ireturn, 1) := by decide +kernel
theorem dX10_isShip_0 : decode cX10_isShip 0 = .ok (.iload_n 1, 1) := by decide +kernel
theorem dX10_isShip_1 : decode cX10_isShip 1 = .ok (.iconst 0, 1) := by decide +kernel
theorem dX10_isShip_2 : decode cX10_isShip 2 = .ok (.aload_n 0, 1) := by decide +kernel
theorem dX10_isShip_3 : decode cX10_isShip 3 = .ok (.getfield 149, 3) := by decide +kernel
theorem dX10_isShip_6 : decode cX10_isShip 6 = .ok (.iconst 1, 1) := by decide +kernel
theorem dX10_isShip_7 : decode cX10_isShip 7 = .ok (.isub, 1) := by decide +kernel
theorem dX10_isShip_8 : decode cX10_isShip 8 = .ok (.invokestatic 64, 3) := by decide +kernel
theorem dX10_isShip_11 : decode cX10_isShip 11 = .ok (.ireturn, 1) := by decide +kernel
theorem dX10_refusalOfDeal_0 : decode cX10_refusalOfDeal 0 = .ok (.aload_n 0, 1) := by decide +kernel
theorem dX10_refusalOfDeal_1 : decode cX10_refusalOfDeal 1 = .ok (.iload_n 1, 1) := by decide +kernel
theorem dX10_refusalOfDeal_2 : decode cX10_refusalOfDeal 2 = .ok (.invokevirtual 202, 3) := by decide +kernel
theorem dX10_refusalOfDeal_5 : decode cX10_refusalOfDeal 5 = .ok (.ifCond .eq 10, 3) := by decide +kernel
theorem dX10_refusalOfDeal_8 : decode cX10_refusalOfDeal 8 = .ok (.iload_n 2, 1) := by decide +kernel
theorem dX10_refusalOfDeal_9 : decode cX10_refusalOfDeal 9 = .ok (.invokestatic 61, 3) := by decide +kernel
theorem dX10_refusalOfDeal_12 : decode cX10_refusalOfDeal 12 = .ok (.ifCond .ne 5, 3) := by decide +kernel
theorem dX10_refusalOfDeal_15 : decode cX10_refusalOfDeal 15 = .ok (.iconst (-1), 1) := by decide +kernel
theorem dX10_refusalOfDeal_16 : decode cX10_refusalOfDeal 16 = .ok (.ireturn, 1) := by decide +kernel
theorem dX10_refusalOfDeal_17 : decode cX10_refusalOfDeal 17 = .ok (.iload_n 3, 1) := by decide +kernel
theorem dX10_refusalOfDeal_18 : decode cX10_refusalOfDeal 18 = .ok (.iconst 1, 1) := by decide +kernel
theorem dX10_refusalOfDeal_19 : decode cX10_refusalOfDeal 19 = .ok (.bipush 20, 2) := by decide +kernel
theorem dX10_refusalOfDeal_21 : decode cX10_refusalOfDeal 21 = .ok (.invokestatic 64, 3) := by decide +kernel
theorem dX10_refusalOfDeal_24 : decode cX10_refusalOfDeal 24 = .ok (.ifCond .ne 6, 3) := by decide +kernel
theorem dX10_refusalOfDeal_27 : decode cX10_refusalOfDeal 27 = .ok (.bipush (-2), 2) := by decide +kernel
theorem dX10_refusalOfDeal_29 : decode cX10_refusalOfDeal 29 = .ok (.ireturn, 1) := by decide +kernel
theorem dX10_refusalOfDeal_30 : decode cX10_refusalOfDeal 30 = .ok (.aload_n 0, 1) := by decide +kernel
theorem dX10_refusalOfDeal_31 : decode cX10_refusalOfDeal 31 = .ok (.getfield 10, 3) := by decide +kernel
theorem dX10_refusalOfDeal_34 : decode cX10_refusalOfDeal 34 = .ok (.getfield 92, 3) := by decide +kernel
theorem dX10_refusalOfDeal_37 : decode cX10_refusalOfDeal 37 = .ok (.aload_n 0, 1) := by decide +kernel
theorem dX10_refusalOfDeal_38 : decode cX10_refusalOfDeal 38 = .ok (.getfield 18, 3) := by decide +kernel
theorem dX10_refusalOfDeal_41 : decode cX10_refusalOfDeal 41 = .ok (.iload_n 1, 1) := by decide +kernel
theorem dX10_refusalOfDeal_42 : decode cX10_refusalOfDeal 42 = .ok (.aaload, 1) := by decide +kernel
theorem dX10_refusalOfDeal_43 : decode cX10_refusalOfDeal 43 = .ok (.getfield 152, 3) := by decide +kernel
theorem dX10_refusalOfDeal_46 : decode cX10_refusalOfDeal 46 = .ok (.aaload, 1) := by decide +kernel
theorem dX10_refusalOfDeal_47 : decode cX10_refusalOfDeal 47 = .ok (.getfield 101, 3) := by decide +kernel
theorem dX10_refusalOfDeal_50 : decode cX10_refusalOfDeal 50 = .ok (.ifCond .eq 8, 3) := by decide +kernel
theorem dX10_refusalOfDeal_53 : decode cX10_refusalOfDeal 53 = .ok (.bipush (-5), 2) := by decide +kernel
theorem dX10_refusalOfDeal_55 : decode cX10_refusalOfDeal 55 = .ok (.goto 4, 3) := by decide +kernel
theorem dX10_refusalOfDeal_58 : decode cX10_refusalOfDeal 58 = .ok (.iconst 0, 1) := by decide +kernel
theorem dX10_refusalOfDeal_59 : decode cX10_refusalOfDeal 59 = .ok (.ireturn, 1) := by decide +kernel
theorem dX10_passTicks_0 : decode cX10_passTicks 0 = .ok (.iconst 0, 1) := by decide +kernel
theorem dX10_passTicks_1 : decode cX10_passTicks 1 = .ok (.istore_n 2, 1) := by decide +kernel
theorem dX10_passTicks_2 : decode cX10_passTicks 2 = .ok (.iload_n 2, 1) := by decide +kernel
theorem dX10_passTicks_3 : decode cX10_passTicks 3 = .ok (.aload_n 0, 1) := by decide +kernel
theorem dX10_passTicks_4 : decode cX10_passTicks 4 = .ok (.getfield 10, 3) := by decide +kernel
theorem dX10_passTicks_7 : decode cX10_passTicks 7 = .ok (.getfield 53, 3) := by decide +kernel
theorem dX10_passTicks_10 : decode cX10_passTicks 10 = .ok (.if_icmp .ge 36, 3) := by decide +kernel
theorem dX10_passTicks_13 : decode cX10_passTicks 13 = .ok (.iconst 0, 1) := by decide +kernel
theorem dX10_passTicks_14 : decode cX10_passTicks 14 = .ok (.istore_n 3, 1) := by decide +kernel
theorem dX10_passTicks_15 : decode cX10_passTicks 15 = .ok (.iload_n 3, 1) := by decide +kernel
theorem dX10_passTicks_16 : decode cX10_passTicks 16 = .ok (.iconst 3, 1) := by decide +kernel
theorem dX10_passTicks_17 : decode cX10_passTicks 17 = .ok (.if_icmp .ge 23, 3) := by decide +kernel
theorem dX10_passTicks_20 : decode cX10_passTicks 20 = .ok (.aload_n 0, 1) := by decide +kernel
theorem dX10_passTicks_21 : decode cX10_passTicks 21 = .ok (.aload_n 0, 1) := by decide +kernel
theorem dX10_passTicks_22 : decode cX10_passTicks 22 = .ok (.getfield 10, 3) := by decide +kernel
theorem dX10_passTicks_25 : decode cX10_passTicks 25 = .ok (.iload_n 2, 1) := by decide +kernel
theorem dX10_passTicks_26 : decode cX10_passTicks 26 = .ok (.iload_n 3, 1) := by decide +kernel
theorem dX10_passTicks_27 : decode cX10_passTicks 27 = .ok (.invokevirtual 75, 3) := by decide +kernel
theorem dX10_passTicks_30 : decode cX10_passTicks 30 = .ok (.iload_n 1, 1) := by decide +kernel
theorem dX10_passTicks_31 : decode cX10_passTicks 31 = .ok (.invokevirtual 267, 3) := by decide +kernel
theorem dX10_passTicks_34 : decode cX10_passTicks 34 = .ok (.iinc 3 1, 3) := by decide +kernel
theorem dX10_passTicks_37 : decode cX10_passTicks 37 = .ok (.goto (-22), 3) := by decide +kernel
theorem dX10_passTicks_40 : decode cX10_passTicks 40 = .ok (.iinc 2 1, 3) := by decide +kernel
theorem dX10_passTicks_43 : decode cX10_passTicks 43 = .ok (.goto (-41), 3) := by decide +kernel
theorem dX10_passTicks_46 : decode cX10_passTicks 46 = .ok (.aload_n 0, 1) := by decide +kernel
theorem dX10_passTicks_47 : decode cX10_passTicks 47 = .ok (.getfield 10, 3) := by decide +kernel
theorem dX10_passTicks_50 : decode cX10_passTicks 50 = .ok (.dup, 1) := by decide +kernel
theorem dX10_passTicks_51 : decode cX10_passTicks 51 = .ok (.getfield 125, 3) := by decide +kernel
theorem dX10_passTicks_54 : decode cX10_passTicks 54 = .ok (.iload_n 1, 1) := by decide +kernel
theorem dX10_passTicks_55 : decode cX10_passTicks 55 = .ok (.iadd, 1) := by decide +kernel
theorem dX10_passTicks_56 : decode cX10_passTicks 56 = .ok (.putfield 125, 3) := by decide +kernel
theorem dX10_passTicks_59 : decode cX10_passTicks 59 = .ok (.aload_n 0, 1) := by decide +kernel
theorem dX10_passTicks_60 : decode cX10_passTicks 60 = .ok (.getfield 10, 3) := by decide +kernel
theorem dX10_passTicks_63 : decode cX10_passTicks 63 = .ok (.getfield 132, 3) := by decide +kernel
theorem dX10_passTicks_66 : decode cX10_passTicks 66 = .ok (.aload_n 0, 1) := by decide +kernel
theorem dX10_passTicks_67 : decode cX10_passTicks 67 = .ok (.getfield 10, 3) := by decide +kernel
theorem dX10_passTicks_70 : decode cX10_passTicks 70 = .ok (.getfield 125, 3) := by decide +kernel
theorem dX10_passTicks_73 : decode cX10_passTicks 73 = .ok (.invokevirtual 271, 3) := by decide +kernel
theorem dX10_passTicks_76 : decode cX10_passTicks 76 = .ok (.return_, 1) := by decide +kernel
theorem dX10_passTicksOf_0 : decode cX10_passTicksOf 0 = .ok (.aload_n 0, 1) := by decide +kernel
theorem dX10_passTicksOf_1 : decode cX10_passTicksOf 1 = .ok (.getfield 26, 3) := by decide +kernel
theorem dX10_passTicksOf_4 : decode cX10_passTicksOf 4 = .ok (.aload_n 1, 1) := by decide +kernel
theorem dX10_passTicksOf_5 : decode cX10_passTicksOf 5 = .ok (.aload_n 0, 1) := by decide +kernel
theorem dX10_passTicksOf_6 : decode cX10_passTicksOf 6 = .ok (.getfield 10, 3) := by decide +kernel
theorem dX10_passTicksOf_9 : decode cX10_passTicksOf 9 = .ok (.getfield 132, 3) := by decide +kernel
theorem dX10_passTicksOf_12 : decode cX10_passTicksOf 12 = .ok (.aload_n 1, 1) := by decide +kernel
theorem dX10_passTicksOf_13 : decode cX10_passTicksOf 13 = .ok (.getfield 169, 3) := by decide +kernel
theorem dX10_passTicksOf_16 : decode cX10_passTicksOf 16 = .ok (.aload_n 0, 1) := by decide +kernel
theorem dX10_passTicksOf_17 : decode cX10_passTicksOf 17 = .ok (.getfield 10, 3) := by decide +kernel
theorem dX10_passTicksOf_20 : decode cX10_passTicksOf 20 = .ok (.getfield 125, 3) := by decide +kernel
theorem dX10_passTicksOf_23 : decode cX10_passTicksOf 23 = .ok (.aload_n 0, 1) := by decide +kernel
theorem dX10_passTicksOf_24 : decode cX10_passTicksOf 24 = .ok (.getfield 10, 3) := by decide +kernel
theorem dX10_passTicksOf_27 : decode cX10_passTicksOf 27 = .ok (.getfield 125, 3) := by decide +kernel
theorem dX10_passTicksOf_30 : decode cX10_passTicksOf 30 = .ok (.iload_n 2, 1) := by decide +kernel
theorem dX10_passTicksOf_31 : decode cX10_passTicksOf 31 = .ok (.iadd, 1) := by decide +kernel
theorem dX10_passTicksOf_32 : decode cX10_passTicksOf 32 = .ok (.invokevirtual 260, 3) := by decide +kernel
theorem dX10_passTicksOf_35 : decode cX10_passTicksOf 35 = .ok (.aload_n 1, 1) := by decide +kernel
theorem dX10_passTicksOf_36 : decode cX10_passTicksOf 36 = .ok (.aload_n 0, 1) := by decide +kernel
theorem dX10_passTicksOf_37 : decode cX10_passTicksOf 37 = .ok (.getfield 26, 3) := by decide +kernel
theorem dX10_passTicksOf_40 : decode cX10_passTicksOf 40 = .ok (.getfield 274, 3) := by decide +kernel
theorem dX10_passTicksOf_43 : decode cX10_passTicksOf 43 = .ok (.putfield 169, 3) := by decide +kernel
theorem dX10_passTicksOf_46 : decode cX10_passTicksOf 46 = .ok (.aload_n 1, 1) := by decide +kernel
theorem dX10_passTicksOf_47 : decode cX10_passTicksOf 47 = .ok (.dup, 1) := by decide +kernel
theorem dX10_passTicksOf_48 : decode cX10_passTicksOf 48 = .ok (.getfield 275, 3) := by decide +kernel
theorem dX10_passTicksOf_51 : decode cX10_passTicksOf 51 = .ok (.aload_n 0, 1) := by decide +kernel
theorem dX10_passTicksOf_52 : decode cX10_passTicksOf 52 = .ok (.getfield 26, 3) := by decide +kernel
theorem dX10_passTicksOf_55 : decode cX10_passTicksOf 55 = .ok (.getfield 278, 3) := by decide +kernel
theorem dX10_passTicksOf_58 : decode cX10_passTicksOf 58 = .ok (.iadd, 1) := by decide +kernel
theorem dX10_passTicksOf_59 : decode cX10_passTicksOf 59 = .ok (.putfield 275, 3) := by decide +kernel
theorem dX10_passTicksOf_62 : decode cX10_passTicksOf 62 = .ok (.aload_n 0, 1) := by decide +kernel
theorem dX10_passTicksOf_63 : decode cX10_passTicksOf 63 = .ok (.dup, 1) := by decide +kernel
theorem dX10_passTicksOf_64 : decode cX10_passTicksOf 64 = .ok (.getfield 217, 3) := by decide +kernel
theorem dX10_passTicksOf_67 : decode cX10_passTicksOf 67 = .ok (.aload_n 0, 1) := by decide +kernel
theorem dX10_passTicksOf_68 : decode cX10_passTicksOf 68 = .ok (.getfield 26, 3) := by decide +kernel
theorem dX10_passTicksOf_71 : decode cX10_passTicksOf 71 = .ok (.getfield 281, 3) := by decide +kernel
theorem dX10_passTicksOf_74 : decode cX10_passTicksOf 74 = .ok (.iadd, 1) := by decide +kernel
theorem dX10_passTicksOf_75 : decode cX10_passTicksOf 75 = .ok (.putfield 217, 3) := by decide +kernel
theorem dX10_passTicksOf_78 : decode cX10_passTicksOf 78 = .ok (.aload_n 0, 1) := by decide +kernel
theorem dX10_passTicksOf_79 : decode cX10_passTicksOf 79 = .ok (.dup, 1) := by decide +kernel
theorem dX10_passTicksOf_80 : decode cX10_passTicksOf 80 = .ok (.getfield 220, 3) := by decide +kernel
theorem dX10_passTicksOf_83 : decode cX10_passTicksOf 83 = .ok (.aload_n 0, 1) := by decide +kernel
theorem dX10_passTicksOf_84 : decode cX10_passTicksOf 84 = .ok (.getfield 26, 3) := by decide +kernel
theorem dX10_passTicksOf_87 : decode cX10_passTicksOf 87 = .ok (.getfield 282, 3) := by decide +kernel
theorem dX10_passTicksOf_90 : decode cX10_passTicksOf 90 = .ok (.iadd, 1) := by decide +kernel
theorem dX10_passTicksOf_91 : decode cX10_passTicksOf 91 = .ok (.putfield 220, 3) := by decide +kernel
theorem dX10_passTicksOf_94 : decode cX10_passTicksOf 94 = .ok (.aload_n 0, 1) := by decide +kernel
theorem dX10_passTicksOf_95 : decode cX10_passTicksOf 95 = .ok (.dup, 1) := by decide +kernel
theorem dX10_passTicksOf_96 : decode cX10_passTicksOf 96 = .ok (.getfield 223, 3) := by decide +kernel
theorem dX10_passTicksOf_99 : decode cX10_passTicksOf 99 = .ok (.aload_n 0, 1) := by decide +kernel
theorem dX10_passTicksOf_100 : decode cX10_passTicksOf 100 = .ok (.getfield 26, 3) := by decide +kernel
theorem dX10_passTicksOf_103 : decode cX10_passTicksOf 103 = .ok (.getfield 283, 3) := by decide +kernel
theorem dX10_passTicksOf_106 : decode cX10_passTicksOf 106 = .ok (.iadd, 1) := by decide +kernel
theorem dX10_passTicksOf_107 : decode cX10_passTicksOf 107 = .ok (.putfield 223, 3) := by decide +kernel
theorem dX10_passTicksOf_110 : decode cX10_passTicksOf 110 = .ok (.return_, 1) := by decide +kernel
theorem dX10_unitsInAll_0 : decode cX10_unitsInAll 0 = .ok (.iconst 0, 1) := by decide +kernel
theorem dX10_unitsInAll_1 : decode cX10_unitsInAll 1 = .ok (.istore_n 1, 1) := by decide +kernel
theorem dX10_unitsInAll_2 : decode cX10_unitsInAll 2 = .ok (.iconst 0, 1) := by decide +kernel
theorem dX10_unitsInAll_3 : decode cX10_unitsInAll 3 = .ok (.istore_n 2, 1) := by decide +kernel
theorem dX10_unitsInAll_4 : decode cX10_unitsInAll 4 = .ok (.iload_n 2, 1) := by decide +kernel
theorem dX10_unitsInAll_5 : decode cX10_unitsInAll 5 = .ok (.aload_n 0, 1) := by decide +kernel
theorem dX10_unitsInAll_6 : decode cX10_unitsInAll 6 = .ok (.getfield 10, 3) := by decide +kernel
theorem dX10_unitsInAll_9 : decode cX10_unitsInAll 9 = .ok (.getfield 53, 3) := by decide +kernel
theorem dX10_unitsInAll_12 : decode cX10_unitsInAll 12 = .ok (.if_icmp .ge 37, 3) := by decide +kernel
theorem dX10_unitsInAll_15 : decode cX10_unitsInAll 15 = .ok (.iconst 0, 1) := by decide +kernel
theorem dX10_unitsInAll_16 : decode cX10_unitsInAll 16 = .ok (.istore_n 3, 1) := by decide +kernel
theorem dX10_unitsInAll_17 : decode cX10_unitsInAll 17 = .ok (.iload_n 3, 1) := by decide +kernel
theorem dX10_unitsInAll_18 : decode cX10_unitsInAll 18 = .ok (.iconst 3, 1) := by decide +kernel
theorem dX10_unitsInAll_19 : decode cX10_unitsInAll 19 = .ok (.if_icmp .ge 24, 3) := by decide +kernel
theorem dX10_unitsInAll_22 : decode cX10_unitsInAll 22 = .ok (.iload_n 1, 1) := by decide +kernel
theorem dX10_unitsInAll_23 : decode cX10_unitsInAll 23 = .ok (.aload_n 0, 1) := by decide +kernel
theorem dX10_unitsInAll_24 : decode cX10_unitsInAll 24 = .ok (.getfield 10, 3) := by decide +kernel
theorem dX10_unitsInAll_27 : decode cX10_unitsInAll 27 = .ok (.iload_n 2, 1) := by decide +kernel
theorem dX10_unitsInAll_28 : decode cX10_unitsInAll 28 = .ok (.iload_n 3, 1) := by decide +kernel
theorem dX10_unitsInAll_29 : decode cX10_unitsInAll 29 = .ok (.invokevirtual 75, 3) := by decide +kernel
theorem dX10_unitsInAll_32 : decode cX10_unitsInAll 32 = .ok (.getfield 169, 3) := by decide +kernel
theorem dX10_unitsInAll_35 : decode cX10_unitsInAll 35 = .ok (.iadd, 1) := by decide +kernel
theorem dX10_unitsInAll_36 : decode cX10_unitsInAll 36 = .ok (.istore_n 1, 1) := by decide +kernel
theorem dX10_unitsInAll_37 : decode cX10_unitsInAll 37 = .ok (.iinc 3 1, 3) := by decide +kernel
theorem dX10_unitsInAll_40 : decode cX10_unitsInAll 40 = .ok (.goto (-23), 3) := by decide +kernel
theorem dX10_unitsInAll_43 : decode cX10_unitsInAll 43 = .ok (.iinc 2 1, 3) := by decide +kernel
theorem dX10_unitsInAll_46 : decode cX10_unitsInAll 46 = .ok (.goto (-42), 3) := by decide +kernel
theorem dX10_unitsInAll_49 : decode cX10_unitsInAll 49 = .ok (.iconst 0, 1) := by decide +kernel
theorem dX10_unitsInAll_50 : decode cX10_unitsInAll 50 = .ok (.istore_n 2, 1) := by decide +kernel
theorem dX10_unitsInAll_51 : decode cX10_unitsInAll 51 = .ok (.iload_n 2, 1) := by decide +kernel
theorem dX10_unitsInAll_52 : decode cX10_unitsInAll 52 = .ok (.aload_n 0, 1) := by decide +kernel
theorem dX10_unitsInAll_53 : decode cX10_unitsInAll 53 = .ok (.getfield 149, 3) := by decide +kernel
theorem dX10_unitsInAll_56 : decode cX10_unitsInAll 56 = .ok (.if_icmp .ge 21, 3) := by decide +kernel
theorem dX10_unitsInAll_59 : decode cX10_unitsInAll 59 = .ok (.iload_n 1, 1) := by decide +kernel
theorem dX10_unitsInAll_60 : decode cX10_unitsInAll 60 = .ok (.aload_n 0, 1) := by decide +kernel
theorem dX10_unitsInAll_61 : decode cX10_unitsInAll 61 = .ok (.getfield 18, 3) := by decide +kernel
theorem dX10_unitsInAll_64 : decode cX10_unitsInAll 64 = .ok (.iload_n 2, 1) := by decide +kernel
theorem dX10_unitsInAll_65 : decode cX10_unitsInAll 65 = .ok (.aaload, 1) := by decide +kernel
theorem dX10_unitsInAll_66 : decode cX10_unitsInAll 66 = .ok (.invokevirtual 172, 3) := by decide +kernel
theorem dX10_unitsInAll_69 : decode cX10_unitsInAll 69 = .ok (.iadd, 1) := by decide +kernel
theorem dX10_unitsInAll_70 : decode cX10_unitsInAll 70 = .ok (.istore_n 1, 1) := by decide +kernel
theorem dX10_unitsInAll_71 : decode cX10_unitsInAll 71 = .ok (.iinc 2 1, 3) := by decide +kernel
theorem dX10_unitsInAll_74 : decode cX10_unitsInAll 74 = .ok (.goto (-23), 3) := by decide +kernel
theorem dX10_unitsInAll_77 : decode cX10_unitsInAll 77 = .ok (.iload_n 1, 1) := by decide +kernel
theorem dX10_unitsInAll_78 : decode cX10_unitsInAll 78 = .ok (.ireturn, 1) := by decide +kernel
theorem dX10_coinsOfShips_0 : decode cX10_coinsOfShips 0 = .ok (.iconst 0, 1) := by decide +kernel
theorem dX10_coinsOfShips_1 : decode cX10_coinsOfShips 1 = .ok (.istore_n 1, 1) := by decide +kernel
theorem dX10_coinsOfShips_2 : decode cX10_coinsOfShips 2 = .ok (.iconst 0, 1) := by decide +kernel
theorem dX10_coinsOfShips_3 : decode cX10_coinsOfShips 3 = .ok (.istore_n 2, 1) := by decide +kernel
theorem dX10_coinsOfShips_4 : decode cX10_coinsOfShips 4 = .ok (.iload_n 2, 1) := by decide +kernel
theorem dX10_coinsOfShips_5 : decode cX10_coinsOfShips 5 = .ok (.aload_n 0, 1) := by decide +kernel
theorem dX10_coinsOfShips_6 : decode cX10_coinsOfShips 6 = .ok (.getfield 149, 3) := by decide +kernel
theorem dX10_coinsOfShips_9 : decode cX10_coinsOfShips 9 = .ok (.if_icmp .ge 21, 3) := by decide +kernel
theorem dX10_coinsOfShips_12 : decode cX10_coinsOfShips 12 = .ok (.iload_n 1, 1) := by decide +kernel
theorem dX10_coinsOfShips_13 : decode cX10_coinsOfShips 13 = .ok (.aload_n 0, 1) := by decide +kernel
theorem dX10_coinsOfShips_14 : decode cX10_coinsOfShips 14 = .ok (.getfield 18, 3) := by decide +kernel
theorem dX10_coinsOfShips_17 : decode cX10_coinsOfShips 17 = .ok (.iload_n 2, 1) := by decide +kernel
theorem dX10_coinsOfShips_18 : decode cX10_coinsOfShips 18 = .ok (.aaload, 1) := by decide +kernel
theorem dX10_coinsOfShips_19 : decode cX10_coinsOfShips 19 = .ok (.getfield 158, 3) := by decide +kernel
theorem dX10_coinsOfShips_22 : decode cX10_coinsOfShips 22 = .ok (.iadd, 1) := by decide +kernel
theorem dX10_coinsOfShips_23 : decode cX10_coinsOfShips 23 = .ok (.istore_n 1, 1) := by decide +kernel
theorem dX10_coinsOfShips_24 : decode cX10_coinsOfShips 24 = .ok (.iinc 2 1, 3) := by decide +kernel
theorem dX10_coinsOfShips_27 : decode cX10_coinsOfShips 27 = .ok (.goto (-23), 3) := by decide +kernel
theorem dX10_coinsOfShips_30 : decode cX10_coinsOfShips 30 = .ok (.iload_n 1, 1) := by decide +kernel
theorem dX10_coinsOfShips_31 : decode cX10_coinsOfShips 31 = .ok (.ireturn, 1) := by decide +kernel
theorem dX11_init_0 : decode cX11_init 0 = .ok (.aload_n 0, 1) := by decide +kernel
theorem dX11_init_1 : decode cX11_init 1 = .ok (.invokespecial 1, 3) := by decide +kernel
theorem dX11_init_4 : decode cX11_init 4 = .ok (.aload_n 0, 1) := by decide +kernel
theorem dX11_init_5 : decode cX11_init 5 = .ok (.iconst 1, 1) := by decide +kernel
theorem dX11_init_6 : decode cX11_init 6 = .ok (.putfield 7, 3) := by decide +kernel
theorem dX11_init_9 : decode cX11_init 9 = .ok (.aload_n 0, 1) := by decide +kernel
theorem dX11_init_10 : decode cX11_init 10 = .ok (.bipush 18, 2) := by decide +kernel
theorem dX11_init_12 : decode cX11_init 12 = .ok (.newarray .int, 2) := by decide +kernel
theorem dX11_init_14 : decode cX11_init 14 = .ok (.putfield 13, 3) := by decide +kernel
theorem dX11_init_17 : decode cX11_init 17 = .ok (.aload_n 0, 1) := by decide +kernel
theorem dX11_init_18 : decode cX11_init 18 = .ok (.bipush 18, 2) := by decide +kernel
theorem dX11_init_20 : decode cX11_init 20 = .ok (.newarray .int, 2) := by decide +kernel
theorem dX11_init_22 : decode cX11_init 22 = .ok (.putfield 17, 3) := by decide +kernel
theorem dX11_init_25 : decode cX11_init 25 = .ok (.aload_n 0, 1) := by decide +kernel
theorem dX11_init_26 : decode cX11_init 26 = .ok (.bipush 18, 2) := by decide +kernel
theorem dX11_init_28 : decode cX11_init 28 = .ok (.newarray .int, 2) := by decide +kernel
theorem dX11_init_30 : decode cX11_init 30 = .ok (.putfield 20, 3) := by decide +kernel
theorem dX11_init_33 : decode cX11_init 33 = .ok (.aload_n 0, 1) := by decide +kernel
theorem dX11_init_34 : decode cX11_init 34 = .ok (.bipush 18, 2) := by decide +kernel
theorem dX11_init_36 : decode cX11_init 36 = .ok (.newarray .int, 2) := by decide +kernel
theorem dX11_init_38 : decode cX11_init 38 = .ok (.putfield 23, 3) := by decide +kernel
theorem dX11_init_41 : decode cX11_init 41 = .ok (.aload_n 0, 1) := by decide +kernel
theorem dX11_init_42 : decode cX11_init 42 = .ok (.bipush 18, 2) := by decide +kernel
theorem dX11_init_44 : decode cX11_init 44 = .ok (.newarray .int, 2) := by decide +kernel
theorem dX11_init_46 : decode cX11_init 46 = .ok (.putfield 26, 3) := by decide +kernel
theorem dX11_init_49 : decode cX11_init 49 = .ok (.aload_n 0, 1) := by decide +kernel
theorem dX11_init_50 : decode cX11_init 50 = .ok (.bipush 18, 2) := by decide +kernel
theorem dX11_init_52 : decode cX11_init 52 = .ok (.newarray .int, 2) := by decide +kernel
theorem dX11_init_54 : decode cX11_init 54 = .ok (.putfield 29, 3) := by decide +kernel
theorem dX11_init_57 : decode cX11_init 57 = .ok (.aload_n 0, 1) := by decide +kernel
theorem dX11_init_58 : decode cX11_init 58 = .ok (.bipush 6, 2) := by decide +kernel
theorem dX11_init_60 : decode cX11_init 60 = .ok (.newarray .int, 2) := by decide +kernel
theorem dX11_init_62 : decode cX11_init 62 = .ok (.putfield 32, 3) := by decide +kernel
theorem dX11_init_65 : decode cX11_init 65 = .ok (.aload_n 0, 1) := by decide +kernel
theorem dX11_init_66 : decode cX11_init 66 = .ok (.bipush 6, 2) := by decide +kernel
theorem dX11_init_68 : decode cX11_init 68 = .ok (.newarray .int, 2) := by decide +kernel
theorem dX11_init_70 : decode cX11_init 70 = .ok (.putfield 35, 3) := by decide +kernel
theorem dX11_init_73 : decode cX11_init 73 = .ok (.aload_n 0, 1) := by decide +kernel
theorem dX11_init_74 : decode cX11_init 74 = .ok (.bipush 6, 2) := by decide +kernel
theorem dX11_init_76 : decode cX11_init 76 = .ok (.newarray .int, 2) := by decide +kernel
theorem dX11_init_78 : decode cX11_init 78 = .ok (.putfield 38, 3) := by decide +kernel
theorem dX11_init_81 : decode cX11_init 81 = .ok (.aload_n 0, 1) := by decide +kernel
theorem dX11_init_82 : decode cX11_init 82 = .ok (.bipush 6, 2) := by decide +kernel
theorem dX11_init_84 : decode cX11_init 84 = .ok (.newarray .boolean, 2) := by decide +kernel
theorem dX11_init_86 : decode cX11_init 86 = .ok (.putfield 41, 3) := by decide +kernel
theorem dX11_init_89 : decode cX11_init 89 = .ok (.aload_n 0, 1) := by decide +kernel
theorem dX11_init_90 : decode cX11_init 90 = .ok (.bipush 36, 2) := by decide +kernel
theorem dX11_init_92 : decode cX11_init 92 = .ok (.newarray .int, 2) := by decide +kernel
theorem dX11_init_94 : decode cX11_init 94 = .ok (.putfield 45, 3) := by decide +kernel
theorem dX11_init_97 : decode cX11_init 97 = .ok (.aload_n 0, 1) := by decide +kernel
theorem dX11_init_98 : decode cX11_init 98 = .ok (.bipush 20, 2) := by decide +kernel
theorem dX11_init_100 : decode cX11_init 100 = .ok (.newarray .int, 2) := by decide +kernel
theorem dX11_init_102 : decode cX11_init 102 = .ok (.putfield 48, 3) := by decide +kernel
theorem dX11_init_105 : decode cX11_init 105 = .ok (.aload_n 0, 1) := by decide +kernel
theorem dX11_init_106 : decode cX11_init 106 = .ok (.bipush 20, 2) := by decide +kernel
theorem dX11_init_108 : decode cX11_init 108 = .ok (.newarray .int, 2) := by decide +kernel
theorem dX11_init_110 : decode cX11_init 110 = .ok (.putfield 51, 3) := by decide +kernel
theorem dX11_init_113 : decode cX11_init 113 = .ok (.aload_n 0, 1) := by decide +kernel
theorem dX11_init_114 : decode cX11_init 114 = .ok (.bipush 20, 2) := by decide +kernel
theorem dX11_init_116 : decode cX11_init 116 = .ok (.newarray .int, 2) := by decide +kernel
theorem dX11_init_118 : decode cX11_init 118 = .ok (.putfield 54, 3) := by decide +kernel
theorem dX11_init_121 : decode cX11_init 121 = .ok (.aload_n 0, 1) := by decide +kernel
theorem dX11_init_122 : decode cX11_init 122 = .ok (.iconst 4, 1) := by decide +kernel
theorem dX11_init_123 : decode cX11_init 123 = .ok (.newarray .int, 2) := by decide +kernel
theorem dX11_init_125 : decode cX11_init 125 = .ok (.putfield 57, 3) := by decide +kernel
theorem dX11_init_128 : decode cX11_init 128 = .ok (.aload_n 0, 1) := by decide +kernel
theorem dX11_init_129 : decode cX11_init 129 = .ok (.iconst 4, 1) := by decide +kernel
theorem dX11_init_130 : decode cX11_init 130 = .ok (.newarray .int, 2) := by decide +kernel
theorem dX11_init_132 : decode cX11_init 132 = .ok (.putfield 60, 3) := by decide +kernel
theorem dX11_init_135 : decode cX11_init 135 = .ok (.aload_n 0, 1) := by decide +kernel
theorem dX11_init_136 : decode cX11_init 136 = .ok (.iconst 4, 1) := by decide +kernel
theorem dX11_init_137 : decode cX11_init 137 = .ok (.newarray .int, 2) := by decide +kernel
theorem dX11_init_139 : decode cX11_init 139 = .ok (.putfield 63, 3) := by decide +kernel
theorem dX11_init_142 : decode cX11_init 142 = .ok (.aload_n 0, 1) := by decide +kernel
theorem dX11_init_143 : decode cX11_init 143 = .ok (.bipush 12, 2) := by decide +kernel
theorem dX11_init_145 : decode cX11_init 145 = .ok (.newarray .int, 2) := by decide +kernel
theorem dX11_init_147 : decode cX11_init 147 = .ok (.putfield 66, 3) := by decide +kernel
theorem dX11_init_150 : decode cX11_init 150 = .ok (.aload_n 0, 1) := by decide +kernel
theorem dX11_init_151 : decode cX11_init 151 = .ok (.bipush 6, 2) := by decide +kernel
theorem dX11_init_153 : decode cX11_init 153 = .ok (.newarray .int, 2) := by decide +kernel
theorem dX11_init_155 : decode cX11_init 155 = .ok (.putfield 69, 3) := by decide +kernel
theorem dX11_init_158 : decode cX11_init 158 = .ok (.aload_n 0, 1) := by decide +kernel
theorem dX11_init_159 : decode cX11_init 159 = .ok (.bipush 6, 2) := by decide +kernel
theorem dX11_init_161 : decode cX11_init 161 = .ok (.newarray .int, 2) := by decide +kernel
theorem dX11_init_163 : decode cX11_init 163 = .ok (.putfield 72, 3) := by decide +kernel
theorem dX11_init_166 : decode cX11_init 166 = .ok (.aload_n 0, 1) := by decide +kernel
theorem dX11_init_167 : decode cX11_init 167 = .ok (.bipush 18, 2) := by decide +kernel
theorem dX11_init_169 : decode cX11_init 169 = .ok (.newarray .int, 2) := by decide +kernel
theorem dX11_init_171 : decode cX11_init 171 = .ok (.putfield 75, 3) := by decide +kernel
theorem dX11_init_174 : decode cX11_init 174 = .ok (.aload_n 0, 1) := by decide +kernel
theorem dX11_init_175 : decode cX11_init 175 = .ok (.iconst 3, 1) := by decide +kernel
theorem dX11_init_176 : decode cX11_init 176 = .ok (.newarray .int, 2) := by decide +kernel
theorem dX11_init_178 : decode cX11_init 178 = .ok (.putfield 78, 3) := by decide +kernel
theorem dX11_init_181 : decode cX11_init 181 = .ok (.aload_n 0, 1) := by decide +kernel
theorem dX11_init_182 : decode cX11_init 182 = .ok (.iconst 3, 1) := by decide +kernel
theorem dX11_init_183 : decode cX11_init 183 = .ok (.newarray .int, 2) := by decide +kernel
theorem dX11_init_185 : decode cX11_init 185 = .ok (.putfield 81, 3) := by decide +kernel
theorem dX11_init_188 : decode cX11_init 188 = .ok (.aload_n 0, 1) := by decide +kernel
theorem dX11_init_189 : decode cX11_init 189 = .ok (.iconst 3, 1) := by decide +kernel
theorem dX11_init_190 : decode cX11_init 190 = .ok (.newarray .int, 2) := by decide +kernel
theorem dX11_init_192 : decode cX11_init 192 = .ok (.putfield 84, 3) := by decide +kernel
theorem dX11_init_195 : decode cX11_init 195 = .ok (.aload_n 0, 1) := by decide +kernel
theorem dX11_init_196 : decode cX11_init 196 = .ok (.iconst 3, 1) := by decide +kernel
theorem dX11_init_197 : decode cX11_init 197 = .ok (.newarray .int, 2) := by decide +kernel
theorem dX11_init_199 : decode cX11_init 199 = .ok (.putfield 87, 3) := by decide +kernel
theorem dX11_init_202 : decode cX11_init 202 = .ok (.return_, 1) := by decide +kernel
theorem dX11_in_0 : decode cX11_in 0 = .ok (.lload_n 0, 1) := by decide +kernel
theorem dX11_in_1 : decode cX11_in 1 = .ok (.lload_n 2, 1) := by decide +kernel
theorem dX11_in_2 : decode cX11_in 2 = .ok (.lcmp, 1) := by decide +kernel
theorem dX11_in_3 : decode cX11_in 3 = .ok (.ifCond .lt 14, 3) := by decide +kernel
theorem dX11_in_6 : decode cX11_in 6 = .ok (.lload_n 0, 1) := by decide +kernel
theorem dX11_in_7 : decode cX11_in 7 = .ok (.lload 4, 2) := by decide +kernel
theorem dX11_in_9 : decode cX11_in 9 = .ok (.lcmp, 1) := by decide +kernel
theorem dX11_in_10 : decode cX11_in 10 = .ok (.ifCond .gt 7, 3) := by decide +kernel
theorem dX11_in_13 : decode cX11_in 13 = .ok (.iconst 1, 1) := by decide +kernel
theorem dX11_in_14 : decode cX11_in 14 = .ok (.goto 4, 3) := by decide +kernel
theorem dX11_in_17 : decode cX11_in 17 = .ok (.iconst 0, 1) := by decide +kernel
theorem dX11_in_18 : decode cX11_in 18 = .ok (.ireturn, 1) := by decide +kernel
theorem dX11_isPort_0 : decode cX11_isPort 0 = .ok (.iload_n 1, 1) := by decide +kernel
theorem dX11_isPort_1 : decode cX11_isPort 1 = .ok (.i2l, 1) := by decide +kernel
theorem dX11_isPort_2 : decode cX11_isPort 2 = .ok (.lconst 0, 1) := by decide +kernel
theorem dX11_isPort_3 : decode cX11_isPort 3 = .ok (.aload_n 0, 1) := by decide +kernel
theorem dX11_isPort_4 : decode cX11_isPort 4 = .ok (.getfield 90, 3) := by decide +kernel
theorem dX11_isPort_7 : decode cX11_isPort 7 = .ok (.iconst 1, 1) := by decide +kernel
theorem dX11_isPort_8 : decode cX11_isPort 8 = .ok (.isub, 1) := by decide +kernel
theorem dX11_isPort_9 : decode cX11_isPort 9 = .ok (.i2l, 1) := by decide +kernel
theorem dX11_isPort_10 : decode cX11_isPort 10 = .ok (.invokestatic 93, 3) := by decide +kernel
theorem dX11_isPort_13 : decode cX11_isPort 13 = .ok (.ireturn, 1) := by decide +kernel
theorem dX11_isGood_0 : decode cX11_isGood 0 = .ok (.iload_n 0, 1) := by decide +kernel
theorem dX11_isGood_1 : decode cX11_isGood 1 = .ok (.i2l, 1) := by decide +kernel
theorem dX11_isGood_2 : decode cX11_isGood 2 = .ok (.lconst 0, 1) := by decide +kernel
theorem dX11_isGood_3 : decode cX11_isGood 3 = .ok (.ldc2_w 97, 3) := by decide +kernel
theorem dX11_isGood_6 : decode cX11_isGood 6 = .ok (.invokestatic 93, 3) := by decide +kernel
theorem dX11_isGood_9 : decode cX11_isGood 9 = .ok (.ireturn, 1) := by decide +kernel
theorem dX11_port_0 : decode cX11_port 0 = .ok (.aload_n 0, 1) := by decide +kernel
theorem dX11_port_1 : decode cX11_port 1 = .ok (.getfield 90, 3) := by decide +kernel
theorem dX11_port_4 : decode cX11_port 4 = .ok (.bipush 6, 2) := by decide +kernel
theorem dX11_port_6 : decode cX11_port 6 = .ok (.if_icmp .ne 6, 3) := by decide +kernel
theorem dX11_port_9 : decode cX11_port 9 = .ok (.bipush (-4), 2) := by decide +kernel
theorem dX11_port_11 : decode cX11_port 11 = .ok (.ireturn, 1) := by decide +kernel
theorem dX11_port_12 : decode cX11_port 12 = .ok (.iconst 0, 1) := by decide +kernel
theorem dX11_port_13 : decode cX11_port 13 = .ok (.istore_n 1, 1) := by decide +kernel
theorem dX11_port_14 : decode cX11_port 14 = .ok (.iload_n 1, 1) := by decide +kernel
theorem dX11_port_15 : decode cX11_port 15 = .ok (.iconst 3, 1) := by decide +kernel
theorem dX11_port_16 : decode cX11_port 16 = .ok (.if_icmp .ge 39, 3) := by decide +kernel
theorem dX11_port_19 : decode cX11_port 19 = .ok (.aload_n 0, 1) := by decide +kernel
theorem dX11_port_20 : decode cX11_port 20 = .ok (.getfield 23, 3) := by decide +kernel
theorem dX11_port_23 : decode cX11_port 23 = .ok (.iconst 3, 1) := by decide +kernel
theorem dX11_port_24 : decode cX11_port 24 = .ok (.aload_n 0, 1) := by decide +kernel
theorem dX11_port_25 : decode cX11_port 25 = .ok (.getfield 90, 3) := by decide +kernel
theorem dX11_port_28 : decode cX11_port 28 = .ok (.imul, 1) := by decide +kernel
theorem dX11_port_29 : decode cX11_port 29 = .ok (.iload_n 1, 1) := by decide +kernel
theorem dX11_port_30 : decode cX11_port 30 = .ok (.iadd, 1) := by decide +kernel
theorem dX11_port_31 : decode cX11_port 31 = .ok (.bipush 10, 2) := by decide +kernel
theorem dX11_port_33 : decode cX11_port 33 = .ok (.iastore, 1) := by decide +kernel
theorem dX11_port_34 : decode cX11_port 34 = .ok (.aload_n 0, 1) := by decide +kernel
theorem dX11_port_35 : decode cX11_port 35 = .ok (.getfield 26, 3) := by decide +kernel
theorem dX11_port_38 : decode cX11_port 38 = .ok (.iconst 3, 1) := by decide +kernel
theorem dX11_port_39 : decode cX11_port 39 = .ok (.aload_n 0, 1) := by decide +kernel
theorem dX11_port_40 : decode cX11_port 40 = .ok (.getfield 90, 3) := by decide +kernel
theorem dX11_port_43 : decode cX11_port 43 = .ok (.imul, 1) := by decide +kernel
theorem dX11_port_44 : decode cX11_port 44 = .ok (.iload_n 1, 1) := by decide +kernel
theorem dX11_port_45 : decode cX11_port 45 = .ok (.iadd, 1) := by decide +kernel
theorem dX11_port_46 : decode cX11_port 46 = .ok (.bipush 10, 2) := by decide +kernel
theorem dX11_port_48 : decode cX11_port 48 = .ok (.iastore, 1) := by decide +kernel
theorem dX11_port_49 : decode cX11_port 49 = .ok (.iinc 1 1, 3) := by decide +kernel
theorem dX11_port_52 : decode cX11_port 52 = .ok (.goto (-38), 3) := by decide +kernel
theorem dX11_port_55 : decode cX11_port 55 = .ok (.aload_n 0, 1) := by decide +kernel
theorem dX11_port_56 : decode cX11_port 56 = .ok (.dup, 1) := by decide +kernel
theorem dX11_port_57 : decode cX11_port 57 = .ok (.getfield 90, 3) := by decide +kernel
theorem dX11_port_60 : decode cX11_port 60 = .ok (.iconst 1, 1) := by decide +kernel
theorem dX11_port_61 : decode cX11_port 61 = .ok (.iadd, 1) := by decide +kernel
theorem dX11_port_62 : decode cX11_port 62 = .ok (.putfield 90, 3) := by decide +kernel
theorem dX11_port_65 : decode cX11_port 65 = .ok (.aload_n 0, 1) := by decide +kernel
theorem dX11_port_66 : decode cX11_port 66 = .ok (.getfield 90, 3) := by decide +kernel
theorem dX11_port_69 : decode cX11_port 69 = .ok (.iconst 1, 1) := by decide +kernel
theorem dX11_port_70 : decode cX11_port 70 = .ok (.isub, 1) := by decide +kernel
theorem dX11_port_71 : decode cX11_port 71 = .ok (.ireturn, 1) := by decide +kernel
theorem dX11_of_0 : decode cX11_of 0 = .ok (.iload_n 2, 1) := by decide +kernel
theorem dX11_of_1 : decode cX11_of 1 = .ok (.tableswitch 59 0 3 #[31, 38, 45, 52], 31) := by decide +kernel
theorem dX11_of_32 : decode cX11_of 32 = .ok (.aload_n 0, 1) := by decide +kernel
theorem dX11_of_33 : decode cX11_of 33 = .ok (.getfield 13, 3) := by decide +kernel
theorem dX11_of_36 : decode cX11_of 36 = .ok (.iload_n 1, 1) := by decide +kernel
theorem dX11_of_37 : decode cX11_of 37 = .ok (.iaload, 1) := by decide +kernel
theorem dX11_of_38 : decode cX11_of 38 = .ok (.ireturn, 1) := by decide +kernel
theorem dX11_of_39 : decode cX11_of 39 = .ok (.aload_n 0, 1) := by decide +kernel
theorem dX11_of_40 : decode cX11_of 40 = .ok (.getfield 17, 3) := by decide +kernel
theorem dX11_of_43 : decode cX11_of 43 = .ok (.iload_n 1, 1) := by decide +kernel
theorem dX11_of_44 : decode cX11_of 44 = .ok (.iaload, 1) := by decide +kernel
theorem dX11_of_45 : decode cX11_of 45 = .ok (.ireturn, 1) := by decide +kernel
theorem dX11_of_46 : decode cX11_of 46 = .ok (.aload_n 0, 1) := by decide +kernel
theorem dX11_of_47 : decode cX11_of 47 = .ok (.getfield 20, 3) := by decide +kernel
theorem dX11_of_50 : decode cX11_of 50 = .ok (.iload_n 1, 1) := by decide +kernel
theorem dX11_of_51 : decode cX11_of 51 = .ok (.iaload, 1) := by decide +kernel
theorem dX11_of_52 : decode cX11_of 52 = .ok (.ireturn, 1) := by decide +kernel
theorem dX11_of_53 : decode cX11_of 53 = .ok (.aload_n 0, 1) := by decide +kernel
theorem dX11_of_54 : decode cX11_of 54 = .ok (.getfield 23, 3) := by decide +kernel
theorem dX11_of_57 : decode cX11_of 57 = .ok (.iload_n 1, 1) := by decide +kernel
theorem dX11_of_58 : decode cX11_of 58 = .ok (.iaload, 1) := by decide +kernel
theorem dX11_of_59 : decode cX11_of 59 = .ok (.ireturn, 1) := by decide +kernel
theorem dX11_of_60 : decode cX11_of 60 = .ok (.aload_n 0, 1) := by decide +kernel
theorem dX11_of_61 : decode cX11_of 61 = .ok (.getfield 26, 3) := by decide +kernel
theorem dX11_of_64 : decode cX11_of 64 = .ok (.iload_n 1, 1) := by decide +kernel
theorem dX11_of_65 : decode cX11_of 65 = .ok (.iaload, 1) := by decide +kernel
theorem dX11_of_66 : decode cX11_of 66 = .ok (.ireturn, 1) := by decide +kernel
theorem dX11_set_0 : decode cX11_set 0 = .ok (.aload_n 0, 1) := by decide +kernel
theorem dX11_set_1 : decode cX11_set 1 = .ok (.iload_n 1, 1) := by decide +kernel
theorem dX11_set_2 : decode cX11_set 2 = .ok (.invokevirtual 99, 3) := by decide +kernel
theorem dX11_set_5 : decode cX11_set 5 = .ok (.ifCond .eq 10, 3) := by decide +kernel
theorem dX11_set_8 : decode cX11_set 8 = .ok (.iload_n 2, 1) := by decide +kernel
theorem dX11_set_9 : decode cX11_set 9 = .ok (.invokestatic 103, 3) := by decide +kernel
theorem dX11_set_12 : decode cX11_set 12 = .ok (.ifCond .ne 5, 3) := by decide +kernel
theorem dX11_set_15 : decode cX11_set 15 = .ok (.iconst (-1), 1) := by decide +kernel
theorem dX11_set_16 : decode cX11_set 16 = .ok (.ireturn, 1) := by decide +kernel
theorem dX11_set_17 : decode cX11_set 17 = .ok (.iload_n 3, 1) := by decide +kernel
theorem dX11_set_18 : decode cX11_set 18 = .ok (.i2l, 1) := by decide +kernel
theorem dX11_set_19 : decode cX11_set 19 = .ok (.lconst 0, 1) := by decide +kernel
theorem dX11_set_20 : decode cX11_set 20 = .ok (.ldc2_w 106, 3) := by decide +kernel
theorem dX11_set_23 : decode cX11_set 23 = .ok (.invokestatic 93, 3) := by decide +kernel
theorem dX11_set_26 : decode cX11_set 26 = .ok (.ifCond .eq 46, 3) := by decide +kernel
theorem dX11_set_29 : decode cX11_set 29 = .ok (.iload 4, 2) := by decide +kernel
theorem dX11_set_31 : decode cX11_set 31 = .ok (.i2l, 1) := by decide +kernel
theorem dX11_set_32 : decode cX11_set 32 = .ok (.iload_n 3, 1) := by decide +kernel
theorem dX11_set_33 : decode cX11_set 33 = .ok (.iconst 3, 1) := by decide +kernel
theorem dX11_set_34 : decode cX11_set 34 = .ok (.if_icmp .ge 7, 3) := by decide +kernel
theorem dX11_set_37 : decode cX11_set 37 = .ok (.lconst 0, 1) := by decide +kernel
theorem dX11_set_38 : decode cX11_set 38 = .ok (.goto 4, 3) := by decide +kernel
theorem dX11_set_41 : decode cX11_set 41 = .ok (.lconst 1, 1) := by decide +kernel
theorem dX11_set_42 : decode cX11_set 42 = .ok (.iload_n 3, 1) := by decide +kernel
theorem dX11_set_43 : decode cX11_set 43 = .ok (.ifCond .ne 9, 3) := by decide +kernel
theorem dX11_set_46 : decode cX11_set 46 = .ok (.ldc2_w 108, 3) := by decide +kernel
theorem dX11_set_49 : decode cX11_set 49 = .ok (.goto 17, 3) := by decide +kernel
theorem dX11_set_52 : decode cX11_set 52 = .ok (.iload_n 3, 1) := by decide +kernel
theorem dX11_set_53 : decode cX11_set 53 = .ok (.iconst 3, 1) := by decide +kernel
theorem dX11_set_54 : decode cX11_set 54 = .ok (.if_icmp .ge 9, 3) := by decide +kernel
theorem dX11_set_57 : decode cX11_set 57 = .ok (.ldc2_w 110, 3) := by decide +kernel
theorem dX11_set_60 : decode cX11_set 60 = .ok (.goto 6, 3) := by decide +kernel
theorem dX11_set_63 : decode cX11_set 63 = .ok (.ldc2_w 112, 3) := by decide +kernel
theorem dX11_set_66 : decode cX11_set 66 = .ok (.invokestatic 93, 3) := by decide +kernel
theorem dX11_set_69 : decode cX11_set 69 = .ok (.ifCond .ne 6, 3) := by decide +kernel
theorem dX11_set_72 : decode cX11_set 72 = .ok (.bipush (-2), 2) := by decide +kernel
theorem dX11_set_74 : decode cX11_set 74 = .ok (.ireturn, 1) := by decide +kernel
theorem dX11_set_75 : decode cX11_set 75 = .ok (.iconst 3, 1) := by decide +kernel
theorem dX11_set_76 : decode cX11_set 76 = .ok (.iload_n 1, 1) := by decide +kernel
theorem dX11_set_77 : decode cX11_set 77 = .ok (.imul, 1) := by decide +kernel
theorem dX11_set_78 : decode cX11_set 78 = .ok (.iload_n 2, 1) := by decide +kernel
theorem dX11_set_79 : decode cX11_set 79 = .ok (.iadd, 1) := by decide +kernel
theorem dX11_set_80 : decode cX11_set 80 = .ok (.istore 5, 2) := by decide +kernel
theorem dX11_set_82 : decode cX11_set 82 = .ok (.aload_n 0, 1) := by decide +kernel
theorem dX11_set_83 : decode cX11_set 83 = .ok (.iload 5, 2) := by decide +kernel
theorem dX11_set_85 : decode cX11_set 85 = .ok (.iload_n 3, 1) := by decide +kernel
theorem dX11_set_86 : decode cX11_set 86 = .ok (.invokevirtual 114, 3) := by decide +kernel
theorem dX11_set_89 : decode cX11_set 89 = .ok (.istore 6, 2) := by decide +kernel
theorem dX11_set_91 : decode cX11_set 91 = .ok (.iload_n 3, 1) := by decide +kernel
theorem dX11_set_92 : decode cX11_set 92 = .ok (.tableswitch 94 0 3 #[32, 58, 70, 82], 32) := by decide +kernel
theorem dX11_set_124 : decode cX11_set 124 = .ok (.aload_n 0, 1) := by decide +kernel
theorem dX11_set_125 : decode cX11_set 125 = .ok (.getfield 13, 3) := by decide +kernel
theorem dX11_set_128 : decode cX11_set 128 = .ok (.iload 5, 2) := by decide +kernel
theorem dX11_set_130 : decode cX11_set 130 = .ok (.iload 4, 2) := by decide +kernel
theorem dX11_set_132 : decode cX11_set 132 = .ok (.iastore, 1) := by decide +kernel
theorem dX11_set_133 : decode cX11_set 133 = .ok (.aload_n 0, 1) := by decide +kernel
theorem dX11_set_134 : decode cX11_set 134 = .ok (.dup, 1) := by decide +kernel
theorem dX11_set_135 : decode cX11_set 135 = .ok (.getfield 118, 3) := by decide +kernel
theorem dX11_set_138 : decode cX11_set 138 = .ok (.iload 4, 2) := by decide +kernel
theorem dX11_set_140 : decode cX11_set 140 = .ok (.iload 6, 2) := by decide +kernel
theorem dX11_set_142 : decode cX11_set 142 = .ok (.isub, 1) := by decide +kernel
theorem dX11_set_143 : decode cX11_set 143 = .ok (.iadd, 1) := by decide +kernel
theorem dX11_set_144 : decode cX11_set 144 = .ok (.putfield 118, 3) := by decide +kernel
theorem dX11_set_147 : decode cX11_set 147 = .ok (.goto 48, 3) := by decide +kernel
theorem dX11_set_150 : decode cX11_set 150 = .ok (.aload_n 0, 1) := by decide +kernel
theorem dX11_set_151 : decode cX11_set 151 = .ok (.getfield 17, 3) := by decide +kernel
theorem dX11_set_154 : decode cX11_set 154 = .ok (.iload 5, 2) := by decide +kernel
theorem dX11_set_156 : decode cX11_set 156 = .ok (.iload 4, 2) := by decide +kernel
theorem dX11_set_158 : decode cX11_set 158 = .ok (.iastore, 1) := by decide +kernel
theorem dX11_set_159 : decode cX11_set 159 = .ok (.goto 36, 3) := by decide +kernel
theorem dX11_set_162 : decode cX11_set 162 = .ok (.aload_n 0, 1) := by decide +kernel
theorem dX11_set_163 : decode cX11_set 163 = .ok (.getfield 20, 3) := by decide +kernel
theorem dX11_set_166 : decode cX11_set 166 = .ok (.iload 5, 2) := by decide +kernel
theorem dX11_set_168 : decode cX11_set 168 = .ok (.iload 4, 2) := by decide +kernel
theorem dX11_set_170 : decode cX11_set 170 = .ok (.iastore, 1) := by decide +kernel
theorem dX11_set_171 : decode cX11_set 171 = .ok (.goto 24, 3) := by decide +kernel
theorem dX11_set_174 : decode cX11_set 174 = .ok (.aload_n 0, 1) := by decide +kernel
theorem dX11_set_175 : decode cX11_set 175 = .ok (.getfield 23, 3) := by decide +kernel
theorem dX11_set_178 : decode cX11_set 178 = .ok (.iload 5, 2) := by decide +kernel
theorem dX11_set_180 : decode cX11_set 180 = .ok (.iload 4, 2) := by decide +kernel
theorem dX11_set_182 : decode cX11_set 182 = .ok (.iastore, 1) := by decide +kernel
theorem dX11_set_183 : decode cX11_set 183 = .ok (.goto 12, 3) := by decide +kernel
theorem dX11_set_186 : decode cX11_set 186 = .ok (.aload_n 0, 1) := by decide +kernel
theorem dX11_set_187 : decode cX11_set 187 = .ok (.getfield 26, 3) := by decide +kernel
theorem dX11_set_190 : decode cX11_set 190 = .ok (.iload 5, 2) := by decide +kernel
theorem dX11_set_192 : decode cX11_set 192 = .ok (.iload 4, 2) := by decide +kernel
theorem dX11_set_194 : decode cX11_set 194 = .ok (.iastore, 1) := by decide +kernel
theorem dX11_set_195 : decode cX11_set 195 = .ok (.iload 6, 2) := by decide +kernel
theorem dX11_set_197 : decode cX11_set 197 = .ok (.ireturn, 1) := by decide +kernel
theorem dX11_priceWith_0 : decode cX11_priceWith 0 = .ok (.iconst 2, 1) := by decide +kernel
theorem dX11_priceWith_1 : decode cX11_priceWith 1 = .ok (.aload_n 0, 1) := by decide +kernel
theorem dX11_priceWith_2 : decode cX11_priceWith 2 = .ok (.getfield 26, 3) := by decide +kernel
theorem dX11_priceWith_5 : decode cX11_priceWith 5 = .ok (.iload_n 1, 1) := by decide +kernel
theorem dX11_priceWith_6 : decode cX11_priceWith 6 = .ok (.iaload, 1) := by decide +kernel
theorem dX11_priceWith_7 : decode cX11_priceWith 7 = .ok (.imul, 1) := by decide +kernel
theorem dX11_priceWith_8 : decode cX11_priceWith 8 = .ok (.iload_n 2, 1) := by decide +kernel
theorem dX11_priceWith_9 : decode cX11_priceWith 9 = .ok (.isub, 1) := by decide +kernel
theorem dX11_priceWith_10 : decode cX11_priceWith 10 = .ok (.istore_n 3, 1) := by decide +kernel
theorem dX11_priceWith_11 : decode cX11_priceWith 11 = .ok (.iload_n 3, 1) := by decide +kernel
theorem dX11_priceWith_12 : decode cX11_priceWith 12 = .ok (.ifCond .ge 7, 3) := by decide +kernel
theorem dX11_priceWith_15 : decode cX11_priceWith 15 = .ok (.iconst 0, 1) := by decide +kernel
theorem dX11_priceWith_16 : decode cX11_priceWith 16 = .ok (.goto 18, 3) := by decide +kernel
theorem dX11_priceWith_19 : decode cX11_priceWith 19 = .ok (.aload_n 0, 1) := by decide +kernel
theorem dX11_priceWith_20 : decode cX11_priceWith 20 = .ok (.getfield 23, 3) := by decide +kernel
theorem dX11_priceWith_23 : decode cX11_priceWith 23 = .ok (.iload_n 1, 1) := by decide +kernel
theorem dX11_priceWith_24 : decode cX11_priceWith 24 = .ok (.iaload, 1) := by decide +kernel
theorem dX11_priceWith_25 : decode cX11_priceWith 25 = .ok (.iload_n 3, 1) := by decide +kernel
theorem dX11_priceWith_26 : decode cX11_priceWith 26 = .ok (.imul, 1) := by decide +kernel
theorem dX11_priceWith_27 : decode cX11_priceWith 27 = .ok (.aload_n 0, 1) := by decide +kernel
theorem dX11_priceWith_28 : decode cX11_priceWith 28 = .ok (.getfield 26, 3) := by decide +kernel
theorem dX11_priceWith_31 : decode cX11_priceWith 31 = .ok (.iload_n 1, 1) := by decide +kernel
theorem dX11_priceWith_32 : decode cX11_priceWith 32 = .ok (.iaload, 1) := by decide +kernel
theorem dX11_priceWith_33 : decode cX11_priceWith 33 = .ok (.idiv, 1) := by decide +kernel
theorem dX11_priceWith_34 : decode cX11_priceWith 34 = .ok (.istore 4, 2) := by decide +kernel
theorem dX11_priceWith_36 : decode cX11_priceWith 36 = .ok (.iload 4, 2) := by decide +kernel
theorem dX11_priceWith_38 : decode cX11_priceWith 38 = .ok (.iconst 1, 1) := by decide +kernel
theorem dX11_priceWith_39 : decode cX11_priceWith 39 = .ok (.if_icmp .ge 7, 3) := by decide +kernel
theorem dX11_priceWith_42 : decode cX11_priceWith 42 = .ok (.iconst 1, 1) := by decide +kernel
theorem dX11_priceWith_43 : decode cX11_priceWith 43 = .ok (.goto 5, 3) := by decide +kernel
theorem dX11_priceWith_46 : decode cX11_priceWith 46 = .ok (.iload 4, 2) := by decide +kernel
theorem dX11_priceWith_48 : decode cX11_priceWith 48 = .ok (.ireturn, 1) := by decide +kernel
theorem dX11_about_0 : decode cX11_about 0 = .ok (.aload_n 0, 1) := by decide +kernel
theorem dX11_about_1 : decode cX11_about 1 = .ok (.iload_n 1, 1) := by decide +kernel
theorem dX11_about_2 : decode cX11_about 2 = .ok (.invokevirtual 99, 3) := by decide +kernel
theorem dX11_about_5 : decode cX11_about 5 = .ok (.ifCond .eq 10, 3) := by decide +kernel
theorem dX11_about_8 : decode cX11_about 8 = .ok (.iload_n 2, 1) := by decide +kernel
theorem dX11_about_9 : decode cX11_about 9 = .ok (.invokestatic 103, 3) := by decide +kernel
theorem dX11_about_12 : decode cX11_about 12 = .ok (.ifCond .ne 5, 3) := by decide +kernel
theorem dX11_about_15 : decode cX11_about 15 = .ok (.iconst (-1), 1) := by decide +kernel
theorem dX11_about_16 : decode cX11_about 16 = .ok (.ireturn, 1) := by decide +kernel
theorem dX11_about_17 : decode cX11_about 17 = .ok (.iconst 3, 1) := by decide +kernel
theorem dX11_about_18 : decode cX11_about 18 = .ok (.iload_n 1, 1) := by decide +kernel
theorem dX11_about_19 : decode cX11_about 19 = .ok (.imul, 1) := by decide +kernel
theorem dX11_about_20 : decode cX11_about 20 = .ok (.iload_n 2, 1) := by decide +kernel
theorem dX11_about_21 : decode cX11_about 21 = .ok (.iadd, 1) := by decide +kernel
theorem dX11_about_22 : decode cX11_about 22 = .ok (.istore 4, 2) := by decide +kernel
theorem dX11_about_24 : decode cX11_about 24 = .ok (.iload_n 3, 1) := by decide +kernel
theorem dX11_about_25 : decode cX11_about 25 = .ok (.i2l, 1) := by decide +kernel
theorem dX11_about_26 : decode cX11_about 26 = .ok (.lconst 0, 1) := by decide +kernel
theorem dX11_about_27 : decode cX11_about 27 = .ok (.ldc2_w 106, 3) := by decide +kernel
theorem dX11_about_30 : decode cX11_about 30 = .ok (.invokestatic 93, 3) := by decide +kernel
theorem dX11_about_33 : decode cX11_about 33 = .ok (.ifCond .eq 11, 3) := by decide +kernel
theorem dX11_about_36 : decode cX11_about 36 = .ok (.aload_n 0, 1) := by decide +kernel
theorem dX11_about_37 : decode cX11_about 37 = .ok (.iload 4, 2) := by decide +kernel
theorem dX11_about_39 : decode cX11_about 39 = .ok (.iload_n 3, 1) := by decide +kernel
theorem dX11_about_40 : decode cX11_about 40 = .ok (.invokevirtual 114, 3) := by decide +kernel
theorem dX11_about_43 : decode cX11_about 43 = .ok (.ireturn, 1) := by decide +kernel
theorem dX11_about_44 : decode cX11_about 44 = .ok (.iload_n 3, 1) := by decide +kernel
theorem dX11_about_45 : decode cX11_about 45 = .ok (.iconst 5, 1) := by decide +kernel
theorem dX11_about_46 : decode cX11_about 46 = .ok (.if_icmp .ne 19, 3) := by decide +kernel
theorem dX11_about_49 : decode cX11_about 49 = .ok (.aload_n 0, 1) := by decide +kernel
theorem dX11_about_50 : decode cX11_about 50 = .ok (.iload 4, 2) := by decide +kernel
theorem dX11_about_52 : decode cX11_about 52 = .ok (.aload_n 0, 1) := by decide +kernel
theorem dX11_about_53 : decode cX11_about 53 = .ok (.getfield 13, 3) := by decide +kernel
theorem dX11_about_56 : decode cX11_about 56 = .ok (.iload 4, 2) := by decide +kernel
theorem dX11_about_58 : decode cX11_about 58 = .ok (.iaload, 1) := by decide +kernel
theorem dX11_about_59 : decode cX11_about 59 = .ok (.invokevirtual 121, 3) := by decide +kernel
theorem dX11_about_62 : decode cX11_about 62 = .ok (.goto 21, 3) := by decide +kernel
theorem dX11_about_65 : decode cX11_about 65 = .ok (.iload_n 3, 1) := by decide +kernel
theorem dX11_about_66 : decode cX11_about 66 = .ok (.bipush 6, 2) := by decide +kernel
theorem dX11_about_68 : decode cX11_about 68 = .ok (.if_icmp .ne 13, 3) := by decide +kernel
theorem dX11_about_71 : decode cX11_about 71 = .ok (.aload_n 0, 1) := by decide +kernel
theorem dX11_about_72 : decode cX11_about 72 = .ok (.getfield 29, 3) := by decide +kernel
theorem dX11_about_75 : decode cX11_about 75 = .ok (.iload 4, 2) := by decide +kernel
theorem dX11_about_77 : decode cX11_about 77 = .ok (.iaload, 1) := by decide +kernel
theorem dX11_about_78 : decode cX11_about 78 = .ok (.goto 5, 3) := by decide +kernel
theorem dX11_about_81 : decode cX11_about 81 = .ok (.bipush (-2), 2) := by decide +kernel
theorem dX11_about_83 : decode cX11_about 83 = .ok (.ireturn, 1) := by decide +kernel
theorem dX11_tax_0 : decode cX11_tax 0 = .ok (.aload_n 0, 1) := by decide +kernel
theorem dX11_tax_1 : decode cX11_tax 1 = .ok (.iload_n 1, 1) := by decide +kernel
theorem dX11_tax_2 : decode cX11_tax 2 = .ok (.invokevirtual 99, 3) := by decide +kernel
theorem dX11_tax_5 : decode cX11_tax 5 = .ok (.ifCond .ne 5, 3) := by decide +kernel
theorem dX11_tax_8 : decode cX11_tax 8 = .ok (.iconst (-1), 1) := by decide +kernel
theorem dX11_tax_9 : decode cX11_tax 9 = .ok (.ireturn, 1) := by decide +kernel
theorem dX11_tax_10 : decode cX11_tax 10 = .ok (.iload_n 2, 1) := by decide +kernel
theorem dX11_tax_11 : decode cX11_tax 11 = .ok (.i2l, 1) := by decide +kernel
theorem dX11_tax_12 : decode cX11_tax 12 = .ok (.lconst 0, 1) := by decide +kernel
theorem dX11_tax_13 : decode cX11_tax 13 = .ok (.ldc2_w 124, 3) := by decide +kernel
theorem dX11_tax_16 : decode cX11_tax 16 = .ok (.invokestatic 93, 3) := by decide +kernel
theorem dX11_tax_19 : decode cX11_tax 19 = .ok (.ifCond .ne 6, 3) := by decide +kernel
theorem dX11_tax_22 : decode cX11_tax 22 = .ok (.bipush (-2), 2) := by decide +kernel
theorem dX11_tax_24 : decode cX11_tax 24 = .ok (.ireturn, 1) := by decide +kernel
theorem dX11_tax_25 : decode cX11_tax 25 = .ok (.aload_n 0, 1) := by decide +kernel
theorem dX11_tax_26 : decode cX11_tax 26 = .ok (.getfield 32, 3) := by decide +kernel
theorem dX11_tax_29 : decode cX11_tax 29 = .ok (.iload_n 1, 1) := by decide +kernel
theorem dX11_tax_30 : decode cX11_tax 30 = .ok (.iaload, 1) := by decide +kernel
theorem dX11_tax_31 : decode cX11_tax 31 = .ok (.istore_n 3, 1) := by decide +kernel
theorem dX11_tax_32 : decode cX11_tax 32 = .ok (.aload_n 0, 1) := by decide +kernel
theorem dX11_tax_33 : decode cX11_tax 33 = .ok (.getfield 32, 3) := by decide +kernel
theorem dX11_tax_36 : decode cX11_tax 36 = .ok (.iload_n 1, 1) := by decide +kernel
theorem dX11_tax_37 : decode cX11_tax 37 = .ok (.iload_n 2, 1) := by decide +kernel
theorem dX11_tax_38 : decode cX11_tax 38 = .ok (.iastore, 1) := by decide +kernel
theorem dX11_tax_39 : decode cX11_tax 39 = .ok (.iload_n 3, 1) := by decide +kernel
theorem dX11_tax_40 : decode cX11_tax 40 = .ok (.ireturn, 1) := by decide +kernel
theorem dX11_shut_0 : decode cX11_shut 0 = .ok (.aload_n 0, 1) := by decide +kernel
theorem dX11_shut_1 : decode cX11_shut 1 = .ok (.iload_n 1, 1) := by decide +kernel
theorem dX11_shut_2 : decode cX11_shut 2 = .ok (.invokevirtual 99, 3) := by decide +kernel
theorem dX11_shut_5 : decode cX11_shut 5 = .ok (.ifCond .ne 5, 3) := by decide +kernel
theorem dX11_shut_8 : decode cX11_shut 8 = .ok (.iconst (-1), 1) := by decide +kernel
theorem dX11_shut_9 : decode cX11_shut 9 = .ok (.ireturn, 1) := by decide +kernel
theorem dX11_shut_10 : decode cX11_shut 10 = .ok (.aload_n 0, 1) := by decide +kernel
theorem dX11_shut_11 : decode cX11_shut 11 = .ok (.getfield 41, 3) := by decide +kernel
theorem dX11_shut_14 : decode cX11_shut 14 = .ok (.iload_n 1, 1) := by decide +kernel
theorem dX11_shut_15 : decode cX11_shut 15 = .ok (.baload, 1) := by decide +kernel
theorem dX11_shut_16 : decode cX11_shut 16 = .ok (.ifCond .eq 7, 3) := by decide +kernel
theorem dX11_shut_19 : decode cX11_shut 19 = .ok (.iconst 1, 1) := by decide +kernel
theorem dX11_shut_20 : decode cX11_shut 20 = .ok (.goto 4, 3) := by decide +kernel
theorem dX11_shut_23 : decode cX11_shut 23 = .ok (.iconst 0, 1) := by decide +kernel
theorem dX11_shut_24 : decode cX11_shut 24 = .ok (.istore_n 3, 1) := by decide +kernel
theorem dX11_shut_25 : decode cX11_shut 25 = .ok (.aload_n 0, 1) := by decide +kernel
theorem dX11_shut_26 : decode cX11_shut 26 = .ok (.getfield 41, 3) := by decide +kernel
theorem dX11_shut_29 : decode cX11_shut 29 = .ok (.iload_n 1, 1) := by decide +kernel
theorem dX11_shut_30 : decode cX11_shut 30 = .ok (.iload_n 2, 1) := by decide +kernel
theorem dX11_shut_31 : decode cX11_shut 31 = .ok (.bastore, 1) := by decide +kernel
theorem dX11_shut_32 : decode cX11_shut 32 = .ok (.iload_n 3, 1) := by decide +kernel
theorem dX11_shut_33 : decode cX11_shut 33 = .ok (.ireturn, 1) := by decide +kernel
theorem dX11_way_0 : decode cX11_way 0 = .ok (.aload_n 0, 1) := by decide +kernel
theorem dX11_way_1 : decode cX11_way 1 = .ok (.iload_n 1, 1) := by decide +kernel
theorem dX11_way_2 : decode cX11_way 2 = .ok (.invokevirtual 99, 3) := by decide +kernel
theorem dX11_way_5 : decode cX11_way 5 = .ok (.ifCond .eq 16, 3) := by decide +kernel
theorem dX11_way_8 : decode cX11_way 8 = .ok (.aload_n 0, 1) := by decide +kernel
theorem dX11_way_9 : decode cX11_way 9 = .ok (.iload_n 2, 1) := by decide +kernel
theorem dX11_way_10 : decode cX11_way 10 = .ok (.invokevirtual 99, 3) := by decide +kernel
theorem dX11_way_13 : decode cX11_way 13 = .ok (.ifCond .eq 8, 3) := by decide +kernel
theorem dX11_way_16 : decode cX11_way 16 = .ok (.iload_n 1, 1) := by decide +kernel
theorem dX11_way_17 : decode cX11_way 17 = .ok (.iload_n 2, 1) := by decide +kernel
theorem dX11_way_18 : decode cX11_way 18 = .ok (.if_icmp .ne 5, 3) := by decide +kernel
theorem dX11_way_21 : decode cX11_way 21 = .ok (.iconst (-1), 1) := by decide +kernel
theorem dX11_way_22 : decode cX11_way 22 = .ok (.ireturn, 1) := by decide +kernel
theorem dX11_way_23 : decode cX11_way 23 = .ok (.iload_n 3, 1) := by decide +kernel
theorem dX11_way_24 : decode cX11_way 24 = .ok (.i2l, 1) := by decide +kernel
theorem dX11_way_25 : decode cX11_way 25 = .ok (.lconst 0, 1) := by decide +kernel
theorem dX11_way_26 : decode cX11_way 26 = .ok (.ldc2_w 126, 3) := by decide +kernel
theorem dX11_way_29 : decode cX11_way 29 = .ok (.invokestatic 93, 3) := by decide +kernel
theorem dX11_way_32 : decode cX11_way 32 = .ok (.ifCond .ne 6, 3) := by decide +kernel
theorem dX11_way_35 : decode cX11_way 35 = .ok (.bipush (-2), 2) := by decide +kernel
theorem dX11_way_37 : decode cX11_way 37 = .ok (.ireturn, 1) := by decide +kernel
theorem dX11_way_38 : decode cX11_way 38 = .ok (.aload_n 0, 1) := by decide +kernel
theorem dX11_way_39 : decode cX11_way 39 = .ok (.getfield 45, 3) := by decide +kernel
theorem dX11_way_42 : decode cX11_way 42 = .ok (.bipush 6, 2) := by decide +kernel
theorem dX11_way_44 : decode cX11_way 44 = .ok (.iload_n 1, 1) := by decide +kernel
theorem dX11_way_45 : decode cX11_way 45 = .ok (.imul, 1) := by decide +kernel
theorem dX11_way_46 : decode cX11_way 46 = .ok (.iload_n 2, 1) := by decide +kernel
theorem dX11_way_47 : decode cX11_way 47 = .ok (.iadd, 1) := by decide +kernel
theorem dX11_way_48 : decode cX11_way 48 = .ok (.iaload, 1) := by decide +kernel
theorem dX11_way_49 : decode cX11_way 49 = .ok (.istore 4, 2) := by decide +kernel
theorem dX11_way_51 : decode cX11_way 51 = .ok (.aload_n 0, 1) := by decide +kernel
theorem dX11_way_52 : decode cX11_way 52 = .ok (.getfield 45, 3) := by decide +kernel
theorem dX11_way_55 : decode cX11_way 55 = .ok (.bipush 6, 2) := by decide +kernel
theorem dX11_way_57 : decode cX11_way 57 = .ok (.iload_n 1, 1) := by decide +kernel
theorem dX11_way_58 : decode cX11_way 58 = .ok (.imul, 1) := by decide +kernel
theorem dX11_way_59 : decode cX11_way 59 = .ok (.iload_n 2, 1) := by decide +kernel
theorem dX11_way_60 : decode cX11_way 60 = .ok (.iadd, 1) := by decide +kernel
theorem dX11_way_61 : decode cX11_way 61 = .ok (.iload_n 3, 1) := by decide +kernel
theorem dX11_way_62 : decode cX11_way 62 = .ok (.iastore, 1) := by decide +kernel
theorem dX11_way_63 : decode cX11_way 63 = .ok (.aload_n 0, 1) := by decide +kernel
theorem dX11_way_64 : decode cX11_way 64 = .ok (.getfield 45, 3) := by decide +kernel
theorem dX11_way_67 : decode cX11_way 67 = .ok (.bipush 6, 2) := by decide +kernel
theorem dX11_way_69 : decode cX11_way 69 = .ok (.iload_n 2, 1) := by decide +kernel
theorem dX11_way_70 : decode cX11_way 70 = .ok (.imul, 1) := by decide +kernel
theorem dX11_way_71 : decode cX11_way 71 = .ok (.iload_n 1, 1) := by decide +kernel
theorem dX11_way_72 : decode cX11_way 72 = .ok (.iadd, 1) := by decide +kernel
theorem dX11_way_73 : decode cX11_way 73 = .ok (.iload_n 3, 1) := by decide +kernel
theorem dX11_way_74 : decode cX11_way 74 = .ok (.iastore, 1) := by decide +kernel
theorem dX11_way_75 : decode cX11_way 75 = .ok (.iload 4, 2) := by decide +kernel
theorem dX11_way_77 : decode cX11_way 77 = .ok (.ireturn, 1) := by decide +kernel
theorem dX11_ofPort_0 : decode cX11_ofPort 0 = .ok (.aload_n 0, 1) := by decide +kernel
theorem dX11_ofPort_1 : decode cX11_ofPort 1 = .ok (.iload_n 1, 1) := by decide +kernel
theorem dX11_ofPort_2 : decode cX11_ofPort 2 = .ok (.invokevirtual 99, 3) := by decide +kernel
theorem dX11_ofPort_5 : decode cX11_ofPort 5 = .ok (.ifCond .ne 6, 3) := by decide +kernel
theorem dX11_ofPort_8 : decode cX11_ofPort 8 = .ok (.ldc 128, 2) := by decide +kernel
theorem dX11_ofPort_10 : decode cX11_ofPort 10 = .ok (.ireturn, 1) := by decide +kernel
theorem dX11_ofPort_11 : decode cX11_ofPort 11 = .ok (.iconst 0, 1) := by decide +kernel
theorem dX11_ofPort_12 : decode cX11_ofPort 12 = .ok (.istore_n 3, 1) := by decide +kernel
theorem dX11_ofPort_13 : decode cX11_ofPort 13 = .ok (.iconst 0, 1) := by decide +kernel
theorem dX11_ofPort_14 : decode cX11_ofPort 14 = .ok (.istore 4, 2) := by decide +kernel
theorem dX11_ofPort_16 : decode cX11_ofPort 16 = .ok (.iload 4, 2) := by decide +kernel
theorem dX11_ofPort_18 : decode cX11_ofPort 18 = .ok (.iconst 3, 1) := by decide +kernel
theorem dX11_ofPort_19 : decode cX11_ofPort 19 = .ok (.if_icmp .ge 23, 3) := by decide +kernel
theorem dX11_ofPort_22 : decode cX11_ofPort 22 = .ok (.iload_n 3, 1) := by decide +kernel
theorem dX11_ofPort_23 : decode cX11_ofPort 23 = .ok (.aload_n 0, 1) := by decide +kernel
theorem dX11_ofPort_24 : decode cX11_ofPort 24 = .ok (.getfield 29, 3) := by decide +kernel
theorem dX11_ofPort_27 : decode cX11_ofPort 27 = .ok (.iconst 3, 1) := by decide +kernel
theorem dX11_ofPort_28 : decode cX11_ofPort 28 = .ok (.iload_n 1, 1) := by decide +kernel
theorem dX11_ofPort_29 : decode cX11_ofPort 29 = .ok (.imul, 1) := by decide +kernel
theorem dX11_ofPort_30 : decode cX11_ofPort 30 = .ok (.iload 4, 2) := by decide +kernel
theorem dX11_ofPort_32 : decode cX11_ofPort 32 = .ok (.iadd, 1) := by decide +kernel
theorem dX11_ofPort_33 : decode cX11_ofPort 33 = .ok (.iaload, 1) := by decide +kernel
theorem dX11_ofPort_34 : decode cX11_ofPort 34 = .ok (.iadd, 1) := by decide +kernel
theorem dX11_ofPort_35 : decode cX11_ofPort 35 = .ok (.istore_n 3, 1) := by decide +kernel
theorem dX11_ofPort_36 : decode cX11_ofPort 36 = .ok (.iinc 4 1, 3) := by decide +kernel
theorem dX11_ofPort_39 : decode cX11_ofPort 39 = .ok (.goto (-23), 3) := by decide +kernel
theorem dX11_ofPort_42 : decode cX11_ofPort 42 = .ok (.iload_n 2, 1) := by decide +kernel
theorem dX11_ofPort_43 : decode cX11_ofPort 43 = .ok (.tableswitch 71 0 4 #[33, 40, 47, 54, 69], 33) := by decide +kernel
theorem dX11_ofPort_76 : decode cX11_ofPort 76 = .ok (.aload_n 0, 1) := by decide +kernel
theorem dX11_ofPort_77 : decode cX11_ofPort 77 = .ok (.getfield 32, 3) := by decide +kernel
theorem dX11_ofPort_80 : decode cX11_ofPort 80 = .ok (.iload_n 1, 1) := by decide +kernel
theorem dX11_ofPort_81 : decode cX11_ofPort 81 = .ok (.iaload, 1) := by decide +kernel
theorem dX11_ofPort_82 : decode cX11_ofPort 82 = .ok (.ireturn, 1) := by decide +kernel
theorem dX11_ofPort_83 : decode cX11_ofPort 83 = .ok (.aload_n 0, 1) := by decide +kernel
theorem dX11_ofPort_84 : decode cX11_ofPort 84 = .ok (.getfield 35, 3) := by decide +kernel
theorem dX11_ofPort_87 : decode cX11_ofPort 87 = .ok (.iload_n 1, 1) := by decide +kernel
theorem dX11_ofPort_88 : decode cX11_ofPort 88 = .ok (.iaload, 1) := by decide +kernel
theorem dX11_ofPort_89 : decode cX11_ofPort 89 = .ok (.ireturn, 1) := by decide +kernel
theorem dX11_ofPort_90 : decode cX11_ofPort 90 = .ok (.aload_n 0, 1) := by decide +kernel
theorem dX11_ofPort_91 : decode cX11_ofPort 91 = .ok (.getfield 38, 3) := by decide +kernel
theorem dX11_ofPort_94 : decode cX11_ofPort 94 = .ok (.iload_n 1, 1) := by decide +kernel
theorem dX11_ofPort_95 : decode cX11_ofPort 95 = .ok (.iaload, 1) := by decide +kernel
theorem dX11_ofPort_96 : decode cX11_ofPort 96 = .ok (.ireturn, 1) := by decide +kernel
theorem dX11_ofPort_97 : decode cX11_ofPort 97 = .ok (.aload_n 0, 1) := by decide +kernel
theorem dX11_ofPort_98 : decode cX11_ofPort 98 = .ok (.getfield 41, 3) := by decide +kernel
theorem dX11_ofPort_101 : decode cX11_ofPort 101 = .ok (.iload_n 1, 1) := by decide +kernel
theorem dX11_ofPort_102 : decode cX11_ofPort 102 = .ok (.baload, 1) := by decide +kernel
theorem dX11_ofPort_103 : decode cX11_ofPort 103 = .ok (.ifCond .eq 7, 3) := by decide +kernel
theorem dX11_ofPort_106 : decode cX11_ofPort 106 = .ok (.iconst 1, 1) := by decide +kernel
theorem dX11_ofPort_107 : decode cX11_ofPort 107 = .ok (.goto 4, 3) := by decide +kernel
theorem dX11_ofPort_110 : decode cX11_ofPort 110 = .ok (.iconst 0, 1) := by decide +kernel
theorem dX11_ofPort_111 : decode cX11_ofPort 111 = .ok (.ireturn, 1) := by decide +kernel
theorem dX11_ofPort_112 : decode cX11_ofPort 112 = .ok (.iload_n 3, 1) := by decide +kernel
theorem dX11_ofPort_113 : decode cX11_ofPort 113 = .ok (.ireturn, 1) := by decide +kernel
theorem dX11_ofPort_114 : decode cX11_ofPort 114 = .ok (.ldc 129, 2) := by decide +kernel
theorem dX11_ofPort_116 : decode cX11_ofPort 116 = .ok (.ireturn, 1) := by decide +kernel
theorem dX11_held_0 : decode cX11_held 0 = .ok (.iload_n 0, 1) := by decide +kernel
theorem dX11_held_1 : decode cX11_held 1 = .ok (.ifCond .ge 7, 3) := by decide +kernel
theorem dX11_held_4 : decode cX11_held 4 = .ok (.iconst 0, 1) := by decide +kernel
theorem dX11_held_5 : decode cX11_held 5 = .ok (.goto 17, 3) := by decide +kernel
theorem dX11_held_8 : decode cX11_held 8 = .ok (.iload_n 0, 1) := by decide +kernel
theorem dX11_held_9 : decode cX11_held 9 = .ok (.sipush 1000, 3) := by decide +kernel
theorem dX11_held_12 : decode cX11_held 12 = .ok (.if_icmp .le 9, 3) := by decide +kernel
theorem dX11_held_15 : decode cX11_held 15 = .ok (.sipush 1000, 3) := by decide +kernel
theorem dX11_held_18 : decode cX11_held 18 = .ok (.goto 4, 3) := by decide +kernel
theorem dX11_held_21 : decode cX11_held 21 = .ok (.iload_n 0, 1) := by decide +kernel
theorem dX11_held_22 : decode cX11_held 22 = .ok (.ireturn, 1) := by decide +kernel
theorem dX11_tickOnce_0 : decode cX11_tickOnce 0 = .ok (.iconst 0, 1) := by decide +kernel
theorem dX11_tickOnce_1 : decode cX11_tickOnce 1 = .ok (.istore_n 1, 1) := by decide +kernel
theorem dX11_tickOnce_2 : decode cX11_tickOnce 2 = .ok (.iconst 0, 1) := by decide +kernel
theorem dX11_tickOnce_3 : decode cX11_tickOnce 3 = .ok (.istore_n 2, 1) := by decide +kernel
theorem dX11_tickOnce_4 : decode cX11_tickOnce 4 = .ok (.iload_n 2, 1) := by decide +kernel
theorem dX11_tickOnce_5 : decode cX11_tickOnce 5 = .ok (.aload_n 0, 1) := by decide +kernel
theorem dX11_tickOnce_6 : decode cX11_tickOnce 6 = .ok (.getfield 130, 3) := by decide +kernel
theorem dX11_tickOnce_9 : decode cX11_tickOnce 9 = .ok (.if_icmp .ge 115, 3) := by decide +kernel
theorem dX11_tickOnce_12 : decode cX11_tickOnce 12 = .ok (.aload_n 0, 1) := by decide +kernel
theorem dX11_tickOnce_13 : decode cX11_tickOnce 13 = .ok (.getfield 48, 3) := by decide +kernel
theorem dX11_tickOnce_16 : decode cX11_tickOnce 16 = .ok (.iload_n 2, 1) := by decide +kernel
theorem dX11_tickOnce_17 : decode cX11_tickOnce 17 = .ok (.iaload, 1) := by decide +kernel
theorem dX11_tickOnce_18 : decode cX11_tickOnce 18 = .ok (.aload_n 0, 1) := by decide +kernel
theorem dX11_tickOnce_19 : decode cX11_tickOnce 19 = .ok (.getfield 133, 3) := by decide +kernel
theorem dX11_tickOnce_22 : decode cX11_tickOnce 22 = .ok (.if_icmp .ne 57, 3) := by decide +kernel
theorem dX11_tickOnce_25 : decode cX11_tickOnce 25 = .ok (.aload_n 0, 1) := by decide +kernel
theorem dX11_tickOnce_26 : decode cX11_tickOnce 26 = .ok (.getfield 51, 3) := by decide +kernel
theorem dX11_tickOnce_29 : decode cX11_tickOnce 29 = .ok (.iload_n 2, 1) := by decide +kernel
theorem dX11_tickOnce_30 : decode cX11_tickOnce 30 = .ok (.iaload, 1) := by decide +kernel
theorem dX11_tickOnce_31 : decode cX11_tickOnce 31 = .ok (.istore_n 3, 1) := by decide +kernel
theorem dX11_tickOnce_32 : decode cX11_tickOnce 32 = .ok (.aload_n 0, 1) := by decide +kernel
theorem dX11_tickOnce_33 : decode cX11_tickOnce 33 = .ok (.getfield 13, 3) := by decide +kernel
theorem dX11_tickOnce_36 : decode cX11_tickOnce 36 = .ok (.iload_n 3, 1) := by decide +kernel
theorem dX11_tickOnce_37 : decode cX11_tickOnce 37 = .ok (.iaload, 1) := by decide +kernel
theorem dX11_tickOnce_38 : decode cX11_tickOnce 38 = .ok (.aload_n 0, 1) := by decide +kernel
theorem dX11_tickOnce_39 : decode cX11_tickOnce 39 = .ok (.getfield 54, 3) := by decide +kernel
theorem dX11_tickOnce_42 : decode cX11_tickOnce 42 = .ok (.iload_n 2, 1) := by decide +kernel
theorem dX11_tickOnce_43 : decode cX11_tickOnce 43 = .ok (.iaload, 1) := by decide +kernel
theorem dX11_tickOnce_44 : decode cX11_tickOnce 44 = .ok (.iadd, 1) := by decide +kernel
theorem dX11_tickOnce_45 : decode cX11_tickOnce 45 = .ok (.invokestatic 136, 3) := by decide +kernel
theorem dX11_tickOnce_48 : decode cX11_tickOnce 48 = .ok (.istore 4, 2) := by decide +kernel
theorem dX11_tickOnce_50 : decode cX11_tickOnce 50 = .ok (.aload_n 0, 1) := by decide +kernel
theorem dX11_tickOnce_51 : decode cX11_tickOnce 51 = .ok (.dup, 1) := by decide +kernel
theorem dX11_tickOnce_52 : decode cX11_tickOnce 52 = .ok (.getfield 140, 3) := by decide +kernel
theorem dX11_tickOnce_55 : decode cX11_tickOnce 55 = .ok (.iload 4, 2) := by decide +kernel
theorem dX11_tickOnce_57 : decode cX11_tickOnce 57 = .ok (.aload_n 0, 1) := by decide +kernel
theorem dX11_tickOnce_58 : decode cX11_tickOnce 58 = .ok (.getfield 13, 3) := by decide +kernel
theorem dX11_tickOnce_61 : decode cX11_tickOnce 61 = .ok (.iload_n 3, 1) := by decide +kernel
theorem dX11_tickOnce_62 : decode cX11_tickOnce 62 = .ok (.iaload, 1) := by decide +kernel
theorem dX11_tickOnce_63 : decode cX11_tickOnce 63 = .ok (.isub, 1) := by decide +kernel
theorem dX11_tickOnce_64 : decode cX11_tickOnce 64 = .ok (.iadd, 1) := by decide +kernel
theorem dX11_tickOnce_65 : decode cX11_tickOnce 65 = .ok (.putfield 140, 3) := by decide +kernel
theorem dX11_tickOnce_68 : decode cX11_tickOnce 68 = .ok (.aload_n 0, 1) := by decide +kernel
theorem dX11_tickOnce_69 : decode cX11_tickOnce 69 = .ok (.getfield 13, 3) := by decide +kernel
theorem dX11_tickOnce_72 : decode cX11_tickOnce 72 = .ok (.iload_n 3, 1) := by decide +kernel
theorem dX11_tickOnce_73 : decode cX11_tickOnce 73 = .ok (.iload 4, 2) := by decide +kernel
theorem dX11_tickOnce_75 : decode cX11_tickOnce 75 = .ok (.iastore, 1) := by decide +kernel
theorem dX11_tickOnce_76 : decode cX11_tickOnce 76 = .ok (.goto 42, 3) := by decide +kernel
theorem dX11_tickOnce_79 : decode cX11_tickOnce 79 = .ok (.aload_n 0, 1) := by decide +kernel
theorem dX11_tickOnce_80 : decode cX11_tickOnce 80 = .ok (.getfield 48, 3) := by decide +kernel
theorem dX11_tickOnce_83 : decode cX11_tickOnce 83 = .ok (.iload_n 1, 1) := by decide +kernel
theorem dX11_tickOnce_84 : decode cX11_tickOnce 84 = .ok (.aload_n 0, 1) := by decide +kernel
theorem dX11_tickOnce_85 : decode cX11_tickOnce 85 = .ok (.getfield 48, 3) := by decide +kernel
theorem dX11_tickOnce_88 : decode cX11_tickOnce 88 = .ok (.iload_n 2, 1) := by decide +kernel
theorem dX11_tickOnce_89 : decode cX11_tickOnce 89 = .ok (.iaload, 1) := by decide +kernel
theorem dX11_tickOnce_90 : decode cX11_tickOnce 90 = .ok (.iastore, 1) := by decide +kernel
theorem dX11_tickOnce_91 : decode cX11_tickOnce 91 = .ok (.aload_n 0, 1) := by decide +kernel
theorem dX11_tickOnce_92 : decode cX11_tickOnce 92 = .ok (.getfield 51, 3) := by decide +kernel
theorem dX11_tickOnce_95 : decode cX11_tickOnce 95 = .ok (.iload_n 1, 1) := by decide +kernel
theorem dX11_tickOnce_96 : decode cX11_tickOnce 96 = .ok (.aload_n 0, 1) := by decide +kernel
theorem dX11_tickOnce_97 : decode cX11_tickOnce 97 = .ok (.getfield 51, 3) := by decide +kernel
theorem dX11_tickOnce_100 : decode cX11_tickOnce 100 = .ok (.iload_n 2, 1) := by decide +kernel
theorem dX11_tickOnce_101 : decode cX11_tickOnce 101 = .ok (.iaload, 1) := by decide +kernel
theorem dX11_tickOnce_102 : decode cX11_tickOnce 102 = .ok (.iastore, 1) := by decide +kernel
theorem dX11_tickOnce_103 : decode cX11_tickOnce 103 = .ok (.aload_n 0, 1) := by decide +kernel
theorem dX11_tickOnce_104 : decode cX11_tickOnce 104 = .ok (.getfield 54, 3) := by decide +kernel
theorem dX11_tickOnce_107 : decode cX11_tickOnce 107 = .ok (.iload_n 1, 1) := by decide +kernel
theorem dX11_tickOnce_108 : decode cX11_tickOnce 108 = .ok (.aload_n 0, 1) := by decide +kernel
theorem dX11_tickOnce_109 : decode cX11_tickOnce 109 = .ok (.getfield 54, 3) := by decide +kernel
theorem dX11_tickOnce_112 : decode cX11_tickOnce 112 = .ok (.iload_n 2, 1) := by decide +kernel
theorem dX11_tickOnce_113 : decode cX11_tickOnce 113 = .ok (.iaload, 1) := by decide +kernel
theorem dX11_tickOnce_114 : decode cX11_tickOnce 114 = .ok (.iastore, 1) := by decide +kernel
theorem dX11_tickOnce_115 : decode cX11_tickOnce 115 = .ok (.iinc 1 1, 3) := by decide +kernel
theorem dX11_tickOnce_118 : decode cX11_tickOnce 118 = .ok (.iinc 2 1, 3) := by decide +kernel
theorem dX11_tickOnce_121 : decode cX11_tickOnce 121 = .ok (.goto (-117), 3) := by decide +kernel
theorem dX11_tickOnce_124 : decode cX11_tickOnce 124 = .ok (.aload_n 0, 1) := by decide +kernel
theorem dX11_tickOnce_125 : decode cX11_tickOnce 125 = .ok (.iload_n 1, 1) := by decide +kernel
theorem dX11_tickOnce_126 : decode cX11_tickOnce 126 = .ok (.putfield 130, 3) := by decide +kernel
theorem dX11_tickOnce_129 : decode cX11_tickOnce 129 = .ok (.iconst 0, 1) := by decide +kernel
theorem dX11_tickOnce_130 : decode cX11_tickOnce 130 = .ok (.istore_n 2, 1) := by decide +kernel
theorem dX11_tickOnce_131 : decode cX11_tickOnce 131 = .ok (.iload_n 2, 1) := by decide +kernel
theorem dX11_tickOnce_132 : decode cX11_tickOnce 132 = .ok (.iconst 3, 1) := by decide +kernel
theorem dX11_tickOnce_133 : decode cX11_tickOnce 133 = .ok (.aload_n 0, 1) := by decide +kernel
theorem dX11_tickOnce_134 : decode cX11_tickOnce 134 = .ok (.getfield 90, 3) := by decide +kernel
theorem dX11_tickOnce_137 : decode cX11_tickOnce 137 = .ok (.imul, 1) := by decide +kernel
theorem dX11_tickOnce_138 : decode cX11_tickOnce 138 = .ok (.if_icmp .ge 104, 3) := by decide +kernel
theorem dX11_tickOnce_141 : decode cX11_tickOnce 141 = .ok (.aload_n 0, 1) := by decide +kernel
theorem dX11_tickOnce_142 : decode cX11_tickOnce 142 = .ok (.getfield 13, 3) := by decide +kernel
theorem dX11_tickOnce_145 : decode cX11_tickOnce 145 = .ok (.iload_n 2, 1) := by decide +kernel
theorem dX11_tickOnce_146 : decode cX11_tickOnce 146 = .ok (.iaload, 1) := by decide +kernel
theorem dX11_tickOnce_147 : decode cX11_tickOnce 147 = .ok (.aload_n 0, 1) := by decide +kernel
theorem dX11_tickOnce_148 : decode cX11_tickOnce 148 = .ok (.getfield 17, 3) := by decide +kernel
theorem dX11_tickOnce_151 : decode cX11_tickOnce 151 = .ok (.iload_n 2, 1) := by decide +kernel
theorem dX11_tickOnce_152 : decode cX11_tickOnce 152 = .ok (.iaload, 1) := by decide +kernel
theorem dX11_tickOnce_153 : decode cX11_tickOnce 153 = .ok (.iadd, 1) := by decide +kernel
theorem dX11_tickOnce_154 : decode cX11_tickOnce 154 = .ok (.invokestatic 136, 3) := by decide +kernel
theorem dX11_tickOnce_157 : decode cX11_tickOnce 157 = .ok (.istore_n 3, 1) := by decide +kernel
theorem dX11_tickOnce_158 : decode cX11_tickOnce 158 = .ok (.aload_n 0, 1) := by decide +kernel
theorem dX11_tickOnce_159 : decode cX11_tickOnce 159 = .ok (.dup, 1) := by decide +kernel
theorem dX11_tickOnce_160 : decode cX11_tickOnce 160 = .ok (.getfield 143, 3) := by decide +kernel
theorem dX11_tickOnce_163 : decode cX11_tickOnce 163 = .ok (.iload_n 3, 1) := by decide +kernel
theorem dX11_tickOnce_164 : decode cX11_tickOnce 164 = .ok (.aload_n 0, 1) := by decide +kernel
theorem dX11_tickOnce_165 : decode cX11_tickOnce 165 = .ok (.getfield 13, 3) := by decide +kernel
theorem dX11_tickOnce_168 : decode cX11_tickOnce 168 = .ok (.iload_n 2, 1) := by decide +kernel
theorem dX11_tickOnce_169 : decode cX11_tickOnce 169 = .ok (.iaload, 1) := by decide +kernel
theorem dX11_tickOnce_170 : decode cX11_tickOnce 170 = .ok (.isub, 1) := by decide +kernel
theorem dX11_tickOnce_171 : decode cX11_tickOnce 171 = .ok (.iadd, 1) := by decide +kernel
theorem dX11_tickOnce_172 : decode cX11_tickOnce 172 = .ok (.putfield 143, 3) := by decide +kernel
theorem dX11_tickOnce_175 : decode cX11_tickOnce 175 = .ok (.iload_n 3, 1) := by decide +kernel
theorem dX11_tickOnce_176 : decode cX11_tickOnce 176 = .ok (.aload_n 0, 1) := by decide +kernel
theorem dX11_tickOnce_177 : decode cX11_tickOnce 177 = .ok (.getfield 20, 3) := by decide +kernel
theorem dX11_tickOnce_180 : decode cX11_tickOnce 180 = .ok (.iload_n 2, 1) := by decide +kernel
theorem dX11_tickOnce_181 : decode cX11_tickOnce 181 = .ok (.iaload, 1) := by decide +kernel
theorem dX11_tickOnce_182 : decode cX11_tickOnce 182 = .ok (.if_icmp .ge 7, 3) := by decide +kernel
theorem dX11_tickOnce_185 : decode cX11_tickOnce 185 = .ok (.iload_n 3, 1) := by decide +kernel
theorem dX11_tickOnce_186 : decode cX11_tickOnce 186 = .ok (.goto 9, 3) := by decide +kernel
theorem dX11_tickOnce_189 : decode cX11_tickOnce 189 = .ok (.aload_n 0, 1) := by decide +kernel
theorem dX11_tickOnce_190 : decode cX11_tickOnce 190 = .ok (.getfield 20, 3) := by decide +kernel
theorem dX11_tickOnce_193 : decode cX11_tickOnce 193 = .ok (.iload_n 2, 1) := by decide +kernel
theorem dX11_tickOnce_194 : decode cX11_tickOnce 194 = .ok (.iaload, 1) := by decide +kernel
theorem dX11_tickOnce_195 : decode cX11_tickOnce 195 = .ok (.istore 4, 2) := by decide +kernel
theorem dX11_tickOnce_197 : decode cX11_tickOnce 197 = .ok (.aload_n 0, 1) := by decide +kernel
theorem dX11_tickOnce_198 : decode cX11_tickOnce 198 = .ok (.dup, 1) := by decide +kernel
theorem dX11_tickOnce_199 : decode cX11_tickOnce 199 = .ok (.getfield 146, 3) := by decide +kernel
theorem dX11_tickOnce_202 : decode cX11_tickOnce 202 = .ok (.iload 4, 2) := by decide +kernel
theorem dX11_tickOnce_204 : decode cX11_tickOnce 204 = .ok (.iadd, 1) := by decide +kernel
theorem dX11_tickOnce_205 : decode cX11_tickOnce 205 = .ok (.putfield 146, 3) := by decide +kernel
theorem dX11_tickOnce_208 : decode cX11_tickOnce 208 = .ok (.aload_n 0, 1) := by decide +kernel
theorem dX11_tickOnce_209 : decode cX11_tickOnce 209 = .ok (.getfield 29, 3) := by decide +kernel
theorem dX11_tickOnce_212 : decode cX11_tickOnce 212 = .ok (.iload_n 2, 1) := by decide +kernel
theorem dX11_tickOnce_213 : decode cX11_tickOnce 213 = .ok (.dup2, 1) := by decide +kernel
theorem dX11_tickOnce_214 : decode cX11_tickOnce 214 = .ok (.iaload, 1) := by decide +kernel
theorem dX11_tickOnce_215 : decode cX11_tickOnce 215 = .ok (.aload_n 0, 1) := by decide +kernel
theorem dX11_tickOnce_216 : decode cX11_tickOnce 216 = .ok (.getfield 20, 3) := by decide +kernel
theorem dX11_tickOnce_219 : decode cX11_tickOnce 219 = .ok (.iload_n 2, 1) := by decide +kernel
theorem dX11_tickOnce_220 : decode cX11_tickOnce 220 = .ok (.iaload, 1) := by decide +kernel
theorem dX11_tickOnce_221 : decode cX11_tickOnce 221 = .ok (.iload 4, 2) := by decide +kernel
theorem dX11_tickOnce_223 : decode cX11_tickOnce 223 = .ok (.isub, 1) := by decide +kernel
theorem dX11_tickOnce_224 : decode cX11_tickOnce 224 = .ok (.iadd, 1) := by decide +kernel
theorem dX11_tickOnce_225 : decode cX11_tickOnce 225 = .ok (.iastore, 1) := by decide +kernel
theorem dX11_tickOnce_226 : decode cX11_tickOnce 226 = .ok (.aload_n 0, 1) := by decide +kernel
theorem dX11_tickOnce_227 : decode cX11_tickOnce 227 = .ok (.getfield 13, 3) := by decide +kernel
theorem dX11_tickOnce_230 : decode cX11_tickOnce 230 = .ok (.iload_n 2, 1) := by decide +kernel
theorem dX11_tickOnce_231 : decode cX11_tickOnce 231 = .ok (.iload_n 3, 1) := by decide +kernel
theorem dX11_tickOnce_232 : decode cX11_tickOnce 232 = .ok (.iload 4, 2) := by decide +kernel
theorem dX11_tickOnce_234 : decode cX11_tickOnce 234 = .ok (.isub, 1) := by decide +kernel
theorem dX11_tickOnce_235 : decode cX11_tickOnce 235 = .ok (.iastore, 1) := by decide +kernel
theorem dX11_tickOnce_236 : decode cX11_tickOnce 236 = .ok (.iinc 2 1, 3) := by decide +kernel
theorem dX11_tickOnce_239 : decode cX11_tickOnce 239 = .ok (.goto (-108), 3) := by decide +kernel
theorem dX11_tickOnce_242 : decode cX11_tickOnce 242 = .ok (.aload_n 0, 1) := by decide +kernel
theorem dX11_tickOnce_243 : decode cX11_tickOnce 243 = .ok (.dup, 1) := by decide +kernel
theorem dX11_tickOnce_244 : decode cX11_tickOnce 244 = .ok (.getfield 133, 3) := by decide +kernel
theorem dX11_tickOnce_247 : decode cX11_tickOnce 247 = .ok (.iconst 1, 1) := by decide +kernel
theorem dX11_tickOnce_248 : decode cX11_tickOnce 248 = .ok (.iadd, 1) := by decide +kernel
theorem dX11_tickOnce_249 : decode cX11_tickOnce 249 = .ok (.putfield 133, 3) := by decide +kernel
theorem dX11_tickOnce_252 : decode cX11_tickOnce 252 = .ok (.return_, 1) := by decide +kernel
theorem dX11_tick_0 : decode cX11_tick 0 = .ok (.iload_n 1, 1) := by decide +kernel
theorem dX11_tick_1 : decode cX11_tick 1 = .ok (.i2l, 1) := by decide +kernel
theorem dX11_tick_2 : decode cX11_tick 2 = .ok (.lconst 1, 1) := by decide +kernel
theorem dX11_tick_3 : decode cX11_tick 3 = .ok (.ldc2_w 149, 3) := by decide +kernel
theorem dX11_tick_6 : decode cX11_tick 6 = .ok (.invokestatic 93, 3) := by decide +kernel
theorem dX11_tick_9 : decode cX11_tick 9 = .ok (.ifCond .ne 6, 3) := by decide +kernel
theorem dX11_tick_12 : decode cX11_tick 12 = .ok (.bipush (-2), 2) := by decide +kernel
theorem dX11_tick_14 : decode cX11_tick 14 = .ok (.ireturn, 1) := by decide +kernel
theorem dX11_tick_15 : decode cX11_tick 15 = .ok (.aload_n 0, 1) := by decide +kernel
theorem dX11_tick_16 : decode cX11_tick 16 = .ok (.getfield 133, 3) := by decide +kernel
theorem dX11_tick_19 : decode cX11_tick 19 = .ok (.iload_n 1, 1) := by decide +kernel
theorem dX11_tick_20 : decode cX11_tick 20 = .ok (.iadd, 1) := by decide +kernel
theorem dX11_tick_21 : decode cX11_tick 21 = .ok (.sipush 999, 3) := by decide +kernel
theorem dX11_tick_24 : decode cX11_tick 24 = .ok (.if_icmp .le 6, 3) := by decide +kernel
theorem dX11_tick_27 : decode cX11_tick 27 = .ok (.bipush (-3), 2) := by decide +kernel
theorem dX11_tick_29 : decode cX11_tick 29 = .ok (.ireturn, 1) := by decide +kernel
theorem dX11_tick_30 : decode cX11_tick 30 = .ok (.iconst 0, 1) := by decide +kernel
theorem dX11_tick_31 : decode cX11_tick 31 = .ok (.istore_n 2, 1) := by decide +kernel
theorem dX11_tick_32 : decode cX11_tick 32 = .ok (.iload_n 2, 1) := by decide +kernel
theorem dX11_tick_33 : decode cX11_tick 33 = .ok (.iload_n 1, 1) := by decide +kernel
theorem dX11_tick_34 : decode cX11_tick 34 = .ok (.if_icmp .ge 13, 3) := by decide +kernel
theorem dX11_tick_37 : decode cX11_tick 37 = .ok (.aload_n 0, 1) := by decide +kernel
theorem dX11_tick_38 : decode cX11_tick 38 = .ok (.invokevirtual 151, 3) := by decide +kernel
theorem dX11_tick_41 : decode cX11_tick 41 = .ok (.iinc 2 1, 3) := by decide +kernel
theorem dX11_tick_44 : decode cX11_tick 44 = .ok (.goto (-12), 3) := by decide +kernel
theorem dX11_tick_47 : decode cX11_tick 47 = .ok (.aload_n 0, 1) := by decide +kernel
theorem dX11_tick_48 : decode cX11_tick 48 = .ok (.getfield 133, 3) := by decide +kernel
theorem dX11_tick_51 : decode cX11_tick 51 = .ok (.ireturn, 1) := by decide +kernel
theorem dX11_event_0 : decode cX11_event 0 = .ok (.aload_n 0, 1) := by decide +kernel
theorem dX11_event_1 : decode cX11_event 1 = .ok (.iload_n 2, 1) := by decide +kernel
theorem dX11_event_2 : decode cX11_event 2 = .ok (.invokevirtual 99, 3) := by decide +kernel
theorem dX11_event_5 : decode cX11_event 5 = .ok (.ifCond .eq 10, 3) := by decide +kernel
theorem dX11_event_8 : decode cX11_event 8 = .ok (.iload_n 3, 1) := by decide +kernel
theorem dX11_event_9 : decode cX11_event 9 = .ok (.invokestatic 103, 3) := by decide +kernel
theorem dX11_event_12 : decode cX11_event 12 = .ok (.ifCond .ne 5, 3) := by decide +kernel
theorem dX11_event_15 : decode cX11_event 15 = .ok (.iconst (-1), 1) := by decide +kernel
theorem dX11_event_16 : decode cX11_event 16 = .ok (.ireturn, 1) := by decide +kernel
theorem dX11_event_17 : decode cX11_event 17 = .ok (.iload_n 1, 1) := by decide +kernel
theorem dX11_event_18 : decode cX11_event 18 = .ok (.i2l, 1) := by decide +kernel
theorem dX11_event_19 : decode cX11_event 19 = .ok (.aload_n 0, 1) := by decide +kernel
theorem dX11_event_20 : decode cX11_event 20 = .ok (.getfield 133, 3) := by decide +kernel
theorem dX11_event_23 : decode cX11_event 23 = .ok (.i2l, 1) := by decide +kernel
theorem dX11_event_24 : decode cX11_event 24 = .ok (.ldc2_w 154, 3) := by decide +kernel
theorem dX11_event_27 : decode cX11_event 27 = .ok (.invokestatic 93, 3) := by decide +kernel
theorem dX11_event_30 : decode cX11_event 30 = .ok (.ifCond .eq 23, 3) := by decide +kernel
theorem dX11_event_33 : decode cX11_event 33 = .ok (.iload 4, 2) := by decide +kernel
theorem dX11_event_35 : decode cX11_event 35 = .ok (.i2l, 1) := by decide +kernel
theorem dX11_event_36 : decode cX11_event 36 = .ok (.ldc2_w 156, 3) := by decide +kernel
theorem dX11_event_39 : decode cX11_event 39 = .ok (.ldc2_w 108, 3) := by decide +kernel
theorem dX11_event_42 : decode cX11_event 42 = .ok (.invokestatic 93, 3) := by decide +kernel
theorem dX11_event_45 : decode cX11_event 45 = .ok (.ifCond .eq 8, 3) := by decide +kernel
theorem dX11_event_48 : decode cX11_event 48 = .ok (.iload 4, 2) := by decide +kernel
theorem dX11_event_50 : decode cX11_event 50 = .ok (.ifCond .ne 6, 3) := by decide +kernel
theorem dX11_event_53 : decode cX11_event 53 = .ok (.bipush (-2), 2) := by decide +kernel
theorem dX11_event_55 : decode cX11_event 55 = .ok (.ireturn, 1) := by decide +kernel
theorem dX11_event_56 : decode cX11_event 56 = .ok (.aload_n 0, 1) := by decide +kernel
theorem dX11_event_57 : decode cX11_event 57 = .ok (.getfield 130, 3) := by decide +kernel
theorem dX11_event_60 : decode cX11_event 60 = .ok (.bipush 20, 2) := by decide +kernel
theorem dX11_event_62 : decode cX11_event 62 = .ok (.if_icmp .ne 6, 3) := by decide +kernel
theorem dX11_event_65 : decode cX11_event 65 = .ok (.bipush (-4), 2) := by decide +kernel
theorem dX11_event_67 : decode cX11_event 67 = .ok (.ireturn, 1) := by decide +kernel
theorem dX11_event_68 : decode cX11_event 68 = .ok (.aload_n 0, 1) := by decide +kernel
theorem dX11_event_69 : decode cX11_event 69 = .ok (.getfield 48, 3) := by decide +kernel
theorem dX11_event_72 : decode cX11_event 72 = .ok (.aload_n 0, 1) := by decide +kernel
theorem dX11_event_73 : decode cX11_event 73 = .ok (.getfield 130, 3) := by decide +kernel
theorem dX11_event_76 : decode cX11_event 76 = .ok (.iload_n 1, 1) := by decide +kernel
theorem dX11_event_77 : decode cX11_event 77 = .ok (.iastore, 1) := by decide +kernel
theorem dX11_event_78 : decode cX11_event 78 = .ok (.aload_n 0, 1) := by decide +kernel
theorem dX11_event_79 : decode cX11_event 79 = .ok (.getfield 51, 3) := by decide +kernel
theorem dX11_event_82 : decode cX11_event 82 = .ok (.aload_n 0, 1) := by decide +kernel
theorem dX11_event_83 : decode cX11_event 83 = .ok (.getfield 130, 3) := by decide +kernel
theorem dX11_event_86 : decode cX11_event 86 = .ok (.iconst 3, 1) := by decide +kernel
theorem dX11_event_87 : decode cX11_event 87 = .ok (.iload_n 2, 1) := by decide +kernel
theorem dX11_event_88 : decode cX11_event 88 = .ok (.imul, 1) := by decide +kernel
theorem dX11_event_89 : decode cX11_event 89 = .ok (.iload_n 3, 1) := by decide +kernel
theorem dX11_event_90 : decode cX11_event 90 = .ok (.iadd, 1) := by decide +kernel
theorem dX11_event_91 : decode cX11_event 91 = .ok (.iastore, 1) := by decide +kernel
theorem dX11_event_92 : decode cX11_event 92 = .ok (.aload_n 0, 1) := by decide +kernel
theorem dX11_event_93 : decode cX11_event 93 = .ok (.getfield 54, 3) := by decide +kernel
theorem dX11_event_96 : decode cX11_event 96 = .ok (.aload_n 0, 1) := by decide +kernel
theorem dX11_event_97 : decode cX11_event 97 = .ok (.getfield 130, 3) := by decide +kernel
theorem dX11_event_100 : decode cX11_event 100 = .ok (.iload 4, 2) := by decide +kernel
theorem dX11_event_102 : decode cX11_event 102 = .ok (.iastore, 1) := by decide +kernel
theorem dX11_event_103 : decode cX11_event 103 = .ok (.aload_n 0, 1) := by decide +kernel
theorem dX11_event_104 : decode cX11_event 104 = .ok (.dup, 1) := by decide +kernel
theorem dX11_event_105 : decode cX11_event 105 = .ok (.getfield 130, 3) := by decide +kernel
theorem dX11_event_108 : decode cX11_event 108 = .ok (.iconst 1, 1) := by decide +kernel
theorem dX11_event_109 : decode cX11_event 109 = .ok (.iadd, 1) := by decide +kernel
theorem dX11_event_110 : decode cX11_event 110 = .ok (.putfield 130, 3) := by decide +kernel
theorem dX11_event_113 : decode cX11_event 113 = .ok (.aload_n 0, 1) := by decide +kernel
theorem dX11_event_114 : decode cX11_event 114 = .ok (.getfield 130, 3) := by decide +kernel
theorem dX11_event_117 : decode cX11_event 117 = .ok (.ireturn, 1) := by decide +kernel
theorem dX11_isShip_0 : decode cX11_isShip 0 = .ok (.iload_n 1, 1) := by decide +kernel
theorem dX11_isShip_1 : decode cX11_isShip 1 = .ok (.i2l, 1) := by decide +kernel
theorem dX11_isShip_2 : decode cX11_isShip 2 = .ok (.lconst 0, 1) := by decide +kernel
theorem dX11_isShip_3 : decode cX11_isShip 3 = .ok (.aload_n 0, 1) := by decide +kernel
theorem dX11_isShip_4 : decode cX11_isShip 4 = .ok (.getfield 158, 3) := by decide +kernel
theorem dX11_isShip_7 : decode cX11_isShip 7 = .ok (.iconst 1, 1) := by decide +kernel
theorem dX11_isShip_8 : decode cX11_isShip 8 = .ok (.isub, 1) := by decide +kernel
theorem dX11_isShip_9 : decode cX11_isShip 9 = .ok (.i2l, 1) := by decide +kernel
theorem dX11_isShip_10 : decode cX11_isShip 10 = .ok (.invokestatic 93, 3) := by decide +kernel
theorem dX11_isShip_13 : decode cX11_isShip 13 = .ok (.ireturn, 1) := by decide +kernel
theorem dX11_load_0 : decode cX11_load 0 = .ok (.aload_n 0, 1) := by decide +kernel
theorem dX11_load_1 : decode cX11_load 1 = .ok (.getfield 66, 3) := by decide +kernel
theorem dX11_load_4 : decode cX11_load 4 = .ok (.iconst 3, 1) := by decide +kernel
theorem dX11_load_5 : decode cX11_load 5 = .ok (.iload_n 1, 1) := by decide +kernel
theorem dX11_load_6 : decode cX11_load 6 = .ok (.imul, 1) := by decide +kernel
theorem dX11_load_7 : decode cX11_load 7 = .ok (.iaload, 1) := by decide +kernel
theorem dX11_load_8 : decode cX11_load 8 = .ok (.aload_n 0, 1) := by decide +kernel
theorem dX11_load_9 : decode cX11_load 9 = .ok (.getfield 66, 3) := by decide +kernel
theorem dX11_load_12 : decode cX11_load 12 = .ok (.iconst 3, 1) := by decide +kernel
theorem dX11_load_13 : decode cX11_load 13 = .ok (.iload_n 1, 1) := by decide +kernel
theorem dX11_load_14 : decode cX11_load 14 = .ok (.imul, 1) := by decide +kernel
theorem dX11_load_15 : decode cX11_load 15 = .ok (.iconst 1, 1) := by decide +kernel
theorem dX11_load_16 : decode cX11_load 16 = .ok (.iadd, 1) := by decide +kernel
theorem dX11_load_17 : decode cX11_load 17 = .ok (.iaload, 1) := by decide +kernel
theorem dX11_load_18 : decode cX11_load 18 = .ok (.iadd, 1) := by decide +kernel
theorem dX11_load_19 : decode cX11_load 19 = .ok (.aload_n 0, 1) := by decide +kernel
theorem dX11_load_20 : decode cX11_load 20 = .ok (.getfield 66, 3) := by decide +kernel
theorem dX11_load_23 : decode cX11_load 23 = .ok (.iconst 3, 1) := by decide +kernel
theorem dX11_load_24 : decode cX11_load 24 = .ok (.iload_n 1, 1) := by decide +kernel
theorem dX11_load_25 : decode cX11_load 25 = .ok (.imul, 1) := by decide +kernel
theorem dX11_load_26 : decode cX11_load 26 = .ok (.iconst 2, 1) := by decide +kernel
theorem dX11_load_27 : decode cX11_load 27 = .ok (.iadd, 1) := by decide +kernel
theorem dX11_load_28 : decode cX11_load 28 = .ok (.iaload, 1) := by decide +kernel
theorem dX11_load_29 : decode cX11_load 29 = .ok (.iadd, 1) := by decide +kernel
theorem dX11_load_30 : decode cX11_load 30 = .ok (.ireturn, 1) := by decide +kernel
theorem dX11_ship_0 : decode cX11_ship 0 = .ok (.aload_n 0, 1) := by decide +kernel
theorem dX11_ship_1 : decode cX11_ship 1 = .ok (.iload_n 1, 1) := by decide +kernel
theorem dX11_ship_2 : decode cX11_ship 2 = .ok (.invokevirtual 99, 3) := by decide +kernel
theorem dX11_ship_5 : decode cX11_ship 5 = .ok (.ifCond .ne 5, 3) := by decide +kernel
theorem dX11_ship_8 : decode cX11_ship 8 = .ok (.iconst (-1), 1) := by decide +kernel
theorem dX11_ship_9 : decode cX11_ship 9 = .ok (.ireturn, 1) := by decide +kernel
theorem dX11_ship_10 : decode cX11_ship 10 = .ok (.iload_n 2, 1) := by decide +kernel
theorem dX11_ship_11 : decode cX11_ship 11 = .ok (.i2l, 1) := by decide +kernel
theorem dX11_ship_12 : decode cX11_ship 12 = .ok (.lconst 1, 1) := by decide +kernel
theorem dX11_ship_13 : decode cX11_ship 13 = .ok (.ldc2_w 124, 3) := by decide +kernel
theorem dX11_ship_16 : decode cX11_ship 16 = .ok (.invokestatic 93, 3) := by decide +kernel
theorem dX11_ship_19 : decode cX11_ship 19 = .ok (.ifCond .eq 15, 3) := by decide +kernel
theorem dX11_ship_22 : decode cX11_ship 22 = .ok (.iload_n 3, 1) := by decide +kernel
theorem dX11_ship_23 : decode cX11_ship 23 = .ok (.i2l, 1) := by decide +kernel
theorem dX11_ship_24 : decode cX11_ship 24 = .ok (.lconst 0, 1) := by decide +kernel
theorem dX11_ship_25 : decode cX11_ship 25 = .ok (.ldc2_w 161, 3) := by decide +kernel
theorem dX11_ship_28 : decode cX11_ship 28 = .ok (.invokestatic 93, 3) := by decide +kernel
theorem dX11_ship_31 : decode cX11_ship 31 = .ok (.ifCond .ne 6, 3) := by decide +kernel
theorem dX11_ship_34 : decode cX11_ship 34 = .ok (.bipush (-2), 2) := by decide +kernel
theorem dX11_ship_36 : decode cX11_ship 36 = .ok (.ireturn, 1) := by decide +kernel
theorem dX11_ship_37 : decode cX11_ship 37 = .ok (.aload_n 0, 1) := by decide +kernel
theorem dX11_ship_38 : decode cX11_ship 38 = .ok (.getfield 158, 3) := by decide +kernel
theorem dX11_ship_41 : decode cX11_ship 41 = .ok (.iconst 4, 1) := by decide +kernel
theorem dX11_ship_42 : decode cX11_ship 42 = .ok (.if_icmp .ne 6, 3) := by decide +kernel
theorem dX11_ship_45 : decode cX11_ship 45 = .ok (.bipush (-4), 2) := by decide +kernel
theorem dX11_ship_47 : decode cX11_ship 47 = .ok (.ireturn, 1) := by decide +kernel
theorem dX11_ship_48 : decode cX11_ship 48 = .ok (.aload_n 0, 1) := by decide +kernel
theorem dX11_ship_49 : decode cX11_ship 49 = .ok (.getfield 57, 3) := by decide +kernel
theorem dX11_ship_52 : decode cX11_ship 52 = .ok (.aload_n 0, 1) := by decide +kernel
theorem dX11_ship_53 : decode cX11_ship 53 = .ok (.getfield 158, 3) := by decide +kernel
theorem dX11_ship_56 : decode cX11_ship 56 = .ok (.iload_n 1, 1) := by decide +kernel
theorem dX11_ship_57 : decode cX11_ship 57 = .ok (.iastore, 1) := by decide +kernel
theorem dX11_ship_58 : decode cX11_ship 58 = .ok (.aload_n 0, 1) := by decide +kernel
theorem dX11_ship_59 : decode cX11_ship 59 = .ok (.getfield 60, 3) := by decide +kernel
theorem dX11_ship_62 : decode cX11_ship 62 = .ok (.aload_n 0, 1) := by decide +kernel
theorem dX11_ship_63 : decode cX11_ship 63 = .ok (.getfield 158, 3) := by decide +kernel
theorem dX11_ship_66 : decode cX11_ship 66 = .ok (.iload_n 2, 1) := by decide +kernel
theorem dX11_ship_67 : decode cX11_ship 67 = .ok (.iastore, 1) := by decide +kernel
theorem dX11_ship_68 : decode cX11_ship 68 = .ok (.aload_n 0, 1) := by decide +kernel
theorem dX11_ship_69 : decode cX11_ship 69 = .ok (.getfield 63, 3) := by decide +kernel
theorem dX11_ship_72 : decode cX11_ship 72 = .ok (.aload_n 0, 1) := by decide +kernel
theorem dX11_ship_73 : decode cX11_ship 73 = .ok (.getfield 158, 3) := by decide +kernel
theorem dX11_ship_76 : decode cX11_ship 76 = .ok (.iload_n 3, 1) := by decide +kernel
theorem dX11_ship_77 : decode cX11_ship 77 = .ok (.iastore, 1) := by decide +kernel
theorem dX11_ship_78 : decode cX11_ship 78 = .ok (.aload_n 0, 1) := by decide +kernel
theorem dX11_ship_79 : decode cX11_ship 79 = .ok (.dup, 1) := by decide +kernel
theorem dX11_ship_80 : decode cX11_ship 80 = .ok (.getfield 158, 3) := by decide +kernel
theorem dX11_ship_83 : decode cX11_ship 83 = .ok (.iconst 1, 1) := by decide +kernel
theorem dX11_ship_84 : decode cX11_ship 84 = .ok (.iadd, 1) := by decide +kernel
theorem dX11_ship_85 : decode cX11_ship 85 = .ok (.putfield 158, 3) := by decide +kernel
theorem dX11_ship_88 : decode cX11_ship 88 = .ok (.aload_n 0, 1) := by decide +kernel
theorem dX11_ship_89 : decode cX11_ship 89 = .ok (.getfield 158, 3) := by decide +kernel
theorem dX11_ship_92 : decode cX11_ship 92 = .ok (.iconst 1, 1) := by decide +kernel
theorem dX11_ship_93 : decode cX11_ship 93 = .ok (.isub, 1) := by decide +kernel
theorem dX11_ship_94 : decode cX11_ship 94 = .ok (.ireturn, 1) := by decide +kernel
theorem dX11_whyNot_0 : decode cX11_whyNot 0 = .ok (.aload_n 0, 1) := by decide +kernel
theorem dX11_whyNot_1 : decode cX11_whyNot 1 = .ok (.iload_n 1, 1) := by decide +kernel
theorem dX11_whyNot_2 : decode cX11_whyNot 2 = .ok (.invokevirtual 163, 3) := by decide +kernel
theorem dX11_whyNot_5 : decode cX11_whyNot 5 = .ok (.ifCond .eq 10, 3) := by decide +kernel
theorem dX11_whyNot_8 : decode cX11_whyNot 8 = .ok (.iload_n 2, 1) := by decide +kernel
theorem dX11_whyNot_9 : decode cX11_whyNot 9 = .ok (.invokestatic 103, 3) := by decide +kernel
theorem dX11_whyNot_12 : decode cX11_whyNot 12 = .ok (.ifCond .ne 5, 3) := by decide +kernel
theorem dX11_whyNot_15 : decode cX11_whyNot 15 = .ok (.iconst (-1), 1) := by decide +kernel
theorem dX11_whyNot_16 : decode cX11_whyNot 16 = .ok (.ireturn, 1) := by decide +kernel
theorem dX11_whyNot_17 : decode cX11_whyNot 17 = .ok (.iload_n 3, 1) := by decide +kernel
theorem dX11_whyNot_18 : decode cX11_whyNot 18 = .ok (.i2l, 1) := by decide +kernel
theorem dX11_whyNot_19 : decode cX11_whyNot 19 = .ok (.lconst 1, 1) := by decide +kernel
theorem dX11_whyNot_20 : decode cX11_whyNot 20 = .ok (.ldc2_w 124, 3) := by decide +kernel
theorem dX11_whyNot_23 : decode cX11_whyNot 23 = .ok (.invokestatic 93, 3) := by decide +kernel
theorem dX11_whyNot_26 : decode cX11_whyNot 26 = .ok (.ifCond .ne 6, 3) := by decide +kernel
theorem dX11_whyNot_29 : decode cX11_whyNot 29 = .ok (.bipush (-2), 2) := by decide +kernel
theorem dX11_whyNot_31 : decode cX11_whyNot 31 = .ok (.ireturn, 1) := by decide +kernel
theorem dX11_whyNot_32 : decode cX11_whyNot 32 = .ok (.aload_n 0, 1) := by decide +kernel
theorem dX11_whyNot_33 : decode cX11_whyNot 33 = .ok (.getfield 41, 3) := by decide +kernel
theorem dX11_whyNot_36 : decode cX11_whyNot 36 = .ok (.aload_n 0, 1) := by decide +kernel
theorem dX11_whyNot_37 : decode cX11_whyNot 37 = .ok (.getfield 57, 3) := by decide +kernel
theorem dX11_whyNot_40 : decode cX11_whyNot 40 = .ok (.iload_n 1, 1) := by decide +kernel
theorem dX11_whyNot_41 : decode cX11_whyNot 41 = .ok (.iaload, 1) := by decide +kernel
theorem dX11_whyNot_42 : decode cX11_whyNot 42 = .ok (.baload, 1) := by decide +kernel
theorem dX11_whyNot_43 : decode cX11_whyNot 43 = .ok (.ifCond .eq 8, 3) := by decide +kernel
theorem dX11_whyNot_46 : decode cX11_whyNot 46 = .ok (.bipush (-5), 2) := by decide +kernel
theorem dX11_whyNot_48 : decode cX11_whyNot 48 = .ok (.goto 4, 3) := by decide +kernel
theorem dX11_whyNot_51 : decode cX11_whyNot 51 = .ok (.iconst 0, 1) := by decide +kernel
theorem dX11_whyNot_52 : decode cX11_whyNot 52 = .ok (.ireturn, 1) := by decide +kernel
theorem dX11_buy_0 : decode cX11_buy 0 = .ok (.aload_n 0, 1) := by decide +kernel
theorem dX11_buy_1 : decode cX11_buy 1 = .ok (.iload_n 1, 1) := by decide +kernel
theorem dX11_buy_2 : decode cX11_buy 2 = .ok (.iload_n 2, 1) := by decide +kernel
theorem dX11_buy_3 : decode cX11_buy 3 = .ok (.iload_n 3, 1) := by decide +kernel
theorem dX11_buy_4 : decode cX11_buy 4 = .ok (.invokevirtual 166, 3) := by decide +kernel
theorem dX11_buy_7 : decode cX11_buy 7 = .ok (.istore 4, 2) := by decide +kernel
theorem dX11_buy_9 : decode cX11_buy 9 = .ok (.iload 4, 2) := by decide +kernel
theorem dX11_buy_11 : decode cX11_buy 11 = .ok (.ifCond .ge 6, 3) := by decide +kernel
theorem dX11_buy_14 : decode cX11_buy 14 = .ok (.iload 4, 2) := by decide +kernel
theorem dX11_buy_16 : decode cX11_buy 16 = .ok (.ireturn, 1) := by decide +kernel
theorem dX11_buy_17 : decode cX11_buy 17 = .ok (.aload_n 0, 1) := by decide +kernel
theorem dX11_buy_18 : decode cX11_buy 18 = .ok (.getfield 57, 3) := by decide +kernel
theorem dX11_buy_21 : decode cX11_buy 21 = .ok (.iload_n 1, 1) := by decide +kernel
theorem dX11_buy_22 : decode cX11_buy 22 = .ok (.iaload, 1) := by decide +kernel
theorem dX11_buy_23 : decode cX11_buy 23 = .ok (.istore 5, 2) := by decide +kernel
theorem dX11_buy_25 : decode cX11_buy 25 = .ok (.iconst 3, 1) := by decide +kernel
theorem dX11_buy_26 : decode cX11_buy 26 = .ok (.iload 5, 2) := by decide +kernel
theorem dX11_buy_28 : decode cX11_buy 28 = .ok (.imul, 1) := by decide +kernel
theorem dX11_buy_29 : decode cX11_buy 29 = .ok (.iload_n 2, 1) := by decide +kernel
theorem dX11_buy_30 : decode cX11_buy 30 = .ok (.iadd, 1) := by decide +kernel
theorem dX11_buy_31 : decode cX11_buy 31 = .ok (.istore 6, 2) := by decide +kernel
theorem dX11_buy_33 : decode cX11_buy 33 = .ok (.iconst 0, 1) := by decide +kernel
theorem dX11_buy_34 : decode cX11_buy 34 = .ok (.istore 7, 2) := by decide +kernel
theorem dX11_buy_36 : decode cX11_buy 36 = .ok (.iload 7, 2) := by decide +kernel
theorem dX11_buy_38 : decode cX11_buy 38 = .ok (.iload_n 3, 1) := by decide +kernel
theorem dX11_buy_39 : decode cX11_buy 39 = .ok (.if_icmp .ge 151, 3) := by decide +kernel
theorem dX11_buy_42 : decode cX11_buy 42 = .ok (.aload_n 0, 1) := by decide +kernel
theorem dX11_buy_43 : decode cX11_buy 43 = .ok (.iload_n 1, 1) := by decide +kernel
theorem dX11_buy_44 : decode cX11_buy 44 = .ok (.invokevirtual 170, 3) := by decide +kernel
theorem dX11_buy_47 : decode cX11_buy 47 = .ok (.aload_n 0, 1) := by decide +kernel
theorem dX11_buy_48 : decode cX11_buy 48 = .ok (.getfield 60, 3) := by decide +kernel
theorem dX11_buy_51 : decode cX11_buy 51 = .ok (.iload_n 1, 1) := by decide +kernel
theorem dX11_buy_52 : decode cX11_buy 52 = .ok (.iaload, 1) := by decide +kernel
theorem dX11_buy_53 : decode cX11_buy 53 = .ok (.if_icmp .ge 137, 3) := by decide +kernel
theorem dX11_buy_56 : decode cX11_buy 56 = .ok (.aload_n 0, 1) := by decide +kernel
theorem dX11_buy_57 : decode cX11_buy 57 = .ok (.getfield 13, 3) := by decide +kernel
theorem dX11_buy_60 : decode cX11_buy 60 = .ok (.iload 6, 2) := by decide +kernel
theorem dX11_buy_62 : decode cX11_buy 62 = .ok (.iaload, 1) := by decide +kernel
theorem dX11_buy_63 : decode cX11_buy 63 = .ok (.ifCond .le 127, 3) := by decide +kernel
theorem dX11_buy_66 : decode cX11_buy 66 = .ok (.aload_n 0, 1) := by decide +kernel
theorem dX11_buy_67 : decode cX11_buy 67 = .ok (.getfield 63, 3) := by decide +kernel
theorem dX11_buy_70 : decode cX11_buy 70 = .ok (.iload_n 1, 1) := by decide +kernel
theorem dX11_buy_71 : decode cX11_buy 71 = .ok (.iaload, 1) := by decide +kernel
theorem dX11_buy_72 : decode cX11_buy 72 = .ok (.aload_n 0, 1) := by decide +kernel
theorem dX11_buy_73 : decode cX11_buy 73 = .ok (.iload 6, 2) := by decide +kernel
theorem dX11_buy_75 : decode cX11_buy 75 = .ok (.aload_n 0, 1) := by decide +kernel
theorem dX11_buy_76 : decode cX11_buy 76 = .ok (.getfield 13, 3) := by decide +kernel
theorem dX11_buy_79 : decode cX11_buy 79 = .ok (.iload 6, 2) := by decide +kernel
theorem dX11_buy_81 : decode cX11_buy 81 = .ok (.iaload, 1) := by decide +kernel
theorem dX11_buy_82 : decode cX11_buy 82 = .ok (.invokevirtual 121, 3) := by decide +kernel
theorem dX11_buy_85 : decode cX11_buy 85 = .ok (.aload_n 0, 1) := by decide +kernel
theorem dX11_buy_86 : decode cX11_buy 86 = .ok (.getfield 32, 3) := by decide +kernel
theorem dX11_buy_89 : decode cX11_buy 89 = .ok (.iload 5, 2) := by decide +kernel
theorem dX11_buy_91 : decode cX11_buy 91 = .ok (.iaload, 1) := by decide +kernel
theorem dX11_buy_92 : decode cX11_buy 92 = .ok (.iadd, 1) := by decide +kernel
theorem dX11_buy_93 : decode cX11_buy 93 = .ok (.if_icmp .lt 97, 3) := by decide +kernel
theorem dX11_buy_96 : decode cX11_buy 96 = .ok (.aload_n 0, 1) := by decide +kernel
theorem dX11_buy_97 : decode cX11_buy 97 = .ok (.iload 6, 2) := by decide +kernel
theorem dX11_buy_99 : decode cX11_buy 99 = .ok (.aload_n 0, 1) := by decide +kernel
theorem dX11_buy_100 : decode cX11_buy 100 = .ok (.getfield 13, 3) := by decide +kernel
theorem dX11_buy_103 : decode cX11_buy 103 = .ok (.iload 6, 2) := by decide +kernel
theorem dX11_buy_105 : decode cX11_buy 105 = .ok (.iaload, 1) := by decide +kernel
theorem dX11_buy_106 : decode cX11_buy 106 = .ok (.invokevirtual 121, 3) := by decide +kernel
theorem dX11_buy_109 : decode cX11_buy 109 = .ok (.istore 8, 2) := by decide +kernel
theorem dX11_buy_111 : decode cX11_buy 111 = .ok (.aload_n 0, 1) := by decide +kernel
theorem dX11_buy_112 : decode cX11_buy 112 = .ok (.getfield 63, 3) := by decide +kernel
theorem dX11_buy_115 : decode cX11_buy 115 = .ok (.iload_n 1, 1) := by decide +kernel
theorem dX11_buy_116 : decode cX11_buy 116 = .ok (.dup2, 1) := by decide +kernel
theorem dX11_buy_117 : decode cX11_buy 117 = .ok (.iaload, 1) := by decide +kernel
theorem dX11_buy_118 : decode cX11_buy 118 = .ok (.iload 8, 2) := by decide +kernel
theorem dX11_buy_120 : decode cX11_buy 120 = .ok (.aload_n 0, 1) := by decide +kernel
theorem dX11_buy_121 : decode cX11_buy 121 = .ok (.getfield 32, 3) := by decide +kernel
theorem dX11_buy_124 : decode cX11_buy 124 = .ok (.iload 5, 2) := by decide +kernel
theorem dX11_buy_126 : decode cX11_buy 126 = .ok (.iaload, 1) := by decide +kernel
theorem dX11_buy_127 : decode cX11_buy 127 = .ok (.iadd, 1) := by decide +kernel
theorem dX11_buy_128 : decode cX11_buy 128 = .ok (.isub, 1) := by decide +kernel
theorem dX11_buy_129 : decode cX11_buy 129 = .ok (.iastore, 1) := by decide +kernel
theorem dX11_buy_130 : decode cX11_buy 130 = .ok (.aload_n 0, 1) := by decide +kernel
theorem dX11_buy_131 : decode cX11_buy 131 = .ok (.getfield 35, 3) := by decide +kernel
theorem dX11_buy_134 : decode cX11_buy 134 = .ok (.iload 5, 2) := by decide +kernel
theorem dX11_buy_136 : decode cX11_buy 136 = .ok (.dup2, 1) := by decide +kernel
theorem dX11_buy_137 : decode cX11_buy 137 = .ok (.iaload, 1) := by decide +kernel
theorem dX11_buy_138 : decode cX11_buy 138 = .ok (.aload_n 0, 1) := by decide +kernel
theorem dX11_buy_139 : decode cX11_buy 139 = .ok (.getfield 32, 3) := by decide +kernel
theorem dX11_buy_142 : decode cX11_buy 142 = .ok (.iload 5, 2) := by decide +kernel
theorem dX11_buy_144 : decode cX11_buy 144 = .ok (.iaload, 1) := by decide +kernel
theorem dX11_buy_145 : decode cX11_buy 145 = .ok (.iadd, 1) := by decide +kernel
theorem dX11_buy_146 : decode cX11_buy 146 = .ok (.iastore, 1) := by decide +kernel
theorem dX11_buy_147 : decode cX11_buy 147 = .ok (.aload_n 0, 1) := by decide +kernel
theorem dX11_buy_148 : decode cX11_buy 148 = .ok (.getfield 38, 3) := by decide +kernel
theorem dX11_buy_151 : decode cX11_buy 151 = .ok (.iload 5, 2) := by decide +kernel
theorem dX11_buy_153 : decode cX11_buy 153 = .ok (.dup2, 1) := by decide +kernel
theorem dX11_buy_154 : decode cX11_buy 154 = .ok (.iaload, 1) := by decide +kernel
theorem dX11_buy_155 : decode cX11_buy 155 = .ok (.iload 8, 2) := by decide +kernel
theorem dX11_buy_157 : decode cX11_buy 157 = .ok (.isub, 1) := by decide +kernel
theorem dX11_buy_158 : decode cX11_buy 158 = .ok (.iastore, 1) := by decide +kernel
theorem dX11_buy_159 : decode cX11_buy 159 = .ok (.aload_n 0, 1) := by decide +kernel
theorem dX11_buy_160 : decode cX11_buy 160 = .ok (.getfield 13, 3) := by decide +kernel
theorem dX11_buy_163 : decode cX11_buy 163 = .ok (.iload 6, 2) := by decide +kernel
theorem dX11_buy_165 : decode cX11_buy 165 = .ok (.dup2, 1) := by decide +kernel
theorem dX11_buy_166 : decode cX11_buy 166 = .ok (.iaload, 1) := by decide +kernel
theorem dX11_buy_167 : decode cX11_buy 167 = .ok (.iconst 1, 1) := by decide +kernel
theorem dX11_buy_168 : decode cX11_buy 168 = .ok (.isub, 1) := by decide +kernel
theorem dX11_buy_169 : decode cX11_buy 169 = .ok (.iastore, 1) := by decide +kernel
theorem dX11_buy_170 : decode cX11_buy 170 = .ok (.aload_n 0, 1) := by decide +kernel
theorem dX11_buy_171 : decode cX11_buy 171 = .ok (.getfield 66, 3) := by decide +kernel
theorem dX11_buy_174 : decode cX11_buy 174 = .ok (.iconst 3, 1) := by decide +kernel
theorem dX11_buy_175 : decode cX11_buy 175 = .ok (.iload_n 1, 1) := by decide +kernel
theorem dX11_buy_176 : decode cX11_buy 176 = .ok (.imul, 1) := by decide +kernel
theorem dX11_buy_177 : decode cX11_buy 177 = .ok (.iload_n 2, 1) := by decide +kernel
theorem dX11_buy_178 : decode cX11_buy 178 = .ok (.iadd, 1) := by decide +kernel
theorem dX11_buy_179 : decode cX11_buy 179 = .ok (.dup2, 1) := by decide +kernel
theorem dX11_buy_180 : decode cX11_buy 180 = .ok (.iaload, 1) := by decide +kernel
theorem dX11_buy_181 : decode cX11_buy 181 = .ok (.iconst 1, 1) := by decide +kernel
theorem dX11_buy_182 : decode cX11_buy 182 = .ok (.iadd, 1) := by decide +kernel
theorem dX11_buy_183 : decode cX11_buy 183 = .ok (.iastore, 1) := by decide +kernel
theorem dX11_buy_184 : decode cX11_buy 184 = .ok (.iinc 7 1, 3) := by decide +kernel
theorem dX11_buy_187 : decode cX11_buy 187 = .ok (.goto (-151), 3) := by decide +kernel
theorem dX11_buy_190 : decode cX11_buy 190 = .ok (.iload 7, 2) := by decide +kernel
theorem dX11_buy_192 : decode cX11_buy 192 = .ok (.ireturn, 1) := by decide +kernel
theorem dX11_gainWith_0 : decode cX11_gainWith 0 = .ok (.aload_n 0, 1) := by decide +kernel
theorem dX11_gainWith_1 : decode cX11_gainWith 1 = .ok (.iload_n 1, 1) := by decide +kernel
theorem dX11_gainWith_2 : decode cX11_gainWith 2 = .ok (.iload_n 2, 1) := by decide +kernel
theorem dX11_gainWith_3 : decode cX11_gainWith 3 = .ok (.iconst 1, 1) := by decide +kernel
theorem dX11_gainWith_4 : decode cX11_gainWith 4 = .ok (.iadd, 1) := by decide +kernel
theorem dX11_gainWith_5 : decode cX11_gainWith 5 = .ok (.invokevirtual 121, 3) := by decide +kernel
theorem dX11_gainWith_8 : decode cX11_gainWith 8 = .ok (.istore_n 3, 1) := by decide +kernel
theorem dX11_gainWith_9 : decode cX11_gainWith 9 = .ok (.aload_n 0, 1) := by decide +kernel
theorem dX11_gainWith_10 : decode cX11_gainWith 10 = .ok (.getfield 32, 3) := by decide +kernel
theorem dX11_gainWith_13 : decode cX11_gainWith 13 = .ok (.iload_n 1, 1) := by decide +kernel
theorem dX11_gainWith_14 : decode cX11_gainWith 14 = .ok (.iconst 3, 1) := by decide +kernel
theorem dX11_gainWith_15 : decode cX11_gainWith 15 = .ok (.idiv, 1) := by decide +kernel
theorem dX11_gainWith_16 : decode cX11_gainWith 16 = .ok (.iaload, 1) := by decide +kernel
theorem dX11_gainWith_17 : decode cX11_gainWith 17 = .ok (.istore 4, 2) := by decide +kernel
theorem dX11_gainWith_19 : decode cX11_gainWith 19 = .ok (.iload_n 3, 1) := by decide +kernel
theorem dX11_gainWith_20 : decode cX11_gainWith 20 = .ok (.iload 4, 2) := by decide +kernel
theorem dX11_gainWith_22 : decode cX11_gainWith 22 = .ok (.if_icmp .ge 7, 3) := by decide +kernel
theorem dX11_gainWith_25 : decode cX11_gainWith 25 = .ok (.iconst 0, 1) := by decide +kernel
theorem dX11_gainWith_26 : decode cX11_gainWith 26 = .ok (.goto 7, 3) := by decide +kernel
theorem dX11_gainWith_29 : decode cX11_gainWith 29 = .ok (.iload_n 3, 1) := by decide +kernel
theorem dX11_gainWith_30 : decode cX11_gainWith 30 = .ok (.iload 4, 2) := by decide +kernel
theorem dX11_gainWith_32 : decode cX11_gainWith 32 = .ok (.isub, 1) := by decide +kernel
theorem dX11_gainWith_33 : decode cX11_gainWith 33 = .ok (.ireturn, 1) := by decide +kernel
theorem dX11_sell_0 : decode cX11_sell 0 = .ok (.aload_n 0, 1) := by decide +kernel
theorem dX11_sell_1 : decode cX11_sell 1 = .ok (.iload_n 1, 1) := by decide +kernel
theorem dX11_sell_2 : decode cX11_sell 2 = .ok (.iload_n 2, 1) := by decide +kernel
theorem dX11_sell_3 : decode cX11_sell 3 = .ok (.iload_n 3, 1) := by decide +kernel
theorem dX11_sell_4 : decode cX11_sell 4 = .ok (.invokevirtual 166, 3) := by decide +kernel
theorem dX11_sell_7 : decode cX11_sell 7 = .ok (.istore 4, 2) := by decide +kernel
theorem dX11_sell_9 : decode cX11_sell 9 = .ok (.iload 4, 2) := by decide +kernel
theorem dX11_sell_11 : decode cX11_sell 11 = .ok (.ifCond .ge 6, 3) := by decide +kernel
theorem dX11_sell_14 : decode cX11_sell 14 = .ok (.iload 4, 2) := by decide +kernel
theorem dX11_sell_16 : decode cX11_sell 16 = .ok (.ireturn, 1) := by decide +kernel
theorem dX11_sell_17 : decode cX11_sell 17 = .ok (.aload_n 0, 1) := by decide +kernel
theorem dX11_sell_18 : decode cX11_sell 18 = .ok (.getfield 57, 3) := by decide +kernel
theorem dX11_sell_21 : decode cX11_sell 21 = .ok (.iload_n 1, 1) := by decide +kernel
theorem dX11_sell_22 : decode cX11_sell 22 = .ok (.iaload, 1) := by decide +kernel
theorem dX11_sell_23 : decode cX11_sell 23 = .ok (.istore 5, 2) := by decide +kernel
theorem dX11_sell_25 : decode cX11_sell 25 = .ok (.iconst 3, 1) := by decide +kernel
theorem dX11_sell_26 : decode cX11_sell 26 = .ok (.iload 5, 2) := by decide +kernel
theorem dX11_sell_28 : decode cX11_sell 28 = .ok (.imul, 1) := by decide +kernel
theorem dX11_sell_29 : decode cX11_sell 29 = .ok (.iload_n 2, 1) := by decide +kernel
theorem dX11_sell_30 : decode cX11_sell 30 = .ok (.iadd, 1) := by decide +kernel
theorem dX11_sell_31 : decode cX11_sell 31 = .ok (.istore 6, 2) := by decide +kernel
theorem dX11_sell_33 : decode cX11_sell 33 = .ok (.iconst 0, 1) := by decide +kernel
theorem dX11_sell_34 : decode cX11_sell 34 = .ok (.istore 7, 2) := by decide +kernel
theorem dX11_sell_36 : decode cX11_sell 36 = .ok (.iload 7, 2) := by decide +kernel
theorem dX11_sell_38 : decode cX11_sell 38 = .ok (.iload_n 3, 1) := by decide +kernel
theorem dX11_sell_39 : decode cX11_sell 39 = .ok (.if_icmp .ge 155, 3) := by decide +kernel
theorem dX11_sell_42 : decode cX11_sell 42 = .ok (.aload_n 0, 1) := by decide +kernel
theorem dX11_sell_43 : decode cX11_sell 43 = .ok (.getfield 66, 3) := by decide +kernel
theorem dX11_sell_46 : decode cX11_sell 46 = .ok (.iconst 3, 1) := by decide +kernel
theorem dX11_sell_47 : decode cX11_sell 47 = .ok (.iload_n 1, 1) := by decide +kernel
theorem dX11_sell_48 : decode cX11_sell 48 = .ok (.imul, 1) := by decide +kernel
theorem dX11_sell_49 : decode cX11_sell 49 = .ok (.iload_n 2, 1) := by decide +kernel
theorem dX11_sell_50 : decode cX11_sell 50 = .ok (.iadd, 1) := by decide +kernel
theorem dX11_sell_51 : decode cX11_sell 51 = .ok (.iaload, 1) := by decide +kernel
theorem dX11_sell_52 : decode cX11_sell 52 = .ok (.ifCond .le 142, 3) := by decide +kernel
theorem dX11_sell_55 : decode cX11_sell 55 = .ok (.aload_n 0, 1) := by decide +kernel
theorem dX11_sell_56 : decode cX11_sell 56 = .ok (.getfield 13, 3) := by decide +kernel
theorem dX11_sell_59 : decode cX11_sell 59 = .ok (.iload 6, 2) := by decide +kernel
theorem dX11_sell_61 : decode cX11_sell 61 = .ok (.iaload, 1) := by decide +kernel
theorem dX11_sell_62 : decode cX11_sell 62 = .ok (.sipush 1000, 3) := by decide +kernel
theorem dX11_sell_65 : decode cX11_sell 65 = .ok (.if_icmp .ge 129, 3) := by decide +kernel
theorem dX11_sell_68 : decode cX11_sell 68 = .ok (.aload_n 0, 1) := by decide +kernel
theorem dX11_sell_69 : decode cX11_sell 69 = .ok (.getfield 63, 3) := by decide +kernel
theorem dX11_sell_72 : decode cX11_sell 72 = .ok (.iload_n 1, 1) := by decide +kernel
theorem dX11_sell_73 : decode cX11_sell 73 = .ok (.iaload, 1) := by decide +kernel
theorem dX11_sell_74 : decode cX11_sell 74 = .ok (.aload_n 0, 1) := by decide +kernel
theorem dX11_sell_75 : decode cX11_sell 75 = .ok (.iload 6, 2) := by decide +kernel
theorem dX11_sell_77 : decode cX11_sell 77 = .ok (.aload_n 0, 1) := by decide +kernel
theorem dX11_sell_78 : decode cX11_sell 78 = .ok (.getfield 13, 3) := by decide +kernel
theorem dX11_sell_81 : decode cX11_sell 81 = .ok (.iload 6, 2) := by decide +kernel
theorem dX11_sell_83 : decode cX11_sell 83 = .ok (.iaload, 1) := by decide +kernel
theorem dX11_sell_84 : decode cX11_sell 84 = .ok (.invokevirtual 173, 3) := by decide +kernel
theorem dX11_sell_87 : decode cX11_sell 87 = .ok (.iadd, 1) := by decide +kernel
theorem dX11_sell_88 : decode cX11_sell 88 = .ok (.ldc 176, 2) := by decide +kernel
theorem dX11_sell_90 : decode cX11_sell 90 = .ok (.if_icmp .gt 104, 3) := by decide +kernel
theorem dX11_sell_93 : decode cX11_sell 93 = .ok (.aload_n 0, 1) := by decide +kernel
theorem dX11_sell_94 : decode cX11_sell 94 = .ok (.iload 6, 2) := by decide +kernel
theorem dX11_sell_96 : decode cX11_sell 96 = .ok (.aload_n 0, 1) := by decide +kernel
theorem dX11_sell_97 : decode cX11_sell 97 = .ok (.getfield 13, 3) := by decide +kernel
theorem dX11_sell_100 : decode cX11_sell 100 = .ok (.iload 6, 2) := by decide +kernel
theorem dX11_sell_102 : decode cX11_sell 102 = .ok (.iaload, 1) := by decide +kernel
theorem dX11_sell_103 : decode cX11_sell 103 = .ok (.iconst 1, 1) := by decide +kernel
theorem dX11_sell_104 : decode cX11_sell 104 = .ok (.iadd, 1) := by decide +kernel
theorem dX11_sell_105 : decode cX11_sell 105 = .ok (.invokevirtual 121, 3) := by decide +kernel
theorem dX11_sell_108 : decode cX11_sell 108 = .ok (.istore 8, 2) := by decide +kernel
theorem dX11_sell_110 : decode cX11_sell 110 = .ok (.aload_n 0, 1) := by decide +kernel
theorem dX11_sell_111 : decode cX11_sell 111 = .ok (.iload 6, 2) := by decide +kernel
theorem dX11_sell_113 : decode cX11_sell 113 = .ok (.aload_n 0, 1) := by decide +kernel
theorem dX11_sell_114 : decode cX11_sell 114 = .ok (.getfield 13, 3) := by decide +kernel
theorem dX11_sell_117 : decode cX11_sell 117 = .ok (.iload 6, 2) := by decide +kernel
theorem dX11_sell_119 : decode cX11_sell 119 = .ok (.iaload, 1) := by decide +kernel
theorem dX11_sell_120 : decode cX11_sell 120 = .ok (.invokevirtual 173, 3) := by decide +kernel
theorem dX11_sell_123 : decode cX11_sell 123 = .ok (.istore 9, 2) := by decide +kernel
theorem dX11_sell_125 : decode cX11_sell 125 = .ok (.aload_n 0, 1) := by decide +kernel
theorem dX11_sell_126 : decode cX11_sell 126 = .ok (.getfield 63, 3) := by decide +kernel
theorem dX11_sell_129 : decode cX11_sell 129 = .ok (.iload_n 1, 1) := by decide +kernel
theorem dX11_sell_130 : decode cX11_sell 130 = .ok (.dup2, 1) := by decide +kernel
theorem dX11_sell_131 : decode cX11_sell 131 = .ok (.iaload, 1) := by decide +kernel
theorem dX11_sell_132 : decode cX11_sell 132 = .ok (.iload 9, 2) := by decide +kernel
theorem dX11_sell_134 : decode cX11_sell 134 = .ok (.iadd, 1) := by decide +kernel
theorem dX11_sell_135 : decode cX11_sell 135 = .ok (.iastore, 1) := by decide +kernel
theorem dX11_sell_136 : decode cX11_sell 136 = .ok (.aload_n 0, 1) := by decide +kernel
theorem dX11_sell_137 : decode cX11_sell 137 = .ok (.getfield 35, 3) := by decide +kernel
theorem dX11_sell_140 : decode cX11_sell 140 = .ok (.iload 5, 2) := by decide +kernel
theorem dX11_sell_142 : decode cX11_sell 142 = .ok (.dup2, 1) := by decide +kernel
theorem dX11_sell_143 : decode cX11_sell 143 = .ok (.iaload, 1) := by decide +kernel
theorem dX11_sell_144 : decode cX11_sell 144 = .ok (.iload 8, 2) := by decide +kernel
theorem dX11_sell_146 : decode cX11_sell 146 = .ok (.iload 9, 2) := by decide +kernel
theorem dX11_sell_148 : decode cX11_sell 148 = .ok (.isub, 1) := by decide +kernel
theorem dX11_sell_149 : decode cX11_sell 149 = .ok (.iadd, 1) := by decide +kernel
theorem dX11_sell_150 : decode cX11_sell 150 = .ok (.iastore, 1) := by decide +kernel
theorem dX11_sell_151 : decode cX11_sell 151 = .ok (.aload_n 0, 1) := by decide +kernel
theorem dX11_sell_152 : decode cX11_sell 152 = .ok (.getfield 38, 3) := by decide +kernel
theorem dX11_sell_155 : decode cX11_sell 155 = .ok (.iload 5, 2) := by decide +kernel
theorem dX11_sell_157 : decode cX11_sell 157 = .ok (.dup2, 1) := by decide +kernel
theorem dX11_sell_158 : decode cX11_sell 158 = .ok (.iaload, 1) := by decide +kernel
theorem dX11_sell_159 : decode cX11_sell 159 = .ok (.iload 8, 2) := by decide +kernel
theorem dX11_sell_161 : decode cX11_sell 161 = .ok (.iadd, 1) := by decide +kernel
theorem dX11_sell_162 : decode cX11_sell 162 = .ok (.iastore, 1) := by decide +kernel
theorem dX11_sell_163 : decode cX11_sell 163 = .ok (.aload_n 0, 1) := by decide +kernel
theorem dX11_sell_164 : decode cX11_sell 164 = .ok (.getfield 13, 3) := by decide +kernel
theorem dX11_sell_167 : decode cX11_sell 167 = .ok (.iload 6, 2) := by decide +kernel
theorem dX11_sell_169 : decode cX11_sell 169 = .ok (.dup2, 1) := by decide +kernel
theorem dX11_sell_170 : decode cX11_sell 170 = .ok (.iaload, 1) := by decide +kernel
