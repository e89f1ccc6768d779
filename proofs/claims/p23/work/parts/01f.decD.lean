theorem dX4_protect_0 : decode cX4_protect 0 = .ok (.iload_n 1, 1) := by decide +kernel
theorem dX4_protect_1 : decode cX4_protect 1 = .ok (.ifCond .lt 21, 3) := by decide +kernel
theorem dX4_protect_4 : decode cX4_protect 4 = .ok (.iload_n 2, 1) := by decide +kernel
theorem dX4_protect_5 : decode cX4_protect 5 = .ok (.ifCond .lt 17, 3) := by decide +kernel
theorem dX4_protect_8 : decode cX4_protect 8 = .ok (.iload_n 1, 1) := by decide +kernel
theorem dX4_protect_9 : decode cX4_protect 9 = .ok (.sipush 8192, 3) := by decide +kernel
theorem dX4_protect_12 : decode cX4_protect 12 = .ok (.if_icmp .gt 10, 3) := by decide +kernel
theorem dX4_protect_15 : decode cX4_protect 15 = .ok (.iload_n 2, 1) := by decide +kernel
theorem dX4_protect_16 : decode cX4_protect 16 = .ok (.sipush 8192, 3) := by decide +kernel
theorem dX4_protect_19 : decode cX4_protect 19 = .ok (.if_icmp .le 6, 3) := by decide +kernel
theorem dX4_protect_22 : decode cX4_protect 22 = .ok (.bipush (-11), 2) := by decide +kernel
theorem dX4_protect_24 : decode cX4_protect 24 = .ok (.ireturn, 1) := by decide +kernel
theorem dX4_protect_25 : decode cX4_protect 25 = .ok (.aload_n 0, 1) := by decide +kernel
theorem dX4_protect_26 : decode cX4_protect 26 = .ok (.iload_n 2, 1) := by decide +kernel
theorem dX4_protect_27 : decode cX4_protect 27 = .ok (.ifCond .ne 7, 3) := by decide +kernel
theorem dX4_protect_30 : decode cX4_protect 30 = .ok (.iconst 0, 1) := by decide +kernel
theorem dX4_protect_31 : decode cX4_protect 31 = .ok (.goto 4, 3) := by decide +kernel
theorem dX4_protect_34 : decode cX4_protect 34 = .ok (.iload_n 1, 1) := by decide +kernel
theorem dX4_protect_35 : decode cX4_protect 35 = .ok (.putfield 115, 3) := by decide +kernel
theorem dX4_protect_38 : decode cX4_protect 38 = .ok (.aload_n 0, 1) := by decide +kernel
theorem dX4_protect_39 : decode cX4_protect 39 = .ok (.iload_n 2, 1) := by decide +kernel
theorem dX4_protect_40 : decode cX4_protect 40 = .ok (.putfield 118, 3) := by decide +kernel
theorem dX4_protect_43 : decode cX4_protect 43 = .ok (.iconst 1, 1) := by decide +kernel
theorem dX4_protect_44 : decode cX4_protect 44 = .ok (.ireturn, 1) := by decide +kernel
theorem dX4_keep_0 : decode cX4_keep 0 = .ok (.aload_n 0, 1) := by decide +kernel
theorem dX4_keep_1 : decode cX4_keep 1 = .ok (.getfield 121, 3) := by decide +kernel
theorem dX4_keep_4 : decode cX4_keep 4 = .ok (.iconst 4, 1) := by decide +kernel
theorem dX4_keep_5 : decode cX4_keep 5 = .ok (.if_icmp .ne 6, 3) := by decide +kernel
theorem dX4_keep_8 : decode cX4_keep 8 = .ok (.bipush (-15), 2) := by decide +kernel
theorem dX4_keep_10 : decode cX4_keep 10 = .ok (.ireturn, 1) := by decide +kernel
theorem dX4_keep_11 : decode cX4_keep 11 = .ok (.iconst 0, 1) := by decide +kernel
theorem dX4_keep_12 : decode cX4_keep 12 = .ok (.istore_n 1, 1) := by decide +kernel
theorem dX4_keep_13 : decode cX4_keep 13 = .ok (.iload_n 1, 1) := by decide +kernel
theorem dX4_keep_14 : decode cX4_keep 14 = .ok (.sipush 8192, 3) := by decide +kernel
theorem dX4_keep_17 : decode cX4_keep 17 = .ok (.if_icmp .ge 42, 3) := by decide +kernel
theorem dX4_keep_20 : decode cX4_keep 20 = .ok (.aload_n 0, 1) := by decide +kernel
theorem dX4_keep_21 : decode cX4_keep 21 = .ok (.getfield 20, 3) := by decide +kernel
theorem dX4_keep_24 : decode cX4_keep 24 = .ok (.sipush 8192, 3) := by decide +kernel
theorem dX4_keep_27 : decode cX4_keep 27 = .ok (.aload_n 0, 1) := by decide +kernel
theorem dX4_keep_28 : decode cX4_keep 28 = .ok (.getfield 121, 3) := by decide +kernel
theorem dX4_keep_31 : decode cX4_keep 31 = .ok (.imul, 1) := by decide +kernel
theorem dX4_keep_32 : decode cX4_keep 32 = .ok (.iload_n 1, 1) := by decide +kernel
theorem dX4_keep_33 : decode cX4_keep 33 = .ok (.iadd, 1) := by decide +kernel
theorem dX4_keep_34 : decode cX4_keep 34 = .ok (.iload_n 1, 1) := by decide +kernel
theorem dX4_keep_35 : decode cX4_keep 35 = .ok (.aload_n 0, 1) := by decide +kernel
theorem dX4_keep_36 : decode cX4_keep 36 = .ok (.getfield 44, 3) := by decide +kernel
theorem dX4_keep_39 : decode cX4_keep 39 = .ok (.if_icmp .ge 12, 3) := by decide +kernel
theorem dX4_keep_42 : decode cX4_keep 42 = .ok (.aload_n 0, 1) := by decide +kernel
theorem dX4_keep_43 : decode cX4_keep 43 = .ok (.getfield 7, 3) := by decide +kernel
theorem dX4_keep_46 : decode cX4_keep 46 = .ok (.iload_n 1, 1) := by decide +kernel
theorem dX4_keep_47 : decode cX4_keep 47 = .ok (.iaload, 1) := by decide +kernel
theorem dX4_keep_48 : decode cX4_keep 48 = .ok (.goto 4, 3) := by decide +kernel
theorem dX4_keep_51 : decode cX4_keep 51 = .ok (.iconst 0, 1) := by decide +kernel
theorem dX4_keep_52 : decode cX4_keep 52 = .ok (.iastore, 1) := by decide +kernel
theorem dX4_keep_53 : decode cX4_keep 53 = .ok (.iinc 1 1, 3) := by decide +kernel
theorem dX4_keep_56 : decode cX4_keep 56 = .ok (.goto (-43), 3) := by decide +kernel
theorem dX4_keep_59 : decode cX4_keep 59 = .ok (.aload_n 0, 1) := by decide +kernel
theorem dX4_keep_60 : decode cX4_keep 60 = .ok (.getfield 23, 3) := by decide +kernel
theorem dX4_keep_63 : decode cX4_keep 63 = .ok (.aload_n 0, 1) := by decide +kernel
theorem dX4_keep_64 : decode cX4_keep 64 = .ok (.getfield 121, 3) := by decide +kernel
theorem dX4_keep_67 : decode cX4_keep 67 = .ok (.aload_n 0, 1) := by decide +kernel
theorem dX4_keep_68 : decode cX4_keep 68 = .ok (.getfield 44, 3) := by decide +kernel
theorem dX4_keep_71 : decode cX4_keep 71 = .ok (.iastore, 1) := by decide +kernel
theorem dX4_keep_72 : decode cX4_keep 72 = .ok (.aload_n 0, 1) := by decide +kernel
theorem dX4_keep_73 : decode cX4_keep 73 = .ok (.getfield 26, 3) := by decide +kernel
theorem dX4_keep_76 : decode cX4_keep 76 = .ok (.aload_n 0, 1) := by decide +kernel
theorem dX4_keep_77 : decode cX4_keep 77 = .ok (.getfield 121, 3) := by decide +kernel
theorem dX4_keep_80 : decode cX4_keep 80 = .ok (.aload_n 0, 1) := by decide +kernel
theorem dX4_keep_81 : decode cX4_keep 81 = .ok (.getfield 78, 3) := by decide +kernel
theorem dX4_keep_84 : decode cX4_keep 84 = .ok (.iastore, 1) := by decide +kernel
theorem dX4_keep_85 : decode cX4_keep 85 = .ok (.aload_n 0, 1) := by decide +kernel
theorem dX4_keep_86 : decode cX4_keep 86 = .ok (.getfield 29, 3) := by decide +kernel
theorem dX4_keep_89 : decode cX4_keep 89 = .ok (.aload_n 0, 1) := by decide +kernel
theorem dX4_keep_90 : decode cX4_keep 90 = .ok (.getfield 121, 3) := by decide +kernel
theorem dX4_keep_93 : decode cX4_keep 93 = .ok (.aload_n 0, 1) := by decide +kernel
theorem dX4_keep_94 : decode cX4_keep 94 = .ok (.getfield 71, 3) := by decide +kernel
theorem dX4_keep_97 : decode cX4_keep 97 = .ok (.iastore, 1) := by decide +kernel
theorem dX4_keep_98 : decode cX4_keep 98 = .ok (.iconst 0, 1) := by decide +kernel
theorem dX4_keep_99 : decode cX4_keep 99 = .ok (.istore_n 1, 1) := by decide +kernel
theorem dX4_keep_100 : decode cX4_keep 100 = .ok (.iload_n 1, 1) := by decide +kernel
theorem dX4_keep_101 : decode cX4_keep 101 = .ok (.aload_n 0, 1) := by decide +kernel
theorem dX4_keep_102 : decode cX4_keep 102 = .ok (.getfield 71, 3) := by decide +kernel
theorem dX4_keep_105 : decode cX4_keep 105 = .ok (.if_icmp .ge 49, 3) := by decide +kernel
theorem dX4_keep_108 : decode cX4_keep 108 = .ok (.aload_n 0, 1) := by decide +kernel
theorem dX4_keep_109 : decode cX4_keep 109 = .ok (.getfield 32, 3) := by decide +kernel
theorem dX4_keep_112 : decode cX4_keep 112 = .ok (.bipush 64, 2) := by decide +kernel
theorem dX4_keep_114 : decode cX4_keep 114 = .ok (.aload_n 0, 1) := by decide +kernel
theorem dX4_keep_115 : decode cX4_keep 115 = .ok (.getfield 121, 3) := by decide +kernel
theorem dX4_keep_118 : decode cX4_keep 118 = .ok (.imul, 1) := by decide +kernel
theorem dX4_keep_119 : decode cX4_keep 119 = .ok (.iload_n 1, 1) := by decide +kernel
theorem dX4_keep_120 : decode cX4_keep 120 = .ok (.iadd, 1) := by decide +kernel
theorem dX4_keep_121 : decode cX4_keep 121 = .ok (.aload_n 0, 1) := by decide +kernel
theorem dX4_keep_122 : decode cX4_keep 122 = .ok (.getfield 13, 3) := by decide +kernel
theorem dX4_keep_125 : decode cX4_keep 125 = .ok (.iload_n 1, 1) := by decide +kernel
theorem dX4_keep_126 : decode cX4_keep 126 = .ok (.iaload, 1) := by decide +kernel
theorem dX4_keep_127 : decode cX4_keep 127 = .ok (.iastore, 1) := by decide +kernel
theorem dX4_keep_128 : decode cX4_keep 128 = .ok (.aload_n 0, 1) := by decide +kernel
theorem dX4_keep_129 : decode cX4_keep 129 = .ok (.getfield 35, 3) := by decide +kernel
theorem dX4_keep_132 : decode cX4_keep 132 = .ok (.bipush 64, 2) := by decide +kernel
theorem dX4_keep_134 : decode cX4_keep 134 = .ok (.aload_n 0, 1) := by decide +kernel
theorem dX4_keep_135 : decode cX4_keep 135 = .ok (.getfield 121, 3) := by decide +kernel
theorem dX4_keep_138 : decode cX4_keep 138 = .ok (.imul, 1) := by decide +kernel
theorem dX4_keep_139 : decode cX4_keep 139 = .ok (.iload_n 1, 1) := by decide +kernel
theorem dX4_keep_140 : decode cX4_keep 140 = .ok (.iadd, 1) := by decide +kernel
theorem dX4_keep_141 : decode cX4_keep 141 = .ok (.aload_n 0, 1) := by decide +kernel
theorem dX4_keep_142 : decode cX4_keep 142 = .ok (.getfield 16, 3) := by decide +kernel
theorem dX4_keep_145 : decode cX4_keep 145 = .ok (.iload_n 1, 1) := by decide +kernel
theorem dX4_keep_146 : decode cX4_keep 146 = .ok (.iaload, 1) := by decide +kernel
theorem dX4_keep_147 : decode cX4_keep 147 = .ok (.iastore, 1) := by decide +kernel
theorem dX4_keep_148 : decode cX4_keep 148 = .ok (.iinc 1 1, 3) := by decide +kernel
theorem dX4_keep_151 : decode cX4_keep 151 = .ok (.goto (-51), 3) := by decide +kernel
theorem dX4_keep_154 : decode cX4_keep 154 = .ok (.aload_n 0, 1) := by decide +kernel
theorem dX4_keep_155 : decode cX4_keep 155 = .ok (.dup, 1) := by decide +kernel
theorem dX4_keep_156 : decode cX4_keep 156 = .ok (.getfield 121, 3) := by decide +kernel
theorem dX4_keep_159 : decode cX4_keep 159 = .ok (.iconst 1, 1) := by decide +kernel
theorem dX4_keep_160 : decode cX4_keep 160 = .ok (.iadd, 1) := by decide +kernel
theorem dX4_keep_161 : decode cX4_keep 161 = .ok (.putfield 121, 3) := by decide +kernel
theorem dX4_keep_164 : decode cX4_keep 164 = .ok (.aload_n 0, 1) := by decide +kernel
theorem dX4_keep_165 : decode cX4_keep 165 = .ok (.getfield 121, 3) := by decide +kernel
theorem dX4_keep_168 : decode cX4_keep 168 = .ok (.ireturn, 1) := by decide +kernel
theorem dX4_come_0 : decode cX4_come 0 = .ok (.aload_n 0, 1) := by decide +kernel
theorem dX4_come_1 : decode cX4_come 1 = .ok (.getfield 44, 3) := by decide +kernel
theorem dX4_come_4 : decode cX4_come 4 = .ok (.aload_n 0, 1) := by decide +kernel
theorem dX4_come_5 : decode cX4_come 5 = .ok (.getfield 23, 3) := by decide +kernel
theorem dX4_come_8 : decode cX4_come 8 = .ok (.iload_n 1, 1) := by decide +kernel
theorem dX4_come_9 : decode cX4_come 9 = .ok (.iaload, 1) := by decide +kernel
theorem dX4_come_10 : decode cX4_come 10 = .ok (.if_icmp .ge 10, 3) := by decide +kernel
theorem dX4_come_13 : decode cX4_come 13 = .ok (.aload_n 0, 1) := by decide +kernel
theorem dX4_come_14 : decode cX4_come 14 = .ok (.getfield 44, 3) := by decide +kernel
theorem dX4_come_17 : decode cX4_come 17 = .ok (.goto 9, 3) := by decide +kernel
theorem dX4_come_20 : decode cX4_come 20 = .ok (.aload_n 0, 1) := by decide +kernel
theorem dX4_come_21 : decode cX4_come 21 = .ok (.getfield 23, 3) := by decide +kernel
theorem dX4_come_24 : decode cX4_come 24 = .ok (.iload_n 1, 1) := by decide +kernel
theorem dX4_come_25 : decode cX4_come 25 = .ok (.iaload, 1) := by decide +kernel
theorem dX4_come_26 : decode cX4_come 26 = .ok (.istore_n 2, 1) := by decide +kernel
theorem dX4_come_27 : decode cX4_come 27 = .ok (.iconst 0, 1) := by decide +kernel
theorem dX4_come_28 : decode cX4_come 28 = .ok (.istore_n 3, 1) := by decide +kernel
theorem dX4_come_29 : decode cX4_come 29 = .ok (.iload_n 3, 1) := by decide +kernel
theorem dX4_come_30 : decode cX4_come 30 = .ok (.sipush 8192, 3) := by decide +kernel
theorem dX4_come_33 : decode cX4_come 33 = .ok (.if_icmp .ge 74, 3) := by decide +kernel
theorem dX4_come_36 : decode cX4_come 36 = .ok (.iload_n 3, 1) := by decide +kernel
theorem dX4_come_37 : decode cX4_come 37 = .ok (.aload_n 0, 1) := by decide +kernel
theorem dX4_come_38 : decode cX4_come 38 = .ok (.getfield 115, 3) := by decide +kernel
theorem dX4_come_41 : decode cX4_come 41 = .ok (.if_icmp .lt 25, 3) := by decide +kernel
theorem dX4_come_44 : decode cX4_come 44 = .ok (.iload_n 3, 1) := by decide +kernel
theorem dX4_come_45 : decode cX4_come 45 = .ok (.aload_n 0, 1) := by decide +kernel
theorem dX4_come_46 : decode cX4_come 46 = .ok (.getfield 115, 3) := by decide +kernel
theorem dX4_come_49 : decode cX4_come 49 = .ok (.aload_n 0, 1) := by decide +kernel
theorem dX4_come_50 : decode cX4_come 50 = .ok (.getfield 118, 3) := by decide +kernel
theorem dX4_come_53 : decode cX4_come 53 = .ok (.iadd, 1) := by decide +kernel
theorem dX4_come_54 : decode cX4_come 54 = .ok (.if_icmp .ge 12, 3) := by decide +kernel
theorem dX4_come_57 : decode cX4_come 57 = .ok (.iload_n 3, 1) := by decide +kernel
theorem dX4_come_58 : decode cX4_come 58 = .ok (.iload_n 2, 1) := by decide +kernel
theorem dX4_come_59 : decode cX4_come 59 = .ok (.if_icmp .ge 7, 3) := by decide +kernel
theorem dX4_come_62 : decode cX4_come 62 = .ok (.iconst 1, 1) := by decide +kernel
theorem dX4_come_63 : decode cX4_come 63 = .ok (.goto 4, 3) := by decide +kernel
theorem dX4_come_66 : decode cX4_come 66 = .ok (.iconst 0, 1) := by decide +kernel
theorem dX4_come_67 : decode cX4_come 67 = .ok (.istore 4, 2) := by decide +kernel
theorem dX4_come_69 : decode cX4_come 69 = .ok (.aload_n 0, 1) := by decide +kernel
theorem dX4_come_70 : decode cX4_come 70 = .ok (.getfield 7, 3) := by decide +kernel
theorem dX4_come_73 : decode cX4_come 73 = .ok (.iload_n 3, 1) := by decide +kernel
theorem dX4_come_74 : decode cX4_come 74 = .ok (.iload 4, 2) := by decide +kernel
theorem dX4_come_76 : decode cX4_come 76 = .ok (.ifCond .eq 12, 3) := by decide +kernel
theorem dX4_come_79 : decode cX4_come 79 = .ok (.aload_n 0, 1) := by decide +kernel
theorem dX4_come_80 : decode cX4_come 80 = .ok (.getfield 7, 3) := by decide +kernel
theorem dX4_come_83 : decode cX4_come 83 = .ok (.iload_n 3, 1) := by decide +kernel
theorem dX4_come_84 : decode cX4_come 84 = .ok (.iaload, 1) := by decide +kernel
theorem dX4_come_85 : decode cX4_come 85 = .ok (.goto 15, 3) := by decide +kernel
theorem dX4_come_88 : decode cX4_come 88 = .ok (.aload_n 0, 1) := by decide +kernel
theorem dX4_come_89 : decode cX4_come 89 = .ok (.getfield 20, 3) := by decide +kernel
theorem dX4_come_92 : decode cX4_come 92 = .ok (.sipush 8192, 3) := by decide +kernel
theorem dX4_come_95 : decode cX4_come 95 = .ok (.iload_n 1, 1) := by decide +kernel
theorem dX4_come_96 : decode cX4_come 96 = .ok (.imul, 1) := by decide +kernel
theorem dX4_come_97 : decode cX4_come 97 = .ok (.iload_n 3, 1) := by decide +kernel
theorem dX4_come_98 : decode cX4_come 98 = .ok (.iadd, 1) := by decide +kernel
theorem dX4_come_99 : decode cX4_come 99 = .ok (.iaload, 1) := by decide +kernel
theorem dX4_come_100 : decode cX4_come 100 = .ok (.iastore, 1) := by decide +kernel
theorem dX4_come_101 : decode cX4_come 101 = .ok (.iinc 3 1, 3) := by decide +kernel
theorem dX4_come_104 : decode cX4_come 104 = .ok (.goto (-75), 3) := by decide +kernel
theorem dX4_come_107 : decode cX4_come 107 = .ok (.aload_n 0, 1) := by decide +kernel
theorem dX4_come_108 : decode cX4_come 108 = .ok (.aload_n 0, 1) := by decide +kernel
theorem dX4_come_109 : decode cX4_come 109 = .ok (.getfield 23, 3) := by decide +kernel
theorem dX4_come_112 : decode cX4_come 112 = .ok (.iload_n 1, 1) := by decide +kernel
theorem dX4_come_113 : decode cX4_come 113 = .ok (.iaload, 1) := by decide +kernel
theorem dX4_come_114 : decode cX4_come 114 = .ok (.putfield 44, 3) := by decide +kernel
theorem dX4_come_117 : decode cX4_come 117 = .ok (.aload_n 0, 1) := by decide +kernel
theorem dX4_come_118 : decode cX4_come 118 = .ok (.aload_n 0, 1) := by decide +kernel
theorem dX4_come_119 : decode cX4_come 119 = .ok (.getfield 26, 3) := by decide +kernel
theorem dX4_come_122 : decode cX4_come 122 = .ok (.iload_n 1, 1) := by decide +kernel
theorem dX4_come_123 : decode cX4_come 123 = .ok (.iaload, 1) := by decide +kernel
theorem dX4_come_124 : decode cX4_come 124 = .ok (.putfield 78, 3) := by decide +kernel
theorem dX4_come_127 : decode cX4_come 127 = .ok (.aload_n 0, 1) := by decide +kernel
theorem dX4_come_128 : decode cX4_come 128 = .ok (.aload_n 0, 1) := by decide +kernel
theorem dX4_come_129 : decode cX4_come 129 = .ok (.getfield 29, 3) := by decide +kernel
theorem dX4_come_132 : decode cX4_come 132 = .ok (.iload_n 1, 1) := by decide +kernel
theorem dX4_come_133 : decode cX4_come 133 = .ok (.iaload, 1) := by decide +kernel
theorem dX4_come_134 : decode cX4_come 134 = .ok (.putfield 71, 3) := by decide +kernel
theorem dX4_come_137 : decode cX4_come 137 = .ok (.iconst 0, 1) := by decide +kernel
theorem dX4_come_138 : decode cX4_come 138 = .ok (.istore_n 3, 1) := by decide +kernel
theorem dX4_come_139 : decode cX4_come 139 = .ok (.iload_n 3, 1) := by decide +kernel
theorem dX4_come_140 : decode cX4_come 140 = .ok (.aload_n 0, 1) := by decide +kernel
theorem dX4_come_141 : decode cX4_come 141 = .ok (.getfield 71, 3) := by decide +kernel
theorem dX4_come_144 : decode cX4_come 144 = .ok (.if_icmp .ge 43, 3) := by decide +kernel
theorem dX4_come_147 : decode cX4_come 147 = .ok (.aload_n 0, 1) := by decide +kernel
theorem dX4_come_148 : decode cX4_come 148 = .ok (.getfield 13, 3) := by decide +kernel
theorem dX4_come_151 : decode cX4_come 151 = .ok (.iload_n 3, 1) := by decide +kernel
theorem dX4_come_152 : decode cX4_come 152 = .ok (.aload_n 0, 1) := by decide +kernel
theorem dX4_come_153 : decode cX4_come 153 = .ok (.getfield 32, 3) := by decide +kernel
theorem dX4_come_156 : decode cX4_come 156 = .ok (.bipush 64, 2) := by decide +kernel
theorem dX4_come_158 : decode cX4_come 158 = .ok (.iload_n 1, 1) := by decide +kernel
theorem dX4_come_159 : decode cX4_come 159 = .ok (.imul, 1) := by decide +kernel
theorem dX4_come_160 : decode cX4_come 160 = .ok (.iload_n 3, 1) := by decide +kernel
theorem dX4_come_161 : decode cX4_come 161 = .ok (.iadd, 1) := by decide +kernel
theorem dX4_come_162 : decode cX4_come 162 = .ok (.iaload, 1) := by decide +kernel
theorem dX4_come_163 : decode cX4_come 163 = .ok (.iastore, 1) := by decide +kernel
theorem dX4_come_164 : decode cX4_come 164 = .ok (.aload_n 0, 1) := by decide +kernel
theorem dX4_come_165 : decode cX4_come 165 = .ok (.getfield 16, 3) := by decide +kernel
theorem dX4_come_168 : decode cX4_come 168 = .ok (.iload_n 3, 1) := by decide +kernel
theorem dX4_come_169 : decode cX4_come 169 = .ok (.aload_n 0, 1) := by decide +kernel
theorem dX4_come_170 : decode cX4_come 170 = .ok (.getfield 35, 3) := by decide +kernel
theorem dX4_come_173 : decode cX4_come 173 = .ok (.bipush 64, 2) := by decide +kernel
theorem dX4_come_175 : decode cX4_come 175 = .ok (.iload_n 1, 1) := by decide +kernel
theorem dX4_come_176 : decode cX4_come 176 = .ok (.imul, 1) := by decide +kernel
theorem dX4_come_177 : decode cX4_come 177 = .ok (.iload_n 3, 1) := by decide +kernel
theorem dX4_come_178 : decode cX4_come 178 = .ok (.iadd, 1) := by decide +kernel
theorem dX4_come_179 : decode cX4_come 179 = .ok (.iaload, 1) := by decide +kernel
theorem dX4_come_180 : decode cX4_come 180 = .ok (.iastore, 1) := by decide +kernel
theorem dX4_come_181 : decode cX4_come 181 = .ok (.iinc 3 1, 3) := by decide +kernel
theorem dX4_come_184 : decode cX4_come 184 = .ok (.goto (-45), 3) := by decide +kernel
theorem dX4_come_187 : decode cX4_come 187 = .ok (.return_, 1) := by decide +kernel
set_option maxRecDepth 20000 in
theorem ggX4_back_X4_come : GoodIn wsX4_back wsX4_come := goodIn_r _ [6, 7, 8, 9, 10, 11, 12, 13, 14, 15, 16, 17, 18, 19, 20, 21, 22, 23, 24, 25, 26, 27, 28, 29, 30, 31, 32, 33, 34, 35, 36, 37, 38] (by decide +kernel) (by decide +kernel)
set_option maxRecDepth 20000 in
theorem gX4_back_X4_come : GoodIn wsX4_back (wsV RX4 124 RX4 yX4_come wsX4_come) := goodIn_app (goodIn_of _ (by decide +kernel)) ggX4_back_X4_come
theorem dX4_back_0 : decode cX4_back 0 = .ok (.aload_n 0, 1) := by decide +kernel
theorem dX4_back_1 : decode cX4_back 1 = .ok (.getfield 121, 3) := by decide +kernel
theorem dX4_back_4 : decode cX4_back 4 = .ok (.ifCond .ne 6, 3) := by decide +kernel
theorem dX4_back_7 : decode cX4_back 7 = .ok (.bipush (-11), 2) := by decide +kernel
theorem dX4_back_9 : decode cX4_back 9 = .ok (.ireturn, 1) := by decide +kernel
theorem dX4_back_10 : decode cX4_back 10 = .ok (.aload_n 0, 1) := by decide +kernel
theorem dX4_back_11 : decode cX4_back 11 = .ok (.dup, 1) := by decide +kernel
theorem dX4_back_12 : decode cX4_back 12 = .ok (.getfield 121, 3) := by decide +kernel
theorem dX4_back_15 : decode cX4_back 15 = .ok (.iconst 1, 1) := by decide +kernel
theorem dX4_back_16 : decode cX4_back 16 = .ok (.isub, 1) := by decide +kernel
theorem dX4_back_17 : decode cX4_back 17 = .ok (.putfield 121, 3) := by decide +kernel
theorem dX4_back_20 : decode cX4_back 20 = .ok (.aload_n 0, 1) := by decide +kernel
theorem dX4_back_21 : decode cX4_back 21 = .ok (.aload_n 0, 1) := by decide +kernel
theorem dX4_back_22 : decode cX4_back 22 = .ok (.getfield 121, 3) := by decide +kernel
theorem dX4_back_25 : decode cX4_back 25 = .ok (.invokevirtual 124, 3) := by decide +kernel
theorem dX4_back_28 : decode cX4_back 28 = .ok (.aload_n 0, 1) := by decide +kernel
theorem dX4_back_29 : decode cX4_back 29 = .ok (.getfield 121, 3) := by decide +kernel
theorem dX4_back_32 : decode cX4_back 32 = .ok (.ireturn, 1) := by decide +kernel
set_option maxRecDepth 20000 in
theorem ggX4_restart_X4_first : GoodIn wsX4_restart wsX4_first := goodIn_r _ [9] (by decide +kernel) (by decide +kernel)
set_option maxRecDepth 20000 in
theorem gX4_restart_X4_first : GoodIn wsX4_restart (va_wsS RX4 48 yX4_first wsX4_first) := goodIn_app (goodIn_of _ (by decide +kernel)) ggX4_restart_X4_first
set_option maxRecDepth 20000 in
theorem ggX4_restart_X4_come : GoodIn wsX4_restart wsX4_come := goodIn_r _ [13, 14, 3, 15, 16, 17, 1, 4, 18, 5, 19, 20, 21, 22, 23, 24, 25, 26, 27, 28, 29, 30, 31, 32, 33, 34, 35, 36, 37, 38, 39, 40, 41] (by decide +kernel) (by decide +kernel)
set_option maxRecDepth 20000 in
theorem gX4_restart_X4_come : GoodIn wsX4_restart (wsV RX4 124 RX4 yX4_come wsX4_come) := goodIn_app (goodIn_of _ (by decide +kernel)) ggX4_restart_X4_come
theorem dX4_restart_0 : decode cX4_restart 0 = .ok (.iconst 0, 1) := by decide +kernel
theorem dX4_restart_1 : decode cX4_restart 1 = .ok (.istore_n 1, 1) := by decide +kernel
theorem dX4_restart_2 : decode cX4_restart 2 = .ok (.iload_n 1, 1) := by decide +kernel
theorem dX4_restart_3 : decode cX4_restart 3 = .ok (.sipush 8192, 3) := by decide +kernel
theorem dX4_restart_6 : decode cX4_restart 6 = .ok (.if_icmp .ge 22, 3) := by decide +kernel
theorem dX4_restart_9 : decode cX4_restart 9 = .ok (.aload_n 0, 1) := by decide +kernel
theorem dX4_restart_10 : decode cX4_restart 10 = .ok (.getfield 20, 3) := by decide +kernel
theorem dX4_restart_13 : decode cX4_restart 13 = .ok (.ldc 127, 2) := by decide +kernel
theorem dX4_restart_15 : decode cX4_restart 15 = .ok (.iload_n 1, 1) := by decide +kernel
theorem dX4_restart_16 : decode cX4_restart 16 = .ok (.iadd, 1) := by decide +kernel
theorem dX4_restart_17 : decode cX4_restart 17 = .ok (.iload_n 1, 1) := by decide +kernel
theorem dX4_restart_18 : decode cX4_restart 18 = .ok (.invokestatic 48, 3) := by decide +kernel
theorem dX4_restart_21 : decode cX4_restart 21 = .ok (.iastore, 1) := by decide +kernel
theorem dX4_restart_22 : decode cX4_restart 22 = .ok (.iinc 1 1, 3) := by decide +kernel
theorem dX4_restart_25 : decode cX4_restart 25 = .ok (.goto (-23), 3) := by decide +kernel
theorem dX4_restart_28 : decode cX4_restart 28 = .ok (.aload_n 0, 1) := by decide +kernel
theorem dX4_restart_29 : decode cX4_restart 29 = .ok (.getfield 23, 3) := by decide +kernel
theorem dX4_restart_32 : decode cX4_restart 32 = .ok (.iconst 4, 1) := by decide +kernel
theorem dX4_restart_33 : decode cX4_restart 33 = .ok (.sipush 1024, 3) := by decide +kernel
theorem dX4_restart_36 : decode cX4_restart 36 = .ok (.iastore, 1) := by decide +kernel
theorem dX4_restart_37 : decode cX4_restart 37 = .ok (.aload_n 0, 1) := by decide +kernel
theorem dX4_restart_38 : decode cX4_restart 38 = .ok (.getfield 26, 3) := by decide +kernel
theorem dX4_restart_41 : decode cX4_restart 41 = .ok (.iconst 4, 1) := by decide +kernel
theorem dX4_restart_42 : decode cX4_restart 42 = .ok (.iconst 0, 1) := by decide +kernel
theorem dX4_restart_43 : decode cX4_restart 43 = .ok (.iastore, 1) := by decide +kernel
theorem dX4_restart_44 : decode cX4_restart 44 = .ok (.aload_n 0, 1) := by decide +kernel
theorem dX4_restart_45 : decode cX4_restart 45 = .ok (.getfield 29, 3) := by decide +kernel
theorem dX4_restart_48 : decode cX4_restart 48 = .ok (.iconst 4, 1) := by decide +kernel
theorem dX4_restart_49 : decode cX4_restart 49 = .ok (.iconst 0, 1) := by decide +kernel
theorem dX4_restart_50 : decode cX4_restart 50 = .ok (.iastore, 1) := by decide +kernel
theorem dX4_restart_51 : decode cX4_restart 51 = .ok (.aload_n 0, 1) := by decide +kernel
theorem dX4_restart_52 : decode cX4_restart 52 = .ok (.iconst 4, 1) := by decide +kernel
theorem dX4_restart_53 : decode cX4_restart 53 = .ok (.invokevirtual 124, 3) := by decide +kernel
theorem dX4_restart_56 : decode cX4_restart 56 = .ok (.iconst 1, 1) := by decide +kernel
theorem dX4_restart_57 : decode cX4_restart 57 = .ok (.ireturn, 1) := by decide +kernel
theorem dX4_same_0 : decode cX4_same 0 = .ok (.aload_n 0, 1) := by decide +kernel
theorem dX4_same_1 : decode cX4_same 1 = .ok (.getfield 121, 3) := by decide +kernel
theorem dX4_same_4 : decode cX4_same 4 = .ok (.ifCond .ne 6, 3) := by decide +kernel
theorem dX4_same_7 : decode cX4_same 7 = .ok (.bipush (-11), 2) := by decide +kernel
theorem dX4_same_9 : decode cX4_same 9 = .ok (.ireturn, 1) := by decide +kernel
theorem dX4_same_10 : decode cX4_same 10 = .ok (.aload_n 0, 1) := by decide +kernel
theorem dX4_same_11 : decode cX4_same 11 = .ok (.getfield 121, 3) := by decide +kernel
theorem dX4_same_14 : decode cX4_same 14 = .ok (.iconst 1, 1) := by decide +kernel
theorem dX4_same_15 : decode cX4_same 15 = .ok (.isub, 1) := by decide +kernel
theorem dX4_same_16 : decode cX4_same 16 = .ok (.istore_n 1, 1) := by decide +kernel
theorem dX4_same_17 : decode cX4_same 17 = .ok (.aload_n 0, 1) := by decide +kernel
theorem dX4_same_18 : decode cX4_same 18 = .ok (.getfield 44, 3) := by decide +kernel
theorem dX4_same_21 : decode cX4_same 21 = .ok (.aload_n 0, 1) := by decide +kernel
theorem dX4_same_22 : decode cX4_same 22 = .ok (.getfield 23, 3) := by decide +kernel
theorem dX4_same_25 : decode cX4_same 25 = .ok (.iload_n 1, 1) := by decide +kernel
theorem dX4_same_26 : decode cX4_same 26 = .ok (.iaload, 1) := by decide +kernel
theorem dX4_same_27 : decode cX4_same 27 = .ok (.if_icmp .ne 33, 3) := by decide +kernel
theorem dX4_same_30 : decode cX4_same 30 = .ok (.aload_n 0, 1) := by decide +kernel
theorem dX4_same_31 : decode cX4_same 31 = .ok (.getfield 78, 3) := by decide +kernel
theorem dX4_same_34 : decode cX4_same 34 = .ok (.aload_n 0, 1) := by decide +kernel
theorem dX4_same_35 : decode cX4_same 35 = .ok (.getfield 26, 3) := by decide +kernel
theorem dX4_same_38 : decode cX4_same 38 = .ok (.iload_n 1, 1) := by decide +kernel
theorem dX4_same_39 : decode cX4_same 39 = .ok (.iaload, 1) := by decide +kernel
theorem dX4_same_40 : decode cX4_same 40 = .ok (.if_icmp .ne 20, 3) := by decide +kernel
theorem dX4_same_43 : decode cX4_same 43 = .ok (.aload_n 0, 1) := by decide +kernel
theorem dX4_same_44 : decode cX4_same 44 = .ok (.getfield 71, 3) := by decide +kernel
theorem dX4_same_47 : decode cX4_same 47 = .ok (.aload_n 0, 1) := by decide +kernel
theorem dX4_same_48 : decode cX4_same 48 = .ok (.getfield 29, 3) := by decide +kernel
theorem dX4_same_51 : decode cX4_same 51 = .ok (.iload_n 1, 1) := by decide +kernel
theorem dX4_same_52 : decode cX4_same 52 = .ok (.iaload, 1) := by decide +kernel
theorem dX4_same_53 : decode cX4_same 53 = .ok (.if_icmp .ne 7, 3) := by decide +kernel
theorem dX4_same_56 : decode cX4_same 56 = .ok (.iconst 1, 1) := by decide +kernel
theorem dX4_same_57 : decode cX4_same 57 = .ok (.goto 4, 3) := by decide +kernel
theorem dX4_same_60 : decode cX4_same 60 = .ok (.iconst 0, 1) := by decide +kernel
theorem dX4_same_61 : decode cX4_same 61 = .ok (.istore_n 2, 1) := by decide +kernel
theorem dX4_same_62 : decode cX4_same 62 = .ok (.iconst 0, 1) := by decide +kernel
theorem dX4_same_63 : decode cX4_same 63 = .ok (.istore_n 3, 1) := by decide +kernel
theorem dX4_same_64 : decode cX4_same 64 = .ok (.iload_n 3, 1) := by decide +kernel
theorem dX4_same_65 : decode cX4_same 65 = .ok (.aload_n 0, 1) := by decide +kernel
theorem dX4_same_66 : decode cX4_same 66 = .ok (.getfield 44, 3) := by decide +kernel
theorem dX4_same_69 : decode cX4_same 69 = .ok (.if_icmp .ge 40, 3) := by decide +kernel
theorem dX4_same_72 : decode cX4_same 72 = .ok (.iload_n 2, 1) := by decide +kernel
theorem dX4_same_73 : decode cX4_same 73 = .ok (.ifCond .eq 36, 3) := by decide +kernel
theorem dX4_same_76 : decode cX4_same 76 = .ok (.aload_n 0, 1) := by decide +kernel
theorem dX4_same_77 : decode cX4_same 77 = .ok (.getfield 7, 3) := by decide +kernel
theorem dX4_same_80 : decode cX4_same 80 = .ok (.iload_n 3, 1) := by decide +kernel
theorem dX4_same_81 : decode cX4_same 81 = .ok (.iaload, 1) := by decide +kernel
theorem dX4_same_82 : decode cX4_same 82 = .ok (.aload_n 0, 1) := by decide +kernel
theorem dX4_same_83 : decode cX4_same 83 = .ok (.getfield 20, 3) := by decide +kernel
theorem dX4_same_86 : decode cX4_same 86 = .ok (.sipush 8192, 3) := by decide +kernel
theorem dX4_same_89 : decode cX4_same 89 = .ok (.iload_n 1, 1) := by decide +kernel
theorem dX4_same_90 : decode cX4_same 90 = .ok (.imul, 1) := by decide +kernel
theorem dX4_same_91 : decode cX4_same 91 = .ok (.iload_n 3, 1) := by decide +kernel
theorem dX4_same_92 : decode cX4_same 92 = .ok (.iadd, 1) := by decide +kernel
theorem dX4_same_93 : decode cX4_same 93 = .ok (.iaload, 1) := by decide +kernel
theorem dX4_same_94 : decode cX4_same 94 = .ok (.if_icmp .ne 7, 3) := by decide +kernel
theorem dX4_same_97 : decode cX4_same 97 = .ok (.iconst 1, 1) := by decide +kernel
theorem dX4_same_98 : decode cX4_same 98 = .ok (.goto 4, 3) := by decide +kernel
theorem dX4_same_101 : decode cX4_same 101 = .ok (.iconst 0, 1) := by decide +kernel
theorem dX4_same_102 : decode cX4_same 102 = .ok (.istore_n 2, 1) := by decide +kernel
theorem dX4_same_103 : decode cX4_same 103 = .ok (.iinc 3 1, 3) := by decide +kernel
theorem dX4_same_106 : decode cX4_same 106 = .ok (.goto (-42), 3) := by decide +kernel
theorem dX4_same_109 : decode cX4_same 109 = .ok (.iconst 0, 1) := by decide +kernel
theorem dX4_same_110 : decode cX4_same 110 = .ok (.istore_n 3, 1) := by decide +kernel
theorem dX4_same_111 : decode cX4_same 111 = .ok (.iload_n 3, 1) := by decide +kernel
theorem dX4_same_112 : decode cX4_same 112 = .ok (.aload_n 0, 1) := by decide +kernel
theorem dX4_same_113 : decode cX4_same 113 = .ok (.getfield 71, 3) := by decide +kernel
theorem dX4_same_116 : decode cX4_same 116 = .ok (.if_icmp .ge 59, 3) := by decide +kernel
theorem dX4_same_119 : decode cX4_same 119 = .ok (.iload_n 2, 1) := by decide +kernel
theorem dX4_same_120 : decode cX4_same 120 = .ok (.ifCond .eq 55, 3) := by decide +kernel
theorem dX4_same_123 : decode cX4_same 123 = .ok (.aload_n 0, 1) := by decide +kernel
theorem dX4_same_124 : decode cX4_same 124 = .ok (.getfield 13, 3) := by decide +kernel
theorem dX4_same_127 : decode cX4_same 127 = .ok (.iload_n 3, 1) := by decide +kernel
theorem dX4_same_128 : decode cX4_same 128 = .ok (.iaload, 1) := by decide +kernel
theorem dX4_same_129 : decode cX4_same 129 = .ok (.aload_n 0, 1) := by decide +kernel
theorem dX4_same_130 : decode cX4_same 130 = .ok (.getfield 32, 3) := by decide +kernel
theorem dX4_same_133 : decode cX4_same 133 = .ok (.bipush 64, 2) := by decide +kernel
theorem dX4_same_135 : decode cX4_same 135 = .ok (.iload_n 1, 1) := by decide +kernel
theorem dX4_same_136 : decode cX4_same 136 = .ok (.imul, 1) := by decide +kernel
theorem dX4_same_137 : decode cX4_same 137 = .ok (.iload_n 3, 1) := by decide +kernel
theorem dX4_same_138 : decode cX4_same 138 = .ok (.iadd, 1) := by decide +kernel
theorem dX4_same_139 : decode cX4_same 139 = .ok (.iaload, 1) := by decide +kernel
theorem dX4_same_140 : decode cX4_same 140 = .ok (.if_icmp .ne 27, 3) := by decide +kernel
theorem dX4_same_143 : decode cX4_same 143 = .ok (.aload_n 0, 1) := by decide +kernel
theorem dX4_same_144 : decode cX4_same 144 = .ok (.getfield 16, 3) := by decide +kernel
theorem dX4_same_147 : decode cX4_same 147 = .ok (.iload_n 3, 1) := by decide +kernel
theorem dX4_same_148 : decode cX4_same 148 = .ok (.iaload, 1) := by decide +kernel
theorem dX4_same_149 : decode cX4_same 149 = .ok (.aload_n 0, 1) := by decide +kernel
theorem dX4_same_150 : decode cX4_same 150 = .ok (.getfield 35, 3) := by decide +kernel
theorem dX4_same_153 : decode cX4_same 153 = .ok (.bipush 64, 2) := by decide +kernel
theorem dX4_same_155 : decode cX4_same 155 = .ok (.iload_n 1, 1) := by decide +kernel
theorem dX4_same_156 : decode cX4_same 156 = .ok (.imul, 1) := by decide +kernel
theorem dX4_same_157 : decode cX4_same 157 = .ok (.iload_n 3, 1) := by decide +kernel
theorem dX4_same_158 : decode cX4_same 158 = .ok (.iadd, 1) := by decide +kernel
theorem dX4_same_159 : decode cX4_same 159 = .ok (.iaload, 1) := by decide +kernel
theorem dX4_same_160 : decode cX4_same 160 = .ok (.if_icmp .ne 7, 3) := by decide +kernel
theorem dX4_same_163 : decode cX4_same 163 = .ok (.iconst 1, 1) := by decide +kernel
theorem dX4_same_164 : decode cX4_same 164 = .ok (.goto 4, 3) := by decide +kernel
theorem dX4_same_167 : decode cX4_same 167 = .ok (.iconst 0, 1) := by decide +kernel
theorem dX4_same_168 : decode cX4_same 168 = .ok (.istore_n 2, 1) := by decide +kernel
theorem dX4_same_169 : decode cX4_same 169 = .ok (.iinc 3 1, 3) := by decide +kernel
theorem dX4_same_172 : decode cX4_same 172 = .ok (.goto (-61), 3) := by decide +kernel
theorem dX4_same_175 : decode cX4_same 175 = .ok (.iload_n 2, 1) := by decide +kernel
theorem dX4_same_176 : decode cX4_same 176 = .ok (.ifCond .eq 7, 3) := by decide +kernel
theorem dX4_same_179 : decode cX4_same 179 = .ok (.iconst 1, 1) := by decide +kernel
theorem dX4_same_180 : decode cX4_same 180 = .ok (.goto 4, 3) := by decide +kernel
theorem dX4_same_183 : decode cX4_same 183 = .ok (.iconst 0, 1) := by decide +kernel
theorem dX4_same_184 : decode cX4_same 184 = .ok (.ireturn, 1) := by decide +kernel
theorem dX4_put_0 : decode cX4_put 0 = .ok (.aload_n 0, 1) := by decide +kernel
theorem dX4_put_1 : decode cX4_put 1 = .ok (.getfield 38, 3) := by decide +kernel
theorem dX4_put_4 : decode cX4_put 4 = .ok (.aload_n 0, 1) := by decide +kernel
theorem dX4_put_5 : decode cX4_put 5 = .ok (.getfield 128, 3) := by decide +kernel
theorem dX4_put_8 : decode cX4_put 8 = .ok (.iload_n 1, 1) := by decide +kernel
theorem dX4_put_9 : decode cX4_put 9 = .ok (.sipush 255, 3) := by decide +kernel
theorem dX4_put_12 : decode cX4_put 12 = .ok (.iand, 1) := by decide +kernel
theorem dX4_put_13 : decode cX4_put 13 = .ok (.iastore, 1) := by decide +kernel
theorem dX4_put_14 : decode cX4_put 14 = .ok (.aload_n 0, 1) := by decide +kernel
theorem dX4_put_15 : decode cX4_put 15 = .ok (.dup, 1) := by decide +kernel
theorem dX4_put_16 : decode cX4_put 16 = .ok (.getfield 128, 3) := by decide +kernel
theorem dX4_put_19 : decode cX4_put 19 = .ok (.iconst 1, 1) := by decide +kernel
theorem dX4_put_20 : decode cX4_put 20 = .ok (.iadd, 1) := by decide +kernel
theorem dX4_put_21 : decode cX4_put 21 = .ok (.putfield 128, 3) := by decide +kernel
theorem dX4_put_24 : decode cX4_put 24 = .ok (.return_, 1) := by decide +kernel
set_option maxRecDepth 20000 in
theorem ggX4_putTwo_X4_put : GoodIn wsX4_putTwo wsX4_put := goodIn_r _ [5, 6, 7, 8, 9, 10, 11, 12, 13, 14, 15, 16, 17, 18, 19, 20, 21, 22, 23, 24, 25] (by decide +kernel) (by decide +kernel)
set_option maxRecDepth 20000 in
theorem gX4_putTwo_X4_put : GoodIn wsX4_putTwo (wsV RX4 131 RX4 yX4_put wsX4_put) := goodIn_app (goodIn_of _ (by decide +kernel)) ggX4_putTwo_X4_put
theorem dX4_putTwo_0 : decode cX4_putTwo 0 = .ok (.aload_n 0, 1) := by decide +kernel
theorem dX4_putTwo_1 : decode cX4_putTwo 1 = .ok (.iload_n 1, 1) := by decide +kernel
theorem dX4_putTwo_2 : decode cX4_putTwo 2 = .ok (.bipush 8, 2) := by decide +kernel
theorem dX4_putTwo_4 : decode cX4_putTwo 4 = .ok (.ishr, 1) := by decide +kernel
theorem dX4_putTwo_5 : decode cX4_putTwo 5 = .ok (.invokevirtual 131, 3) := by decide +kernel
theorem dX4_putTwo_8 : decode cX4_putTwo 8 = .ok (.aload_n 0, 1) := by decide +kernel
theorem dX4_putTwo_9 : decode cX4_putTwo 9 = .ok (.iload_n 1, 1) := by decide +kernel
theorem dX4_putTwo_10 : decode cX4_putTwo 10 = .ok (.invokevirtual 131, 3) := by decide +kernel
theorem dX4_putTwo_13 : decode cX4_putTwo 13 = .ok (.return_, 1) := by decide +kernel
set_option maxRecDepth 20000 in
theorem ggX4_write_X4_putTwo : GoodIn wsX4_write wsX4_putTwo := goodIn_r _ [12, 13, 14, 15, 11, 16, 17, 1, 21, 22, 23, 24, 25, 26, 27, 28, 29, 30, 31, 32, 33, 34, 35, 36, 37, 38] (by decide +kernel) (by decide +kernel)
set_option maxRecDepth 20000 in
theorem gX4_write_X4_putTwo : GoodIn wsX4_write (wsV RX4 134 RX4 yX4_putTwo wsX4_putTwo) := goodIn_app (goodIn_of _ (by decide +kernel)) ggX4_write_X4_putTwo
set_option maxRecDepth 20000 in
theorem ggX4_write_X4_first : GoodIn wsX4_write wsX4_first := goodIn_r _ [20] (by decide +kernel) (by decide +kernel)
set_option maxRecDepth 20000 in
theorem gX4_write_X4_first : GoodIn wsX4_write (va_wsS RX4 48 yX4_first wsX4_first) := goodIn_app (goodIn_of _ (by decide +kernel)) ggX4_write_X4_first
set_option maxRecDepth 20000 in
theorem ggX4_write_X4_put : GoodIn wsX4_write wsX4_put := goodIn_r _ [16, 17, 1, 21, 22, 23, 24, 25, 26, 27, 28, 29, 30, 31, 32, 33, 34, 35, 36, 37, 38] (by decide +kernel) (by decide +kernel)
set_option maxRecDepth 20000 in
theorem gX4_write_X4_put : GoodIn wsX4_write (wsV RX4 131 RX4 yX4_put wsX4_put) := goodIn_app (goodIn_of _ (by decide +kernel)) ggX4_write_X4_put
theorem dX4_write_0 : decode cX4_write 0 = .ok (.aload_n 0, 1) := by decide +kernel
theorem dX4_write_1 : decode cX4_write 1 = .ok (.iconst 0, 1) := by decide +kernel
theorem dX4_write_2 : decode cX4_write 2 = .ok (.putfield 128, 3) := by decide +kernel
theorem dX4_write_5 : decode cX4_write 5 = .ok (.aload_n 0, 1) := by decide +kernel
theorem dX4_write_6 : decode cX4_write 6 = .ok (.aload_n 0, 1) := by decide +kernel
theorem dX4_write_7 : decode cX4_write 7 = .ok (.getfield 44, 3) := by decide +kernel
theorem dX4_write_10 : decode cX4_write 10 = .ok (.invokevirtual 134, 3) := by decide +kernel
theorem dX4_write_13 : decode cX4_write 13 = .ok (.aload_n 0, 1) := by decide +kernel
theorem dX4_write_14 : decode cX4_write 14 = .ok (.aload_n 0, 1) := by decide +kernel
theorem dX4_write_15 : decode cX4_write 15 = .ok (.getfield 78, 3) := by decide +kernel
theorem dX4_write_18 : decode cX4_write 18 = .ok (.invokevirtual 134, 3) := by decide +kernel
theorem dX4_write_21 : decode cX4_write 21 = .ok (.aload_n 0, 1) := by decide +kernel
theorem dX4_write_22 : decode cX4_write 22 = .ok (.aload_n 0, 1) := by decide +kernel
theorem dX4_write_23 : decode cX4_write 23 = .ok (.getfield 71, 3) := by decide +kernel
theorem dX4_write_26 : decode cX4_write 26 = .ok (.invokevirtual 134, 3) := by decide +kernel
theorem dX4_write_29 : decode cX4_write 29 = .ok (.iconst 0, 1) := by decide +kernel
theorem dX4_write_30 : decode cX4_write 30 = .ok (.istore_n 1, 1) := by decide +kernel
theorem dX4_write_31 : decode cX4_write 31 = .ok (.iload_n 1, 1) := by decide +kernel
theorem dX4_write_32 : decode cX4_write 32 = .ok (.aload_n 0, 1) := by decide +kernel
theorem dX4_write_33 : decode cX4_write 33 = .ok (.getfield 71, 3) := by decide +kernel
theorem dX4_write_36 : decode cX4_write 36 = .ok (.if_icmp .ge 29, 3) := by decide +kernel
theorem dX4_write_39 : decode cX4_write 39 = .ok (.aload_n 0, 1) := by decide +kernel
theorem dX4_write_40 : decode cX4_write 40 = .ok (.aload_n 0, 1) := by decide +kernel
theorem dX4_write_41 : decode cX4_write 41 = .ok (.getfield 13, 3) := by decide +kernel
theorem dX4_write_44 : decode cX4_write 44 = .ok (.iload_n 1, 1) := by decide +kernel
theorem dX4_write_45 : decode cX4_write 45 = .ok (.iaload, 1) := by decide +kernel
theorem dX4_write_46 : decode cX4_write 46 = .ok (.invokevirtual 134, 3) := by decide +kernel
theorem dX4_write_49 : decode cX4_write 49 = .ok (.aload_n 0, 1) := by decide +kernel
theorem dX4_write_50 : decode cX4_write 50 = .ok (.aload_n 0, 1) := by decide +kernel
theorem dX4_write_51 : decode cX4_write 51 = .ok (.getfield 16, 3) := by decide +kernel
theorem dX4_write_54 : decode cX4_write 54 = .ok (.iload_n 1, 1) := by decide +kernel
theorem dX4_write_55 : decode cX4_write 55 = .ok (.iaload, 1) := by decide +kernel
theorem dX4_write_56 : decode cX4_write 56 = .ok (.invokevirtual 134, 3) := by decide +kernel
theorem dX4_write_59 : decode cX4_write 59 = .ok (.iinc 1 1, 3) := by decide +kernel
theorem dX4_write_62 : decode cX4_write 62 = .ok (.goto (-31), 3) := by decide +kernel
theorem dX4_write_65 : decode cX4_write 65 = .ok (.aload_n 0, 1) := by decide +kernel
theorem dX4_write_66 : decode cX4_write 66 = .ok (.getfield 44, 3) := by decide +kernel
theorem dX4_write_69 : decode cX4_write 69 = .ok (.iconst 1, 1) := by decide +kernel
theorem dX4_write_70 : decode cX4_write 70 = .ok (.isub, 1) := by decide +kernel
theorem dX4_write_71 : decode cX4_write 71 = .ok (.istore_n 1, 1) := by decide +kernel
theorem dX4_write_72 : decode cX4_write 72 = .ok (.iload_n 1, 1) := by decide +kernel
theorem dX4_write_73 : decode cX4_write 73 = .ok (.ifCond .lt 22, 3) := by decide +kernel
theorem dX4_write_76 : decode cX4_write 76 = .ok (.aload_n 0, 1) := by decide +kernel
theorem dX4_write_77 : decode cX4_write 77 = .ok (.getfield 7, 3) := by decide +kernel
theorem dX4_write_80 : decode cX4_write 80 = .ok (.iload_n 1, 1) := by decide +kernel
theorem dX4_write_81 : decode cX4_write 81 = .ok (.iaload, 1) := by decide +kernel
theorem dX4_write_82 : decode cX4_write 82 = .ok (.iload_n 1, 1) := by decide +kernel
theorem dX4_write_83 : decode cX4_write 83 = .ok (.invokestatic 48, 3) := by decide +kernel
theorem dX4_write_86 : decode cX4_write 86 = .ok (.if_icmp .ne 9, 3) := by decide +kernel
theorem dX4_write_89 : decode cX4_write 89 = .ok (.iinc 1 (-1), 3) := by decide +kernel
theorem dX4_write_92 : decode cX4_write 92 = .ok (.goto (-20), 3) := by decide +kernel
theorem dX4_write_95 : decode cX4_write 95 = .ok (.iconst 0, 1) := by decide +kernel
theorem dX4_write_96 : decode cX4_write 96 = .ok (.istore_n 2, 1) := by decide +kernel
theorem dX4_write_97 : decode cX4_write 97 = .ok (.iload_n 2, 1) := by decide +kernel
theorem dX4_write_98 : decode cX4_write 98 = .ok (.iload_n 1, 1) := by decide +kernel
theorem dX4_write_99 : decode cX4_write 99 = .ok (.if_icmp .gt 87, 3) := by decide +kernel
theorem dX4_write_102 : decode cX4_write 102 = .ok (.aload_n 0, 1) := by decide +kernel
theorem dX4_write_103 : decode cX4_write 103 = .ok (.getfield 7, 3) := by decide +kernel
theorem dX4_write_106 : decode cX4_write 106 = .ok (.iload_n 2, 1) := by decide +kernel
theorem dX4_write_107 : decode cX4_write 107 = .ok (.iaload, 1) := by decide +kernel
theorem dX4_write_108 : decode cX4_write 108 = .ok (.iload_n 2, 1) := by decide +kernel
theorem dX4_write_109 : decode cX4_write 109 = .ok (.invokestatic 48, 3) := by decide +kernel
theorem dX4_write_112 : decode cX4_write 112 = .ok (.ixor, 1) := by decide +kernel
theorem dX4_write_113 : decode cX4_write 113 = .ok (.istore_n 3, 1) := by decide +kernel
theorem dX4_write_114 : decode cX4_write 114 = .ok (.iload_n 3, 1) := by decide +kernel
theorem dX4_write_115 : decode cX4_write 115 = .ok (.ifCond .eq 14, 3) := by decide +kernel
theorem dX4_write_118 : decode cX4_write 118 = .ok (.aload_n 0, 1) := by decide +kernel
theorem dX4_write_119 : decode cX4_write 119 = .ok (.iload_n 3, 1) := by decide +kernel
theorem dX4_write_120 : decode cX4_write 120 = .ok (.invokevirtual 131, 3) := by decide +kernel
theorem dX4_write_123 : decode cX4_write 123 = .ok (.iinc 2 1, 3) := by decide +kernel
theorem dX4_write_126 : decode cX4_write 126 = .ok (.goto 57, 3) := by decide +kernel
theorem dX4_write_129 : decode cX4_write 129 = .ok (.iconst 0, 1) := by decide +kernel
theorem dX4_write_130 : decode cX4_write 130 = .ok (.istore 4, 2) := by decide +kernel
theorem dX4_write_132 : decode cX4_write 132 = .ok (.iload 4, 2) := by decide +kernel
theorem dX4_write_134 : decode cX4_write 134 = .ok (.sipush 256, 3) := by decide +kernel
theorem dX4_write_137 : decode cX4_write 137 = .ok (.if_icmp .ge 28, 3) := by decide +kernel
theorem dX4_write_140 : decode cX4_write 140 = .ok (.aload_n 0, 1) := by decide +kernel
theorem dX4_write_141 : decode cX4_write 141 = .ok (.getfield 7, 3) := by decide +kernel
theorem dX4_write_144 : decode cX4_write 144 = .ok (.iload_n 2, 1) := by decide +kernel
theorem dX4_write_145 : decode cX4_write 145 = .ok (.iload 4, 2) := by decide +kernel
theorem dX4_write_147 : decode cX4_write 147 = .ok (.iadd, 1) := by decide +kernel
theorem dX4_write_148 : decode cX4_write 148 = .ok (.iaload, 1) := by decide +kernel
theorem dX4_write_149 : decode cX4_write 149 = .ok (.iload_n 2, 1) := by decide +kernel
theorem dX4_write_150 : decode cX4_write 150 = .ok (.iload 4, 2) := by decide +kernel
theorem dX4_write_152 : decode cX4_write 152 = .ok (.iadd, 1) := by decide +kernel
theorem dX4_write_153 : decode cX4_write 153 = .ok (.invokestatic 48, 3) := by decide +kernel
theorem dX4_write_156 : decode cX4_write 156 = .ok (.if_icmp .ne 9, 3) := by decide +kernel
theorem dX4_write_159 : decode cX4_write 159 = .ok (.iinc 4 1, 3) := by decide +kernel
theorem dX4_write_162 : decode cX4_write 162 = .ok (.goto (-30), 3) := by decide +kernel
theorem dX4_write_165 : decode cX4_write 165 = .ok (.aload_n 0, 1) := by decide +kernel
theorem dX4_write_166 : decode cX4_write 166 = .ok (.iconst 0, 1) := by decide +kernel
theorem dX4_write_167 : decode cX4_write 167 = .ok (.invokevirtual 131, 3) := by decide +kernel
theorem dX4_write_170 : decode cX4_write 170 = .ok (.aload_n 0, 1) := by decide +kernel
theorem dX4_write_171 : decode cX4_write 171 = .ok (.iload 4, 2) := by decide +kernel
theorem dX4_write_173 : decode cX4_write 173 = .ok (.iconst 1, 1) := by decide +kernel
theorem dX4_write_174 : decode cX4_write 174 = .ok (.isub, 1) := by decide +kernel
theorem dX4_write_175 : decode cX4_write 175 = .ok (.invokevirtual 131, 3) := by decide +kernel
theorem dX4_write_178 : decode cX4_write 178 = .ok (.iload_n 2, 1) := by decide +kernel
theorem dX4_write_179 : decode cX4_write 179 = .ok (.iload 4, 2) := by decide +kernel
theorem dX4_write_181 : decode cX4_write 181 = .ok (.iadd, 1) := by decide +kernel
theorem dX4_write_182 : decode cX4_write 182 = .ok (.istore_n 2, 1) := by decide +kernel
theorem dX4_write_183 : decode cX4_write 183 = .ok (.goto (-86), 3) := by decide +kernel
theorem dX4_write_186 : decode cX4_write 186 = .ok (.aload_n 0, 1) := by decide +kernel
theorem dX4_write_187 : decode cX4_write 187 = .ok (.getfield 128, 3) := by decide +kernel
theorem dX4_write_190 : decode cX4_write 190 = .ok (.ireturn, 1) := by decide +kernel
theorem dX4_code_0 : decode cX4_code 0 = .ok (.iload_n 1, 1) := by decide +kernel
theorem dX4_code_1 : decode cX4_code 1 = .ok (.ifCond .lt 20, 3) := by decide +kernel
theorem dX4_code_4 : decode cX4_code 4 = .ok (.iload_n 1, 1) := by decide +kernel
theorem dX4_code_5 : decode cX4_code 5 = .ok (.aload_n 0, 1) := by decide +kernel
theorem dX4_code_6 : decode cX4_code 6 = .ok (.getfield 128, 3) := by decide +kernel
theorem dX4_code_9 : decode cX4_code 9 = .ok (.if_icmp .ge 12, 3) := by decide +kernel
theorem dX4_code_12 : decode cX4_code 12 = .ok (.aload_n 0, 1) := by decide +kernel
theorem dX4_code_13 : decode cX4_code 13 = .ok (.getfield 38, 3) := by decide +kernel
theorem dX4_code_16 : decode cX4_code 16 = .ok (.iload_n 1, 1) := by decide +kernel
theorem dX4_code_17 : decode cX4_code 17 = .ok (.iaload, 1) := by decide +kernel
theorem dX4_code_18 : decode cX4_code 18 = .ok (.goto 4, 3) := by decide +kernel
theorem dX4_code_21 : decode cX4_code 21 = .ok (.iconst (-1), 1) := by decide +kernel
theorem dX4_code_22 : decode cX4_code 22 = .ok (.ireturn, 1) := by decide +kernel
theorem dX4_poke_0 : decode cX4_poke 0 = .ok (.iload_n 1, 1) := by decide +kernel
theorem dX4_poke_1 : decode cX4_poke 1 = .ok (.ifCond .lt 22, 3) := by decide +kernel
theorem dX4_poke_4 : decode cX4_poke 4 = .ok (.iload_n 1, 1) := by decide +kernel
theorem dX4_poke_5 : decode cX4_poke 5 = .ok (.aload_n 0, 1) := by decide +kernel
theorem dX4_poke_6 : decode cX4_poke 6 = .ok (.getfield 128, 3) := by decide +kernel
theorem dX4_poke_9 : decode cX4_poke 9 = .ok (.if_icmp .ge 14, 3) := by decide +kernel
theorem dX4_poke_12 : decode cX4_poke 12 = .ok (.iload_n 2, 1) := by decide +kernel
theorem dX4_poke_13 : decode cX4_poke 13 = .ok (.ifCond .lt 10, 3) := by decide +kernel
theorem dX4_poke_16 : decode cX4_poke 16 = .ok (.iload_n 2, 1) := by decide +kernel
theorem dX4_poke_17 : decode cX4_poke 17 = .ok (.sipush 255, 3) := by decide +kernel
theorem dX4_poke_20 : decode cX4_poke 20 = .ok (.if_icmp .le 6, 3) := by decide +kernel
theorem dX4_poke_23 : decode cX4_poke 23 = .ok (.bipush (-11), 2) := by decide +kernel
theorem dX4_poke_25 : decode cX4_poke 25 = .ok (.ireturn, 1) := by decide +kernel
theorem dX4_poke_26 : decode cX4_poke 26 = .ok (.aload_n 0, 1) := by decide +kernel
theorem dX4_poke_27 : decode cX4_poke 27 = .ok (.getfield 38, 3) := by decide +kernel
theorem dX4_poke_30 : decode cX4_poke 30 = .ok (.iload_n 1, 1) := by decide +kernel
theorem dX4_poke_31 : decode cX4_poke 31 = .ok (.iaload, 1) := by decide +kernel
theorem dX4_poke_32 : decode cX4_poke 32 = .ok (.istore_n 3, 1) := by decide +kernel
theorem dX4_poke_33 : decode cX4_poke 33 = .ok (.aload_n 0, 1) := by decide +kernel
theorem dX4_poke_34 : decode cX4_poke 34 = .ok (.getfield 38, 3) := by decide +kernel
theorem dX4_poke_37 : decode cX4_poke 37 = .ok (.iload_n 1, 1) := by decide +kernel
theorem dX4_poke_38 : decode cX4_poke 38 = .ok (.iload_n 2, 1) := by decide +kernel
theorem dX4_poke_39 : decode cX4_poke 39 = .ok (.iastore, 1) := by decide +kernel
theorem dX4_poke_40 : decode cX4_poke 40 = .ok (.iload_n 3, 1) := by decide +kernel
theorem dX4_poke_41 : decode cX4_poke 41 = .ok (.ireturn, 1) := by decide +kernel
theorem dX4_cut_0 : decode cX4_cut 0 = .ok (.iload_n 1, 1) := by decide +kernel
theorem dX4_cut_1 : decode cX4_cut 1 = .ok (.ifCond .lt 11, 3) := by decide +kernel
theorem dX4_cut_4 : decode cX4_cut 4 = .ok (.iload_n 1, 1) := by decide +kernel
theorem dX4_cut_5 : decode cX4_cut 5 = .ok (.aload_n 0, 1) := by decide +kernel
theorem dX4_cut_6 : decode cX4_cut 6 = .ok (.getfield 128, 3) := by decide +kernel
theorem dX4_cut_9 : decode cX4_cut 9 = .ok (.if_icmp .le 6, 3) := by decide +kernel
theorem dX4_cut_12 : decode cX4_cut 12 = .ok (.bipush (-11), 2) := by decide +kernel
theorem dX4_cut_14 : decode cX4_cut 14 = .ok (.ireturn, 1) := by decide +kernel
theorem dX4_cut_15 : decode cX4_cut 15 = .ok (.aload_n 0, 1) := by decide +kernel
theorem dX4_cut_16 : decode cX4_cut 16 = .ok (.getfield 128, 3) := by decide +kernel
theorem dX4_cut_19 : decode cX4_cut 19 = .ok (.iload_n 1, 1) := by decide +kernel
theorem dX4_cut_20 : decode cX4_cut 20 = .ok (.isub, 1) := by decide +kernel
theorem dX4_cut_21 : decode cX4_cut 21 = .ok (.istore_n 2, 1) := by decide +kernel
theorem dX4_cut_22 : decode cX4_cut 22 = .ok (.aload_n 0, 1) := by decide +kernel
theorem dX4_cut_23 : decode cX4_cut 23 = .ok (.iload_n 1, 1) := by decide +kernel
theorem dX4_cut_24 : decode cX4_cut 24 = .ok (.putfield 128, 3) := by decide +kernel
theorem dX4_cut_27 : decode cX4_cut 27 = .ok (.iload_n 2, 1) := by decide +kernel
theorem dX4_cut_28 : decode cX4_cut 28 = .ok (.ireturn, 1) := by decide +kernel
theorem dX4_two_0 : decode cX4_two 0 = .ok (.aload_n 0, 1) := by decide +kernel
theorem dX4_two_1 : decode cX4_two 1 = .ok (.getfield 38, 3) := by decide +kernel
theorem dX4_two_4 : decode cX4_two 4 = .ok (.iload_n 1, 1) := by decide +kernel
theorem dX4_two_5 : decode cX4_two 5 = .ok (.iaload, 1) := by decide +kernel
theorem dX4_two_6 : decode cX4_two 6 = .ok (.bipush 8, 2) := by decide +kernel
theorem dX4_two_8 : decode cX4_two 8 = .ok (.ishl, 1) := by decide +kernel
theorem dX4_two_9 : decode cX4_two 9 = .ok (.aload_n 0, 1) := by decide +kernel
theorem dX4_two_10 : decode cX4_two 10 = .ok (.getfield 38, 3) := by decide +kernel
theorem dX4_two_13 : decode cX4_two 13 = .ok (.iload_n 1, 1) := by decide +kernel
theorem dX4_two_14 : decode cX4_two 14 = .ok (.iconst 1, 1) := by decide +kernel
theorem dX4_two_15 : decode cX4_two 15 = .ok (.iadd, 1) := by decide +kernel
theorem dX4_two_16 : decode cX4_two 16 = .ok (.iaload, 1) := by decide +kernel
theorem dX4_two_17 : decode cX4_two 17 = .ok (.ior, 1) := by decide +kernel
theorem dX4_two_18 : decode cX4_two 18 = .ok (.ireturn, 1) := by decide +kernel
set_option maxRecDepth 20000 in
theorem ggX4_head_X4_two : GoodIn wsX4_head wsX4_two := goodIn_r _ [11, 12, 16, 17, 18, 19, 20, 21, 22, 23, 24, 25, 26, 27, 28, 29, 30, 31, 32, 33] (by decide +kernel) (by decide +kernel)
set_option maxRecDepth 20000 in
theorem gX4_head_X4_two : GoodIn wsX4_head (wsV RX4 137 RX4 yX4_two wsX4_two) := goodIn_app (goodIn_of _ (by decide +kernel)) ggX4_head_X4_two
set_option maxRecDepth 20000 in
theorem ggX4_head_X4_isSize : GoodIn wsX4_head wsX4_isSize := goodIn_r _ [15] (by decide +kernel) (by decide +kernel)
set_option maxRecDepth 20000 in
theorem gX4_head_X4_isSize : GoodIn wsX4_head (va_wsS RX4 68 yX4_isSize wsX4_isSize) := goodIn_app (goodIn_of _ (by decide +kernel)) ggX4_head_X4_isSize
theorem dX4_head_0 : decode cX4_head 0 = .ok (.iconst 4, 1) := by decide +kernel
theorem dX4_head_1 : decode cX4_head 1 = .ok (.istore_n 1, 1) := by decide +kernel
theorem dX4_head_2 : decode cX4_head 2 = .ok (.aload_n 0, 1) := by decide +kernel
theorem dX4_head_3 : decode cX4_head 3 = .ok (.getfield 128, 3) := by decide +kernel
theorem dX4_head_6 : decode cX4_head 6 = .ok (.iconst 2, 1) := by decide +kernel
theorem dX4_head_7 : decode cX4_head 7 = .ok (.if_icmp .ge 8, 3) := by decide +kernel
theorem dX4_head_10 : decode cX4_head 10 = .ok (.aload_n 0, 1) := by decide +kernel
theorem dX4_head_11 : decode cX4_head 11 = .ok (.getfield 128, 3) := by decide +kernel
theorem dX4_head_14 : decode cX4_head 14 = .ok (.ireturn, 1) := by decide +kernel
theorem dX4_head_15 : decode cX4_head 15 = .ok (.aload_n 0, 1) := by decide +kernel
theorem dX4_head_16 : decode cX4_head 16 = .ok (.getfield 23, 3) := by decide +kernel
theorem dX4_head_19 : decode cX4_head 19 = .ok (.iload_n 1, 1) := by decide +kernel
theorem dX4_head_20 : decode cX4_head 20 = .ok (.aload_n 0, 1) := by decide +kernel
theorem dX4_head_21 : decode cX4_head 21 = .ok (.iconst 0, 1) := by decide +kernel
theorem dX4_head_22 : decode cX4_head 22 = .ok (.invokevirtual 137, 3) := by decide +kernel
theorem dX4_head_25 : decode cX4_head 25 = .ok (.iastore, 1) := by decide +kernel
theorem dX4_head_26 : decode cX4_head 26 = .ok (.aload_n 0, 1) := by decide +kernel
theorem dX4_head_27 : decode cX4_head 27 = .ok (.getfield 23, 3) := by decide +kernel
theorem dX4_head_30 : decode cX4_head 30 = .ok (.iload_n 1, 1) := by decide +kernel
theorem dX4_head_31 : decode cX4_head 31 = .ok (.iaload, 1) := by decide +kernel
theorem dX4_head_32 : decode cX4_head 32 = .ok (.invokestatic 68, 3) := by decide +kernel
theorem dX4_head_35 : decode cX4_head 35 = .ok (.ifCond .ne 5, 3) := by decide +kernel
theorem dX4_head_38 : decode cX4_head 38 = .ok (.iconst 0, 1) := by decide +kernel
theorem dX4_head_39 : decode cX4_head 39 = .ok (.ireturn, 1) := by decide +kernel
theorem dX4_head_40 : decode cX4_head 40 = .ok (.aload_n 0, 1) := by decide +kernel
theorem dX4_head_41 : decode cX4_head 41 = .ok (.getfield 128, 3) := by decide +kernel
theorem dX4_head_44 : decode cX4_head 44 = .ok (.iconst 4, 1) := by decide +kernel
theorem dX4_head_45 : decode cX4_head 45 = .ok (.if_icmp .ge 8, 3) := by decide +kernel
theorem dX4_head_48 : decode cX4_head 48 = .ok (.aload_n 0, 1) := by decide +kernel
theorem dX4_head_49 : decode cX4_head 49 = .ok (.getfield 128, 3) := by decide +kernel
theorem dX4_head_52 : decode cX4_head 52 = .ok (.ireturn, 1) := by decide +kernel
theorem dX4_head_53 : decode cX4_head 53 = .ok (.aload_n 0, 1) := by decide +kernel
theorem dX4_head_54 : decode cX4_head 54 = .ok (.getfield 26, 3) := by decide +kernel
theorem dX4_head_57 : decode cX4_head 57 = .ok (.iload_n 1, 1) := by decide +kernel
theorem dX4_head_58 : decode cX4_head 58 = .ok (.aload_n 0, 1) := by decide +kernel
theorem dX4_head_59 : decode cX4_head 59 = .ok (.iconst 2, 1) := by decide +kernel
theorem dX4_head_60 : decode cX4_head 60 = .ok (.invokevirtual 137, 3) := by decide +kernel
theorem dX4_head_63 : decode cX4_head 63 = .ok (.iastore, 1) := by decide +kernel
theorem dX4_head_64 : decode cX4_head 64 = .ok (.aload_n 0, 1) := by decide +kernel
theorem dX4_head_65 : decode cX4_head 65 = .ok (.getfield 26, 3) := by decide +kernel
theorem dX4_head_68 : decode cX4_head 68 = .ok (.iload_n 1, 1) := by decide +kernel
theorem dX4_head_69 : decode cX4_head 69 = .ok (.iaload, 1) := by decide +kernel
theorem dX4_head_70 : decode cX4_head 70 = .ok (.ifCond .eq 32, 3) := by decide +kernel
theorem dX4_head_73 : decode cX4_head 73 = .ok (.aload_n 0, 1) := by decide +kernel
theorem dX4_head_74 : decode cX4_head 74 = .ok (.getfield 26, 3) := by decide +kernel
theorem dX4_head_77 : decode cX4_head 77 = .ok (.iload_n 1, 1) := by decide +kernel
theorem dX4_head_78 : decode cX4_head 78 = .ok (.iaload, 1) := by decide +kernel
theorem dX4_head_79 : decode cX4_head 79 = .ok (.invokestatic 68, 3) := by decide +kernel
theorem dX4_head_82 : decode cX4_head 82 = .ok (.ifCond .eq 18, 3) := by decide +kernel
theorem dX4_head_85 : decode cX4_head 85 = .ok (.aload_n 0, 1) := by decide +kernel
theorem dX4_head_86 : decode cX4_head 86 = .ok (.getfield 26, 3) := by decide +kernel
theorem dX4_head_89 : decode cX4_head 89 = .ok (.iload_n 1, 1) := by decide +kernel
theorem dX4_head_90 : decode cX4_head 90 = .ok (.iaload, 1) := by decide +kernel
theorem dX4_head_91 : decode cX4_head 91 = .ok (.aload_n 0, 1) := by decide +kernel
theorem dX4_head_92 : decode cX4_head 92 = .ok (.getfield 23, 3) := by decide +kernel
theorem dX4_head_95 : decode cX4_head 95 = .ok (.iload_n 1, 1) := by decide +kernel
theorem dX4_head_96 : decode cX4_head 96 = .ok (.iaload, 1) := by decide +kernel
theorem dX4_head_97 : decode cX4_head 97 = .ok (.if_icmp .lt 5, 3) := by decide +kernel
theorem dX4_head_100 : decode cX4_head 100 = .ok (.iconst 2, 1) := by decide +kernel
theorem dX4_head_101 : decode cX4_head 101 = .ok (.ireturn, 1) := by decide +kernel
theorem dX4_head_102 : decode cX4_head 102 = .ok (.aload_n 0, 1) := by decide +kernel
theorem dX4_head_103 : decode cX4_head 103 = .ok (.getfield 128, 3) := by decide +kernel
theorem dX4_head_106 : decode cX4_head 106 = .ok (.bipush 6, 2) := by decide +kernel
theorem dX4_head_108 : decode cX4_head 108 = .ok (.if_icmp .ge 8, 3) := by decide +kernel
theorem dX4_head_111 : decode cX4_head 111 = .ok (.aload_n 0, 1) := by decide +kernel
theorem dX4_head_112 : decode cX4_head 112 = .ok (.getfield 128, 3) := by decide +kernel
theorem dX4_head_115 : decode cX4_head 115 = .ok (.ireturn, 1) := by decide +kernel
theorem dX4_head_116 : decode cX4_head 116 = .ok (.aload_n 0, 1) := by decide +kernel
theorem dX4_head_117 : decode cX4_head 117 = .ok (.getfield 29, 3) := by decide +kernel
theorem dX4_head_120 : decode cX4_head 120 = .ok (.iload_n 1, 1) := by decide +kernel
theorem dX4_head_121 : decode cX4_head 121 = .ok (.aload_n 0, 1) := by decide +kernel
theorem dX4_head_122 : decode cX4_head 122 = .ok (.iconst 4, 1) := by decide +kernel
theorem dX4_head_123 : decode cX4_head 123 = .ok (.invokevirtual 137, 3) := by decide +kernel
theorem dX4_head_126 : decode cX4_head 126 = .ok (.iastore, 1) := by decide +kernel
theorem dX4_head_127 : decode cX4_head 127 = .ok (.aload_n 0, 1) := by decide +kernel
theorem dX4_head_128 : decode cX4_head 128 = .ok (.getfield 29, 3) := by decide +kernel
theorem dX4_head_131 : decode cX4_head 131 = .ok (.iload_n 1, 1) := by decide +kernel
theorem dX4_head_132 : decode cX4_head 132 = .ok (.iaload, 1) := by decide +kernel
theorem dX4_head_133 : decode cX4_head 133 = .ok (.bipush 64, 2) := by decide +kernel
theorem dX4_head_135 : decode cX4_head 135 = .ok (.if_icmp .gt 34, 3) := by decide +kernel
theorem dX4_head_138 : decode cX4_head 138 = .ok (.aload_n 0, 1) := by decide +kernel
theorem dX4_head_139 : decode cX4_head 139 = .ok (.getfield 29, 3) := by decide +kernel
theorem dX4_head_142 : decode cX4_head 142 = .ok (.iload_n 1, 1) := by decide +kernel
theorem dX4_head_143 : decode cX4_head 143 = .ok (.iaload, 1) := by decide +kernel
theorem dX4_head_144 : decode cX4_head 144 = .ok (.ifCond .ne 7, 3) := by decide +kernel
theorem dX4_head_147 : decode cX4_head 147 = .ok (.iconst 1, 1) := by decide +kernel
theorem dX4_head_148 : decode cX4_head 148 = .ok (.goto 4, 3) := by decide +kernel
theorem dX4_head_151 : decode cX4_head 151 = .ok (.iconst 0, 1) := by decide +kernel
theorem dX4_head_152 : decode cX4_head 152 = .ok (.aload_n 0, 1) := by decide +kernel
theorem dX4_head_153 : decode cX4_head 153 = .ok (.getfield 26, 3) := by decide +kernel
theorem dX4_head_156 : decode cX4_head 156 = .ok (.iload_n 1, 1) := by decide +kernel
theorem dX4_head_157 : decode cX4_head 157 = .ok (.iaload, 1) := by decide +kernel
theorem dX4_head_158 : decode cX4_head 158 = .ok (.ifCond .ne 7, 3) := by decide +kernel
theorem dX4_head_161 : decode cX4_head 161 = .ok (.iconst 1, 1) := by decide +kernel
theorem dX4_head_162 : decode cX4_head 162 = .ok (.goto 4, 3) := by decide +kernel
theorem dX4_head_165 : decode cX4_head 165 = .ok (.iconst 0, 1) := by decide +kernel
theorem dX4_head_166 : decode cX4_head 166 = .ok (.if_icmp .eq 5, 3) := by decide +kernel
theorem dX4_head_169 : decode cX4_head 169 = .ok (.iconst 4, 1) := by decide +kernel
theorem dX4_head_170 : decode cX4_head 170 = .ok (.ireturn, 1) := by decide +kernel
theorem dX4_head_171 : decode cX4_head 171 = .ok (.aload_n 0, 1) := by decide +kernel
theorem dX4_head_172 : decode cX4_head 172 = .ok (.getfield 26, 3) := by decide +kernel
theorem dX4_head_175 : decode cX4_head 175 = .ok (.iload_n 1, 1) := by decide +kernel
theorem dX4_head_176 : decode cX4_head 176 = .ok (.iaload, 1) := by decide +kernel
theorem dX4_head_177 : decode cX4_head 177 = .ok (.istore_n 2, 1) := by decide +kernel
theorem dX4_head_178 : decode cX4_head 178 = .ok (.iconst 0, 1) := by decide +kernel
theorem dX4_head_179 : decode cX4_head 179 = .ok (.istore_n 3, 1) := by decide +kernel
theorem dX4_head_180 : decode cX4_head 180 = .ok (.iload_n 3, 1) := by decide +kernel
theorem dX4_head_181 : decode cX4_head 181 = .ok (.aload_n 0, 1) := by decide +kernel
theorem dX4_head_182 : decode cX4_head 182 = .ok (.getfield 29, 3) := by decide +kernel
theorem dX4_head_185 : decode cX4_head 185 = .ok (.iload_n 1, 1) := by decide +kernel
theorem dX4_head_186 : decode cX4_head 186 = .ok (.iaload, 1) := by decide +kernel
theorem dX4_head_187 : decode cX4_head 187 = .ok (.if_icmp .ge 132, 3) := by decide +kernel
theorem dX4_head_190 : decode cX4_head 190 = .ok (.bipush 6, 2) := by decide +kernel
theorem dX4_head_192 : decode cX4_head 192 = .ok (.iconst 4, 1) := by decide +kernel
theorem dX4_head_193 : decode cX4_head 193 = .ok (.iload_n 3, 1) := by decide +kernel
theorem dX4_head_194 : decode cX4_head 194 = .ok (.imul, 1) := by decide +kernel
theorem dX4_head_195 : decode cX4_head 195 = .ok (.iadd, 1) := by decide +kernel
theorem dX4_head_196 : decode cX4_head 196 = .ok (.istore 4, 2) := by decide +kernel
theorem dX4_head_198 : decode cX4_head 198 = .ok (.aload_n 0, 1) := by decide +kernel
theorem dX4_head_199 : decode cX4_head 199 = .ok (.getfield 128, 3) := by decide +kernel
theorem dX4_head_202 : decode cX4_head 202 = .ok (.iload 4, 2) := by decide +kernel
theorem dX4_head_204 : decode cX4_head 204 = .ok (.iconst 2, 1) := by decide +kernel
theorem dX4_head_205 : decode cX4_head 205 = .ok (.iadd, 1) := by decide +kernel
theorem dX4_head_206 : decode cX4_head 206 = .ok (.if_icmp .ge 8, 3) := by decide +kernel
theorem dX4_head_209 : decode cX4_head 209 = .ok (.aload_n 0, 1) := by decide +kernel
theorem dX4_head_210 : decode cX4_head 210 = .ok (.getfield 128, 3) := by decide +kernel
theorem dX4_head_213 : decode cX4_head 213 = .ok (.ireturn, 1) := by decide +kernel
theorem dX4_head_214 : decode cX4_head 214 = .ok (.aload_n 0, 1) := by decide +kernel
theorem dX4_head_215 : decode cX4_head 215 = .ok (.iload 4, 2) := by decide +kernel
theorem dX4_head_217 : decode cX4_head 217 = .ok (.invokevirtual 137, 3) := by decide +kernel
theorem dX4_head_220 : decode cX4_head 220 = .ok (.istore 5, 2) := by decide +kernel
theorem dX4_head_222 : decode cX4_head 222 = .ok (.iload 5, 2) := by decide +kernel
theorem dX4_head_224 : decode cX4_head 224 = .ok (.iload_n 2, 1) := by decide +kernel
theorem dX4_head_225 : decode cX4_head 225 = .ok (.if_icmp .ge 6, 3) := by decide +kernel
theorem dX4_head_228 : decode cX4_head 228 = .ok (.iload 4, 2) := by decide +kernel
theorem dX4_head_230 : decode cX4_head 230 = .ok (.ireturn, 1) := by decide +kernel
theorem dX4_head_231 : decode cX4_head 231 = .ok (.aload_n 0, 1) := by decide +kernel
theorem dX4_head_232 : decode cX4_head 232 = .ok (.getfield 128, 3) := by decide +kernel
theorem dX4_head_235 : decode cX4_head 235 = .ok (.iload 4, 2) := by decide +kernel
theorem dX4_head_237 : decode cX4_head 237 = .ok (.iconst 4, 1) := by decide +kernel
theorem dX4_head_238 : decode cX4_head 238 = .ok (.iadd, 1) := by decide +kernel
theorem dX4_head_239 : decode cX4_head 239 = .ok (.if_icmp .ge 8, 3) := by decide +kernel
theorem dX4_head_242 : decode cX4_head 242 = .ok (.aload_n 0, 1) := by decide +kernel
theorem dX4_head_243 : decode cX4_head 243 = .ok (.getfield 128, 3) := by decide +kernel
theorem dX4_head_246 : decode cX4_head 246 = .ok (.ireturn, 1) := by decide +kernel
theorem dX4_head_247 : decode cX4_head 247 = .ok (.aload_n 0, 1) := by decide +kernel
theorem dX4_head_248 : decode cX4_head 248 = .ok (.iload 4, 2) := by decide +kernel
theorem dX4_head_250 : decode cX4_head 250 = .ok (.iconst 2, 1) := by decide +kernel
theorem dX4_head_251 : decode cX4_head 251 = .ok (.iadd, 1) := by decide +kernel
theorem dX4_head_252 : decode cX4_head 252 = .ok (.invokevirtual 137, 3) := by decide +kernel
theorem dX4_head_255 : decode cX4_head 255 = .ok (.istore 6, 2) := by decide +kernel
theorem dX4_head_257 : decode cX4_head 257 = .ok (.iload 6, 2) := by decide +kernel
theorem dX4_head_259 : decode cX4_head 259 = .ok (.ifCond .eq 17, 3) := by decide +kernel
theorem dX4_head_262 : decode cX4_head 262 = .ok (.iload 5, 2) := by decide +kernel
theorem dX4_head_264 : decode cX4_head 264 = .ok (.iload 6, 2) := by decide +kernel
theorem dX4_head_266 : decode cX4_head 266 = .ok (.iadd, 1) := by decide +kernel
theorem dX4_head_267 : decode cX4_head 267 = .ok (.aload_n 0, 1) := by decide +kernel
theorem dX4_head_268 : decode cX4_head 268 = .ok (.getfield 23, 3) := by decide +kernel
theorem dX4_head_271 : decode cX4_head 271 = .ok (.iload_n 1, 1) := by decide +kernel
theorem dX4_head_272 : decode cX4_head 272 = .ok (.iaload, 1) := by decide +kernel
theorem dX4_head_273 : decode cX4_head 273 = .ok (.if_icmp .le 8, 3) := by decide +kernel
theorem dX4_head_276 : decode cX4_head 276 = .ok (.iload 4, 2) := by decide +kernel
theorem dX4_head_278 : decode cX4_head 278 = .ok (.iconst 2, 1) := by decide +kernel
theorem dX4_head_279 : decode cX4_head 279 = .ok (.iadd, 1) := by decide +kernel
theorem dX4_head_280 : decode cX4_head 280 = .ok (.ireturn, 1) := by decide +kernel
theorem dX4_head_281 : decode cX4_head 281 = .ok (.aload_n 0, 1) := by decide +kernel
theorem dX4_head_282 : decode cX4_head 282 = .ok (.getfield 32, 3) := by decide +kernel
theorem dX4_head_285 : decode cX4_head 285 = .ok (.bipush 64, 2) := by decide +kernel
theorem dX4_head_287 : decode cX4_head 287 = .ok (.iload_n 1, 1) := by decide +kernel
theorem dX4_head_288 : decode cX4_head 288 = .ok (.imul, 1) := by decide +kernel
theorem dX4_head_289 : decode cX4_head 289 = .ok (.iload_n 3, 1) := by decide +kernel
theorem dX4_head_290 : decode cX4_head 290 = .ok (.iadd, 1) := by decide +kernel
theorem dX4_head_291 : decode cX4_head 291 = .ok (.iload 5, 2) := by decide +kernel
theorem dX4_head_293 : decode cX4_head 293 = .ok (.iastore, 1) := by decide +kernel
theorem dX4_head_294 : decode cX4_head 294 = .ok (.aload_n 0, 1) := by decide +kernel
theorem dX4_head_295 : decode cX4_head 295 = .ok (.getfield 35, 3) := by decide +kernel
theorem dX4_head_298 : decode cX4_head 298 = .ok (.bipush 64, 2) := by decide +kernel
theorem dX4_head_300 : decode cX4_head 300 = .ok (.iload_n 1, 1) := by decide +kernel
theorem dX4_head_301 : decode cX4_head 301 = .ok (.imul, 1) := by decide +kernel
theorem dX4_head_302 : decode cX4_head 302 = .ok (.iload_n 3, 1) := by decide +kernel
theorem dX4_head_303 : decode cX4_head 303 = .ok (.iadd, 1) := by decide +kernel
theorem dX4_head_304 : decode cX4_head 304 = .ok (.iload 6, 2) := by decide +kernel
theorem dX4_head_306 : decode cX4_head 306 = .ok (.iastore, 1) := by decide +kernel
theorem dX4_head_307 : decode cX4_head 307 = .ok (.iload 5, 2) := by decide +kernel
theorem dX4_head_309 : decode cX4_head 309 = .ok (.iload 6, 2) := by decide +kernel
theorem dX4_head_311 : decode cX4_head 311 = .ok (.iadd, 1) := by decide +kernel
theorem dX4_head_312 : decode cX4_head 312 = .ok (.istore_n 2, 1) := by decide +kernel
theorem dX4_head_313 : decode cX4_head 313 = .ok (.iinc 3 1, 3) := by decide +kernel
theorem dX4_head_316 : decode cX4_head 316 = .ok (.goto (-136), 3) := by decide +kernel
theorem dX4_head_319 : decode cX4_head 319 = .ok (.iconst (-1), 1) := by decide +kernel
theorem dX4_head_320 : decode cX4_head 320 = .ok (.ireturn, 1) := by decide +kernel
set_option maxRecDepth 20000 in
theorem ggX4_read_X4_head : GoodIn wsX4_read wsX4_head := goodIn_r _ [11, 3, 5, 12, 2, 13, 14, 15, 16, 17, 10, 18, 4, 19, 20, 21, 36, 37, 38, 39, 40, 41, 42, 43, 44, 45, 46, 47, 48, 49, 50, 51, 52, 53] (by decide +kernel) (by decide +kernel)
set_option maxRecDepth 20000 in
theorem gX4_read_X4_head : GoodIn wsX4_read (wsV RX4 140 RX4 yX4_head wsX4_head) := goodIn_app (goodIn_of _ (by decide +kernel)) ggX4_read_X4_head
set_option maxRecDepth 20000 in
theorem ggX4_read_X4_first : GoodIn wsX4_read wsX4_first := goodIn_r _ [24] (by decide +kernel) (by decide +kernel)
set_option maxRecDepth 20000 in
theorem gX4_read_X4_first : GoodIn wsX4_read (va_wsS RX4 48 yX4_first wsX4_first) := goodIn_app (goodIn_of _ (by decide +kernel)) ggX4_read_X4_first
set_option maxRecDepth 20000 in
theorem ggX4_read_X4_come : GoodIn wsX4_read wsX4_come := goodIn_r _ [28, 6, 5, 29, 30, 31, 1, 12, 32, 2, 33, 34, 13, 35, 14, 36, 37, 38, 39, 40, 41, 42, 43, 44, 45, 46, 47, 48, 49, 50, 51, 52, 53] (by decide +kernel) (by decide +kernel)
set_option maxRecDepth 20000 in
theorem gX4_read_X4_come : GoodIn wsX4_read (wsV RX4 124 RX4 yX4_come wsX4_come) := goodIn_app (goodIn_of _ (by decide +kernel)) ggX4_read_X4_come
theorem dX4_read_0 : decode cX4_read 0 = .ok (.aload_n 0, 1) := by decide +kernel
theorem dX4_read_1 : decode cX4_read 1 = .ok (.invokevirtual 140, 3) := by decide +kernel
theorem dX4_read_4 : decode cX4_read 4 = .ok (.istore_n 1, 1) := by decide +kernel
theorem dX4_read_5 : decode cX4_read 5 = .ok (.iload_n 1, 1) := by decide +kernel
theorem dX4_read_6 : decode cX4_read 6 = .ok (.iconst (-1), 1) := by decide +kernel
theorem dX4_read_7 : decode cX4_read 7 = .ok (.if_icmp .eq 8, 3) := by decide +kernel
theorem dX4_read_10 : decode cX4_read 10 = .ok (.bipush (-100), 2) := by decide +kernel
theorem dX4_read_12 : decode cX4_read 12 = .ok (.iload_n 1, 1) := by decide +kernel
theorem dX4_read_13 : decode cX4_read 13 = .ok (.isub, 1) := by decide +kernel
theorem dX4_read_14 : decode cX4_read 14 = .ok (.ireturn, 1) := by decide +kernel
theorem dX4_read_15 : decode cX4_read 15 = .ok (.iconst 4, 1) := by decide +kernel
theorem dX4_read_16 : decode cX4_read 16 = .ok (.istore_n 2, 1) := by decide +kernel
theorem dX4_read_17 : decode cX4_read 17 = .ok (.sipush 8192, 3) := by decide +kernel
theorem dX4_read_20 : decode cX4_read 20 = .ok (.iload_n 2, 1) := by decide +kernel
theorem dX4_read_21 : decode cX4_read 21 = .ok (.imul, 1) := by decide +kernel
theorem dX4_read_22 : decode cX4_read 22 = .ok (.istore_n 3, 1) := by decide +kernel
theorem dX4_read_23 : decode cX4_read 23 = .ok (.iconst 0, 1) := by decide +kernel
theorem dX4_read_24 : decode cX4_read 24 = .ok (.istore 4, 2) := by decide +kernel
theorem dX4_read_26 : decode cX4_read 26 = .ok (.iload 4, 2) := by decide +kernel
theorem dX4_read_28 : decode cX4_read 28 = .ok (.sipush 8192, 3) := by decide +kernel
theorem dX4_read_31 : decode cX4_read 31 = .ok (.if_icmp .ge 23, 3) := by decide +kernel
theorem dX4_read_34 : decode cX4_read 34 = .ok (.aload_n 0, 1) := by decide +kernel
theorem dX4_read_35 : decode cX4_read 35 = .ok (.getfield 20, 3) := by decide +kernel
theorem dX4_read_38 : decode cX4_read 38 = .ok (.iload_n 3, 1) := by decide +kernel
theorem dX4_read_39 : decode cX4_read 39 = .ok (.iload 4, 2) := by decide +kernel
theorem dX4_read_41 : decode cX4_read 41 = .ok (.iadd, 1) := by decide +kernel
theorem dX4_read_42 : decode cX4_read 42 = .ok (.iload 4, 2) := by decide +kernel
theorem dX4_read_44 : decode cX4_read 44 = .ok (.invokestatic 48, 3) := by decide +kernel
theorem dX4_read_47 : decode cX4_read 47 = .ok (.iastore, 1) := by decide +kernel
theorem dX4_read_48 : decode cX4_read 48 = .ok (.iinc 4 1, 3) := by decide +kernel
theorem dX4_read_51 : decode cX4_read 51 = .ok (.goto (-25), 3) := by decide +kernel
theorem dX4_read_54 : decode cX4_read 54 = .ok (.iconst 0, 1) := by decide +kernel
theorem dX4_read_55 : decode cX4_read 55 = .ok (.istore 4, 2) := by decide +kernel
theorem dX4_read_57 : decode cX4_read 57 = .ok (.bipush 6, 2) := by decide +kernel
theorem dX4_read_59 : decode cX4_read 59 = .ok (.iconst 4, 1) := by decide +kernel
theorem dX4_read_60 : decode cX4_read 60 = .ok (.aload_n 0, 1) := by decide +kernel
theorem dX4_read_61 : decode cX4_read 61 = .ok (.getfield 29, 3) := by decide +kernel
theorem dX4_read_64 : decode cX4_read 64 = .ok (.iload_n 2, 1) := by decide +kernel
theorem dX4_read_65 : decode cX4_read 65 = .ok (.iaload, 1) := by decide +kernel
theorem dX4_read_66 : decode cX4_read 66 = .ok (.imul, 1) := by decide +kernel
theorem dX4_read_67 : decode cX4_read 67 = .ok (.iadd, 1) := by decide +kernel
theorem dX4_read_68 : decode cX4_read 68 = .ok (.istore 5, 2) := by decide +kernel
theorem dX4_read_70 : decode cX4_read 70 = .ok (.iload 5, 2) := by decide +kernel
theorem dX4_read_72 : decode cX4_read 72 = .ok (.aload_n 0, 1) := by decide +kernel
theorem dX4_read_73 : decode cX4_read 73 = .ok (.getfield 128, 3) := by decide +kernel
theorem dX4_read_76 : decode cX4_read 76 = .ok (.if_icmp .ge 136, 3) := by decide +kernel
theorem dX4_read_79 : decode cX4_read 79 = .ok (.aload_n 0, 1) := by decide +kernel
theorem dX4_read_80 : decode cX4_read 80 = .ok (.getfield 38, 3) := by decide +kernel
theorem dX4_read_83 : decode cX4_read 83 = .ok (.iload 5, 2) := by decide +kernel
theorem dX4_read_85 : decode cX4_read 85 = .ok (.iaload, 1) := by decide +kernel
theorem dX4_read_86 : decode cX4_read 86 = .ok (.istore 6, 2) := by decide +kernel
theorem dX4_read_88 : decode cX4_read 88 = .ok (.iload 6, 2) := by decide +kernel
theorem dX4_read_90 : decode cX4_read 90 = .ok (.ifCond .eq 53, 3) := by decide +kernel
theorem dX4_read_93 : decode cX4_read 93 = .ok (.iload 4, 2) := by decide +kernel
theorem dX4_read_95 : decode cX4_read 95 = .ok (.aload_n 0, 1) := by decide +kernel
theorem dX4_read_96 : decode cX4_read 96 = .ok (.getfield 23, 3) := by decide +kernel
theorem dX4_read_99 : decode cX4_read 99 = .ok (.iload_n 2, 1) := by decide +kernel
theorem dX4_read_100 : decode cX4_read 100 = .ok (.iaload, 1) := by decide +kernel
theorem dX4_read_101 : decode cX4_read 101 = .ok (.if_icmp .ge 10, 3) := by decide +kernel
theorem dX4_read_104 : decode cX4_read 104 = .ok (.iload 4, 2) := by decide +kernel
theorem dX4_read_106 : decode cX4_read 106 = .ok (.bipush 64, 2) := by decide +kernel
theorem dX4_read_108 : decode cX4_read 108 = .ok (.if_icmp .ge 9, 3) := by decide +kernel
theorem dX4_read_111 : decode cX4_read 111 = .ok (.bipush (-100), 2) := by decide +kernel
theorem dX4_read_113 : decode cX4_read 113 = .ok (.iload 5, 2) := by decide +kernel
theorem dX4_read_115 : decode cX4_read 115 = .ok (.isub, 1) := by decide +kernel
theorem dX4_read_116 : decode cX4_read 116 = .ok (.ireturn, 1) := by decide +kernel
theorem dX4_read_117 : decode cX4_read 117 = .ok (.aload_n 0, 1) := by decide +kernel
theorem dX4_read_118 : decode cX4_read 118 = .ok (.getfield 20, 3) := by decide +kernel
theorem dX4_read_121 : decode cX4_read 121 = .ok (.iload_n 3, 1) := by decide +kernel
theorem dX4_read_122 : decode cX4_read 122 = .ok (.iload 4, 2) := by decide +kernel
theorem dX4_read_124 : decode cX4_read 124 = .ok (.iadd, 1) := by decide +kernel
theorem dX4_read_125 : decode cX4_read 125 = .ok (.iload 6, 2) := by decide +kernel
theorem dX4_read_127 : decode cX4_read 127 = .ok (.iload 4, 2) := by decide +kernel
theorem dX4_read_129 : decode cX4_read 129 = .ok (.invokestatic 48, 3) := by decide +kernel
theorem dX4_read_132 : decode cX4_read 132 = .ok (.ixor, 1) := by decide +kernel
theorem dX4_read_133 : decode cX4_read 133 = .ok (.iastore, 1) := by decide +kernel
theorem dX4_read_134 : decode cX4_read 134 = .ok (.iinc 4 1, 3) := by decide +kernel
theorem dX4_read_137 : decode cX4_read 137 = .ok (.iinc 5 1, 3) := by decide +kernel
theorem dX4_read_140 : decode cX4_read 140 = .ok (.goto 69, 3) := by decide +kernel
theorem dX4_read_143 : decode cX4_read 143 = .ok (.iload 5, 2) := by decide +kernel
theorem dX4_read_145 : decode cX4_read 145 = .ok (.iconst 1, 1) := by decide +kernel
theorem dX4_read_146 : decode cX4_read 146 = .ok (.iadd, 1) := by decide +kernel
theorem dX4_read_147 : decode cX4_read 147 = .ok (.aload_n 0, 1) := by decide +kernel
theorem dX4_read_148 : decode cX4_read 148 = .ok (.getfield 128, 3) := by decide +kernel
theorem dX4_read_151 : decode cX4_read 151 = .ok (.if_icmp .ne 11, 3) := by decide +kernel
theorem dX4_read_154 : decode cX4_read 154 = .ok (.bipush (-100), 2) := by decide +kernel
theorem dX4_read_156 : decode cX4_read 156 = .ok (.aload_n 0, 1) := by decide +kernel
theorem dX4_read_157 : decode cX4_read 157 = .ok (.getfield 128, 3) := by decide +kernel
theorem dX4_read_160 : decode cX4_read 160 = .ok (.isub, 1) := by decide +kernel
theorem dX4_read_161 : decode cX4_read 161 = .ok (.ireturn, 1) := by decide +kernel
theorem dX4_read_162 : decode cX4_read 162 = .ok (.iload 4, 2) := by decide +kernel
theorem dX4_read_164 : decode cX4_read 164 = .ok (.aload_n 0, 1) := by decide +kernel
theorem dX4_read_165 : decode cX4_read 165 = .ok (.getfield 38, 3) := by decide +kernel
theorem dX4_read_168 : decode cX4_read 168 = .ok (.iload 5, 2) := by decide +kernel
theorem dX4_read_170 : decode cX4_read 170 = .ok (.iconst 1, 1) := by decide +kernel
theorem dX4_read_171 : decode cX4_read 171 = .ok (.iadd, 1) := by decide +kernel
theorem dX4_read_172 : decode cX4_read 172 = .ok (.iaload, 1) := by decide +kernel
theorem dX4_read_173 : decode cX4_read 173 = .ok (.iconst 1, 1) := by decide +kernel
theorem dX4_read_174 : decode cX4_read 174 = .ok (.iadd, 1) := by decide +kernel
theorem dX4_read_175 : decode cX4_read 175 = .ok (.iadd, 1) := by decide +kernel
theorem dX4_read_176 : decode cX4_read 176 = .ok (.istore 4, 2) := by decide +kernel
theorem dX4_read_178 : decode cX4_read 178 = .ok (.iload 4, 2) := by decide +kernel
theorem dX4_read_180 : decode cX4_read 180 = .ok (.aload_n 0, 1) := by decide +kernel
theorem dX4_read_181 : decode cX4_read 181 = .ok (.getfield 23, 3) := by decide +kernel
theorem dX4_read_184 : decode cX4_read 184 = .ok (.iload_n 2, 1) := by decide +kernel
theorem dX4_read_185 : decode cX4_read 185 = .ok (.iaload, 1) := by decide +kernel
theorem dX4_read_186 : decode cX4_read 186 = .ok (.if_icmp .gt 14, 3) := by decide +kernel
theorem dX4_read_189 : decode cX4_read 189 = .ok (.iload 5, 2) := by decide +kernel
theorem dX4_read_191 : decode cX4_read 191 = .ok (.iconst 2, 1) := by decide +kernel
theorem dX4_read_192 : decode cX4_read 192 = .ok (.iadd, 1) := by decide +kernel
theorem dX4_read_193 : decode cX4_read 193 = .ok (.aload_n 0, 1) := by decide +kernel
theorem dX4_read_194 : decode cX4_read 194 = .ok (.getfield 128, 3) := by decide +kernel
theorem dX4_read_197 : decode cX4_read 197 = .ok (.if_icmp .ne 9, 3) := by decide +kernel
theorem dX4_read_200 : decode cX4_read 200 = .ok (.bipush (-100), 2) := by decide +kernel
theorem dX4_read_202 : decode cX4_read 202 = .ok (.iload 5, 2) := by decide +kernel
theorem dX4_read_204 : decode cX4_read 204 = .ok (.isub, 1) := by decide +kernel
theorem dX4_read_205 : decode cX4_read 205 = .ok (.ireturn, 1) := by decide +kernel
theorem dX4_read_206 : decode cX4_read 206 = .ok (.iinc 5 2, 3) := by decide +kernel
theorem dX4_read_209 : decode cX4_read 209 = .ok (.goto (-139), 3) := by decide +kernel
theorem dX4_read_212 : decode cX4_read 212 = .ok (.aload_n 0, 1) := by decide +kernel
theorem dX4_read_213 : decode cX4_read 213 = .ok (.iload_n 2, 1) := by decide +kernel
theorem dX4_read_214 : decode cX4_read 214 = .ok (.invokevirtual 124, 3) := by decide +kernel
theorem dX4_read_217 : decode cX4_read 217 = .ok (.aload_n 0, 1) := by decide +kernel
theorem dX4_read_218 : decode cX4_read 218 = .ok (.getfield 44, 3) := by decide +kernel
theorem dX4_read_221 : decode cX4_read 221 = .ok (.ireturn, 1) := by decide +kernel
set_option maxRecDepth 20000 in
theorem ggX4_told_X4_gapEnd : GoodIn wsX4_told wsX4_gapEnd := goodIn_r _ [13, 1, 3, 14, 23, 24, 25, 26, 27, 28, 29, 30, 31, 32, 33, 34, 35, 36, 37, 38, 39, 40] (by decide +kernel) (by decide +kernel)
set_option maxRecDepth 20000 in
theorem gX4_told_X4_gapEnd : GoodIn wsX4_told (wsV RX4 84 RX4 yX4_gapEnd wsX4_gapEnd) := goodIn_app (goodIn_of _ (by decide +kernel)) ggX4_told_X4_gapEnd
set_option maxRecDepth 20000 in
theorem ggX4_told_X4_gapAt : GoodIn wsX4_told wsX4_gapAt := goodIn_r _ [18, 4, 19, 20, 21, 12, 22, 14, 2, 23, 24, 25, 26, 27, 28, 29, 30, 31, 32, 33, 34, 35, 36, 37, 38, 39, 40] (by decide +kernel) (by decide +kernel)
set_option maxRecDepth 20000 in
theorem gX4_told_X4_gapAt : GoodIn wsX4_told (wsV RX4 87 RX4 yX4_gapAt wsX4_gapAt) := goodIn_app (goodIn_of _ (by decide +kernel)) ggX4_told_X4_gapAt
theorem dX4_told_0 : decode cX4_told 0 = .ok (.iconst 0, 1) := by decide +kernel
theorem dX4_told_1 : decode cX4_told 1 = .ok (.istore_n 2, 1) := by decide +kernel
theorem dX4_told_2 : decode cX4_told 2 = .ok (.iconst 0, 1) := by decide +kernel
theorem dX4_told_3 : decode cX4_told 3 = .ok (.istore_n 3, 1) := by decide +kernel
theorem dX4_told_4 : decode cX4_told 4 = .ok (.iconst 0, 1) := by decide +kernel
theorem dX4_told_5 : decode cX4_told 5 = .ok (.istore 4, 2) := by decide +kernel
theorem dX4_told_7 : decode cX4_told 7 = .ok (.iload 4, 2) := by decide +kernel
theorem dX4_told_9 : decode cX4_told 9 = .ok (.aload_n 0, 1) := by decide +kernel
theorem dX4_told_10 : decode cX4_told 10 = .ok (.getfield 71, 3) := by decide +kernel
theorem dX4_told_13 : decode cX4_told 13 = .ok (.if_icmp .ge 42, 3) := by decide +kernel
theorem dX4_told_16 : decode cX4_told 16 = .ok (.iload_n 2, 1) := by decide +kernel
theorem dX4_told_17 : decode cX4_told 17 = .ok (.aload_n 0, 1) := by decide +kernel
theorem dX4_told_18 : decode cX4_told 18 = .ok (.getfield 16, 3) := by decide +kernel
theorem dX4_told_21 : decode cX4_told 21 = .ok (.iload 4, 2) := by decide +kernel
theorem dX4_told_23 : decode cX4_told 23 = .ok (.iaload, 1) := by decide +kernel
theorem dX4_told_24 : decode cX4_told 24 = .ok (.iadd, 1) := by decide +kernel
theorem dX4_told_25 : decode cX4_told 25 = .ok (.istore_n 2, 1) := by decide +kernel
theorem dX4_told_26 : decode cX4_told 26 = .ok (.iload_n 3, 1) := by decide +kernel
theorem dX4_told_27 : decode cX4_told 27 = .ok (.aload_n 0, 1) := by decide +kernel
theorem dX4_told_28 : decode cX4_told 28 = .ok (.iload 4, 2) := by decide +kernel
theorem dX4_told_30 : decode cX4_told 30 = .ok (.invokevirtual 84, 3) := by decide +kernel
theorem dX4_told_33 : decode cX4_told 33 = .ok (.aload_n 0, 1) := by decide +kernel
theorem dX4_told_34 : decode cX4_told 34 = .ok (.iload 4, 2) := by decide +kernel
theorem dX4_told_36 : decode cX4_told 36 = .ok (.invokevirtual 87, 3) := by decide +kernel
theorem dX4_told_39 : decode cX4_told 39 = .ok (.if_icmp .le 7, 3) := by decide +kernel
theorem dX4_told_42 : decode cX4_told 42 = .ok (.iconst 1, 1) := by decide +kernel
theorem dX4_told_43 : decode cX4_told 43 = .ok (.goto 4, 3) := by decide +kernel
theorem dX4_told_46 : decode cX4_told 46 = .ok (.iconst 0, 1) := by decide +kernel
theorem dX4_told_47 : decode cX4_told 47 = .ok (.iadd, 1) := by decide +kernel
theorem dX4_told_48 : decode cX4_told 48 = .ok (.istore_n 3, 1) := by decide +kernel
theorem dX4_told_49 : decode cX4_told 49 = .ok (.iinc 4 1, 3) := by decide +kernel
theorem dX4_told_52 : decode cX4_told 52 = .ok (.goto (-45), 3) := by decide +kernel
theorem dX4_told_55 : decode cX4_told 55 = .ok (.iload_n 3, 1) := by decide +kernel
theorem dX4_told_56 : decode cX4_told 56 = .ok (.aload_n 0, 1) := by decide +kernel
theorem dX4_told_57 : decode cX4_told 57 = .ok (.getfield 71, 3) := by decide +kernel
theorem dX4_told_60 : decode cX4_told 60 = .ok (.ifCond .le 26, 3) := by decide +kernel
theorem dX4_told_63 : decode cX4_told 63 = .ok (.aload_n 0, 1) := by decide +kernel
theorem dX4_told_64 : decode cX4_told 64 = .ok (.aload_n 0, 1) := by decide +kernel
theorem dX4_told_65 : decode cX4_told 65 = .ok (.getfield 71, 3) := by decide +kernel
theorem dX4_told_68 : decode cX4_told 68 = .ok (.invokevirtual 84, 3) := by decide +kernel
theorem dX4_told_71 : decode cX4_told 71 = .ok (.aload_n 0, 1) := by decide +kernel
theorem dX4_told_72 : decode cX4_told 72 = .ok (.aload_n 0, 1) := by decide +kernel
theorem dX4_told_73 : decode cX4_told 73 = .ok (.getfield 71, 3) := by decide +kernel
theorem dX4_told_76 : decode cX4_told 76 = .ok (.invokevirtual 87, 3) := by decide +kernel
theorem dX4_told_79 : decode cX4_told 79 = .ok (.if_icmp .le 7, 3) := by decide +kernel
theorem dX4_told_82 : decode cX4_told 82 = .ok (.iconst 1, 1) := by decide +kernel
theorem dX4_told_83 : decode cX4_told 83 = .ok (.goto 4, 3) := by decide +kernel
theorem dX4_told_86 : decode cX4_told 86 = .ok (.iconst 0, 1) := by decide +kernel
theorem dX4_told_87 : decode cX4_told 87 = .ok (.iadd, 1) := by decide +kernel
theorem dX4_told_88 : decode cX4_told 88 = .ok (.istore_n 3, 1) := by decide +kernel
theorem dX4_told_89 : decode cX4_told 89 = .ok (.iload_n 1, 1) := by decide +kernel
theorem dX4_told_90 : decode cX4_told 90 = .ok (.ifCond .ne 10, 3) := by decide +kernel
theorem dX4_told_93 : decode cX4_told 93 = .ok (.aload_n 0, 1) := by decide +kernel
theorem dX4_told_94 : decode cX4_told 94 = .ok (.getfield 44, 3) := by decide +kernel
theorem dX4_told_97 : decode cX4_told 97 = .ok (.goto 98, 3) := by decide +kernel
theorem dX4_told_100 : decode cX4_told 100 = .ok (.iload_n 1, 1) := by decide +kernel
theorem dX4_told_101 : decode cX4_told 101 = .ok (.iconst 1, 1) := by decide +kernel
theorem dX4_told_102 : decode cX4_told 102 = .ok (.if_icmp .ne 10, 3) := by decide +kernel
theorem dX4_told_105 : decode cX4_told 105 = .ok (.aload_n 0, 1) := by decide +kernel
theorem dX4_told_106 : decode cX4_told 106 = .ok (.getfield 78, 3) := by decide +kernel
theorem dX4_told_109 : decode cX4_told 109 = .ok (.goto 86, 3) := by decide +kernel
theorem dX4_told_112 : decode cX4_told 112 = .ok (.iload_n 1, 1) := by decide +kernel
theorem dX4_told_113 : decode cX4_told 113 = .ok (.iconst 2, 1) := by decide +kernel
theorem dX4_told_114 : decode cX4_told 114 = .ok (.if_icmp .ne 10, 3) := by decide +kernel
theorem dX4_told_117 : decode cX4_told 117 = .ok (.aload_n 0, 1) := by decide +kernel
theorem dX4_told_118 : decode cX4_told 118 = .ok (.getfield 71, 3) := by decide +kernel
theorem dX4_told_121 : decode cX4_told 121 = .ok (.goto 74, 3) := by decide +kernel
theorem dX4_told_124 : decode cX4_told 124 = .ok (.iload_n 1, 1) := by decide +kernel
theorem dX4_told_125 : decode cX4_told 125 = .ok (.iconst 3, 1) := by decide +kernel
theorem dX4_told_126 : decode cX4_told 126 = .ok (.if_icmp .ne 7, 3) := by decide +kernel
theorem dX4_told_129 : decode cX4_told 129 = .ok (.iload_n 2, 1) := by decide +kernel
theorem dX4_told_130 : decode cX4_told 130 = .ok (.goto 65, 3) := by decide +kernel
theorem dX4_told_133 : decode cX4_told 133 = .ok (.iload_n 1, 1) := by decide +kernel
theorem dX4_told_134 : decode cX4_told 134 = .ok (.iconst 4, 1) := by decide +kernel
theorem dX4_told_135 : decode cX4_told 135 = .ok (.if_icmp .ne 7, 3) := by decide +kernel
theorem dX4_told_138 : decode cX4_told 138 = .ok (.iload_n 3, 1) := by decide +kernel
theorem dX4_told_139 : decode cX4_told 139 = .ok (.goto 56, 3) := by decide +kernel
theorem dX4_told_142 : decode cX4_told 142 = .ok (.iload_n 1, 1) := by decide +kernel
theorem dX4_told_143 : decode cX4_told 143 = .ok (.iconst 5, 1) := by decide +kernel
theorem dX4_told_144 : decode cX4_told 144 = .ok (.if_icmp .ne 10, 3) := by decide +kernel
theorem dX4_told_147 : decode cX4_told 147 = .ok (.aload_n 0, 1) := by decide +kernel
theorem dX4_told_148 : decode cX4_told 148 = .ok (.getfield 121, 3) := by decide +kernel
theorem dX4_told_151 : decode cX4_told 151 = .ok (.goto 44, 3) := by decide +kernel
theorem dX4_told_154 : decode cX4_told 154 = .ok (.iload_n 1, 1) := by decide +kernel
theorem dX4_told_155 : decode cX4_told 155 = .ok (.bipush 6, 2) := by decide +kernel
theorem dX4_told_157 : decode cX4_told 157 = .ok (.if_icmp .ne 10, 3) := by decide +kernel
theorem dX4_told_160 : decode cX4_told 160 = .ok (.aload_n 0, 1) := by decide +kernel
theorem dX4_told_161 : decode cX4_told 161 = .ok (.getfield 128, 3) := by decide +kernel
theorem dX4_told_164 : decode cX4_told 164 = .ok (.goto 31, 3) := by decide +kernel
theorem dX4_told_167 : decode cX4_told 167 = .ok (.iload_n 1, 1) := by decide +kernel
theorem dX4_told_168 : decode cX4_told 168 = .ok (.bipush 7, 2) := by decide +kernel
theorem dX4_told_170 : decode cX4_told 170 = .ok (.if_icmp .ne 10, 3) := by decide +kernel
theorem dX4_told_173 : decode cX4_told 173 = .ok (.aload_n 0, 1) := by decide +kernel
theorem dX4_told_174 : decode cX4_told 174 = .ok (.getfield 115, 3) := by decide +kernel
theorem dX4_told_177 : decode cX4_told 177 = .ok (.goto 18, 3) := by decide +kernel
theorem dX4_told_180 : decode cX4_told 180 = .ok (.iload_n 1, 1) := by decide +kernel
theorem dX4_told_181 : decode cX4_told 181 = .ok (.bipush 8, 2) := by decide +kernel
theorem dX4_told_183 : decode cX4_told 183 = .ok (.if_icmp .ne 10, 3) := by decide +kernel
theorem dX4_told_186 : decode cX4_told 186 = .ok (.aload_n 0, 1) := by decide +kernel
theorem dX4_told_187 : decode cX4_told 187 = .ok (.getfield 118, 3) := by decide +kernel
theorem dX4_told_190 : decode cX4_told 190 = .ok (.goto 5, 3) := by decide +kernel
theorem dX4_told_193 : decode cX4_told 193 = .ok (.bipush (-11), 2) := by decide +kernel
theorem dX4_told_195 : decode cX4_told 195 = .ok (.ireturn, 1) := by decide +kernel
