theorem dX10_in_0 : decode cX10_in 0 = .ok (.lload_n 0, 1) := by decide +kernel
theorem dX10_in_1 : decode cX10_in 1 = .ok (.lload_n 2, 1) := by decide +kernel
theorem dX10_in_2 : decode cX10_in 2 = .ok (.lcmp, 1) := by decide +kernel
theorem dX10_in_3 : decode cX10_in 3 = .ok (.ifCond .lt 14, 3) := by decide +kernel
theorem dX10_in_6 : decode cX10_in 6 = .ok (.lload_n 0, 1) := by decide +kernel
theorem dX10_in_7 : decode cX10_in 7 = .ok (.lload 4, 2) := by decide +kernel
theorem dX10_in_9 : decode cX10_in 9 = .ok (.lcmp, 1) := by decide +kernel
theorem dX10_in_10 : decode cX10_in 10 = .ok (.ifCond .gt 7, 3) := by decide +kernel
theorem dX10_in_13 : decode cX10_in 13 = .ok (.iconst 1, 1) := by decide +kernel
theorem dX10_in_14 : decode cX10_in 14 = .ok (.goto 4, 3) := by decide +kernel
theorem dX10_in_17 : decode cX10_in 17 = .ok (.iconst 0, 1) := by decide +kernel
theorem dX10_in_18 : decode cX10_in 18 = .ok (.ireturn, 1) := by decide +kernel
theorem dX10_init_0 : decode cX10_init 0 = .ok (.aload_n 0, 1) := by decide +kernel
theorem dX10_init_1 : decode cX10_init 1 = .ok (.invokespecial 1, 3) := by decide +kernel
theorem dX10_init_4 : decode cX10_init 4 = .ok (.aload_n 0, 1) := by decide +kernel
theorem dX10_init_5 : decode cX10_init 5 = .ok (.sipush 460, 3) := by decide +kernel
theorem dX10_init_8 : decode cX10_init 8 = .ok (.newarray .int, 2) := by decide +kernel
theorem dX10_init_10 : decode cX10_init 10 = .ok (.putfield 7, 3) := by decide +kernel
theorem dX10_init_13 : decode cX10_init 13 = .ok (.aload_n 0, 1) := by decide +kernel
theorem dX10_init_14 : decode cX10_init 14 = .ok (.sipush 920, 3) := by decide +kernel
theorem dX10_init_17 : decode cX10_init 17 = .ok (.newarray .int, 2) := by decide +kernel
theorem dX10_init_19 : decode cX10_init 19 = .ok (.putfield 13, 3) := by decide +kernel
theorem dX10_init_22 : decode cX10_init 22 = .ok (.aload_n 0, 1) := by decide +kernel
theorem dX10_init_23 : decode cX10_init 23 = .ok (.iconst 2, 1) := by decide +kernel
theorem dX10_init_24 : decode cX10_init 24 = .ok (.newarray .boolean, 2) := by decide +kernel
theorem dX10_init_26 : decode cX10_init 26 = .ok (.putfield 16, 3) := by decide +kernel
theorem dX10_init_29 : decode cX10_init 29 = .ok (.aload_n 0, 1) := by decide +kernel
theorem dX10_init_30 : decode cX10_init 30 = .ok (.sipush 460, 3) := by decide +kernel
theorem dX10_init_33 : decode cX10_init 33 = .ok (.newarray .int, 2) := by decide +kernel
theorem dX10_init_35 : decode cX10_init 35 = .ok (.putfield 20, 3) := by decide +kernel
theorem dX10_init_38 : decode cX10_init 38 = .ok (.aload_n 0, 1) := by decide +kernel
theorem dX10_init_39 : decode cX10_init 39 = .ok (.bipush 64, 2) := by decide +kernel
theorem dX10_init_41 : decode cX10_init 41 = .ok (.newarray .int, 2) := by decide +kernel
theorem dX10_init_43 : decode cX10_init 43 = .ok (.putfield 23, 3) := by decide +kernel
theorem dX10_init_46 : decode cX10_init 46 = .ok (.aload_n 0, 1) := by decide +kernel
theorem dX10_init_47 : decode cX10_init 47 = .ok (.bipush 64, 2) := by decide +kernel
theorem dX10_init_49 : decode cX10_init 49 = .ok (.newarray .int, 2) := by decide +kernel
theorem dX10_init_51 : decode cX10_init 51 = .ok (.putfield 26, 3) := by decide +kernel
theorem dX10_init_54 : decode cX10_init 54 = .ok (.aload_n 0, 1) := by decide +kernel
theorem dX10_init_55 : decode cX10_init 55 = .ok (.bipush 10, 2) := by decide +kernel
theorem dX10_init_57 : decode cX10_init 57 = .ok (.newarray .int, 2) := by decide +kernel
theorem dX10_init_59 : decode cX10_init 59 = .ok (.putfield 29, 3) := by decide +kernel
theorem dX10_init_62 : decode cX10_init 62 = .ok (.aload_n 0, 1) := by decide +kernel
theorem dX10_init_63 : decode cX10_init 63 = .ok (.bipush 10, 2) := by decide +kernel
theorem dX10_init_65 : decode cX10_init 65 = .ok (.newarray .int, 2) := by decide +kernel
theorem dX10_init_67 : decode cX10_init 67 = .ok (.putfield 32, 3) := by decide +kernel
theorem dX10_init_70 : decode cX10_init 70 = .ok (.aload_n 0, 1) := by decide +kernel
theorem dX10_init_71 : decode cX10_init 71 = .ok (.bipush 10, 2) := by decide +kernel
theorem dX10_init_73 : decode cX10_init 73 = .ok (.newarray .int, 2) := by decide +kernel
theorem dX10_init_75 : decode cX10_init 75 = .ok (.putfield 35, 3) := by decide +kernel
theorem dX10_init_78 : decode cX10_init 78 = .ok (.aload_n 0, 1) := by decide +kernel
theorem dX10_init_79 : decode cX10_init 79 = .ok (.bipush 8, 2) := by decide +kernel
theorem dX10_init_81 : decode cX10_init 81 = .ok (.newarray .int, 2) := by decide +kernel
theorem dX10_init_83 : decode cX10_init 83 = .ok (.putfield 38, 3) := by decide +kernel
theorem dX10_init_86 : decode cX10_init 86 = .ok (.aload_n 0, 1) := by decide +kernel
theorem dX10_init_87 : decode cX10_init 87 = .ok (.bipush 8, 2) := by decide +kernel
theorem dX10_init_89 : decode cX10_init 89 = .ok (.newarray .int, 2) := by decide +kernel
theorem dX10_init_91 : decode cX10_init 91 = .ok (.putfield 41, 3) := by decide +kernel
theorem dX10_init_94 : decode cX10_init 94 = .ok (.aload_n 0, 1) := by decide +kernel
theorem dX10_init_95 : decode cX10_init 95 = .ok (.bipush 8, 2) := by decide +kernel
theorem dX10_init_97 : decode cX10_init 97 = .ok (.newarray .int, 2) := by decide +kernel
theorem dX10_init_99 : decode cX10_init 99 = .ok (.putfield 44, 3) := by decide +kernel
theorem dX10_init_102 : decode cX10_init 102 = .ok (.aload_n 0, 1) := by decide +kernel
theorem dX10_init_103 : decode cX10_init 103 = .ok (.bipush 8, 2) := by decide +kernel
theorem dX10_init_105 : decode cX10_init 105 = .ok (.newarray .int, 2) := by decide +kernel
theorem dX10_init_107 : decode cX10_init 107 = .ok (.putfield 47, 3) := by decide +kernel
theorem dX10_init_110 : decode cX10_init 110 = .ok (.aload_n 0, 1) := by decide +kernel
theorem dX10_init_111 : decode cX10_init 111 = .ok (.sipush 26880, 3) := by decide +kernel
theorem dX10_init_114 : decode cX10_init 114 = .ok (.newarray .int, 2) := by decide +kernel
theorem dX10_init_116 : decode cX10_init 116 = .ok (.putfield 50, 3) := by decide +kernel
theorem dX10_init_119 : decode cX10_init 119 = .ok (.aload_n 0, 1) := by decide +kernel
theorem dX10_init_120 : decode cX10_init 120 = .ok (.bipush 20, 2) := by decide +kernel
theorem dX10_init_122 : decode cX10_init 122 = .ok (.newarray .int, 2) := by decide +kernel
theorem dX10_init_124 : decode cX10_init 124 = .ok (.putfield 53, 3) := by decide +kernel
theorem dX10_init_127 : decode cX10_init 127 = .ok (.aload_n 0, 1) := by decide +kernel
theorem dX10_init_128 : decode cX10_init 128 = .ok (.sipush 240, 3) := by decide +kernel
theorem dX10_init_131 : decode cX10_init 131 = .ok (.newarray .int, 2) := by decide +kernel
theorem dX10_init_133 : decode cX10_init 133 = .ok (.putfield 56, 3) := by decide +kernel
theorem dX10_init_136 : decode cX10_init 136 = .ok (.aload_n 0, 1) := by decide +kernel
theorem dX10_init_137 : decode cX10_init 137 = .ok (.sipush 240, 3) := by decide +kernel
theorem dX10_init_140 : decode cX10_init 140 = .ok (.newarray .int, 2) := by decide +kernel
theorem dX10_init_142 : decode cX10_init 142 = .ok (.putfield 59, 3) := by decide +kernel
theorem dX10_init_145 : decode cX10_init 145 = .ok (.aload_n 0, 1) := by decide +kernel
theorem dX10_init_146 : decode cX10_init 146 = .ok (.sipush 960, 3) := by decide +kernel
theorem dX10_init_149 : decode cX10_init 149 = .ok (.newarray .int, 2) := by decide +kernel
theorem dX10_init_151 : decode cX10_init 151 = .ok (.putfield 62, 3) := by decide +kernel
theorem dX10_init_154 : decode cX10_init 154 = .ok (.aload_n 0, 1) := by decide +kernel
theorem dX10_init_155 : decode cX10_init 155 = .ok (.getfield 7, 3) := by decide +kernel
theorem dX10_init_158 : decode cX10_init 158 = .ok (.bipush 6, 2) := by decide +kernel
theorem dX10_init_160 : decode cX10_init 160 = .ok (.iconst 1, 1) := by decide +kernel
theorem dX10_init_161 : decode cX10_init 161 = .ok (.iastore, 1) := by decide +kernel
theorem dX10_init_162 : decode cX10_init 162 = .ok (.aload_n 0, 1) := by decide +kernel
theorem dX10_init_163 : decode cX10_init 163 = .ok (.getfield 7, 3) := by decide +kernel
theorem dX10_init_166 : decode cX10_init 166 = .ok (.bipush 7, 2) := by decide +kernel
theorem dX10_init_168 : decode cX10_init 168 = .ok (.iconst 3, 1) := by decide +kernel
theorem dX10_init_169 : decode cX10_init 169 = .ok (.iastore, 1) := by decide +kernel
theorem dX10_init_170 : decode cX10_init 170 = .ok (.aload_n 0, 1) := by decide +kernel
theorem dX10_init_171 : decode cX10_init 171 = .ok (.getfield 7, 3) := by decide +kernel
theorem dX10_init_174 : decode cX10_init 174 = .ok (.bipush 8, 2) := by decide +kernel
theorem dX10_init_176 : decode cX10_init 176 = .ok (.bipush 50, 2) := by decide +kernel
theorem dX10_init_178 : decode cX10_init 178 = .ok (.iastore, 1) := by decide +kernel
theorem dX10_init_179 : decode cX10_init 179 = .ok (.aload_n 0, 1) := by decide +kernel
theorem dX10_init_180 : decode cX10_init 180 = .ok (.getfield 7, 3) := by decide +kernel
theorem dX10_init_183 : decode cX10_init 183 = .ok (.bipush 9, 2) := by decide +kernel
theorem dX10_init_185 : decode cX10_init 185 = .ok (.iconst 2, 1) := by decide +kernel
theorem dX10_init_186 : decode cX10_init 186 = .ok (.iastore, 1) := by decide +kernel
theorem dX10_init_187 : decode cX10_init 187 = .ok (.aload_n 0, 1) := by decide +kernel
theorem dX10_init_188 : decode cX10_init 188 = .ok (.getfield 7, 3) := by decide +kernel
theorem dX10_init_191 : decode cX10_init 191 = .ok (.bipush 10, 2) := by decide +kernel
theorem dX10_init_193 : decode cX10_init 193 = .ok (.bipush 10, 2) := by decide +kernel
theorem dX10_init_195 : decode cX10_init 195 = .ok (.iastore, 1) := by decide +kernel
theorem dX10_init_196 : decode cX10_init 196 = .ok (.aload_n 0, 1) := by decide +kernel
theorem dX10_init_197 : decode cX10_init 197 = .ok (.getfield 7, 3) := by decide +kernel
theorem dX10_init_200 : decode cX10_init 200 = .ok (.bipush 11, 2) := by decide +kernel
theorem dX10_init_202 : decode cX10_init 202 = .ok (.bipush 30, 2) := by decide +kernel
theorem dX10_init_204 : decode cX10_init 204 = .ok (.iastore, 1) := by decide +kernel
theorem dX10_init_205 : decode cX10_init 205 = .ok (.return_, 1) := by decide +kernel
theorem dX10_sets_0 : decode cX10_sets 0 = .ok (.aload_n 0, 1) := by decide +kernel
theorem dX10_sets_1 : decode cX10_sets 1 = .ok (.getfield 7, 3) := by decide +kernel
theorem dX10_sets_4 : decode cX10_sets 4 = .ok (.iload_n 1, 1) := by decide +kernel
theorem dX10_sets_5 : decode cX10_sets 5 = .ok (.iaload, 1) := by decide +kernel
theorem dX10_sets_6 : decode cX10_sets 6 = .ok (.istore_n 3, 1) := by decide +kernel
theorem dX10_sets_7 : decode cX10_sets 7 = .ok (.aload_n 0, 1) := by decide +kernel
theorem dX10_sets_8 : decode cX10_sets 8 = .ok (.getfield 7, 3) := by decide +kernel
theorem dX10_sets_11 : decode cX10_sets 11 = .ok (.iload_n 1, 1) := by decide +kernel
theorem dX10_sets_12 : decode cX10_sets 12 = .ok (.iload_n 2, 1) := by decide +kernel
theorem dX10_sets_13 : decode cX10_sets 13 = .ok (.iastore, 1) := by decide +kernel
theorem dX10_sets_14 : decode cX10_sets 14 = .ok (.iload_n 3, 1) := by decide +kernel
theorem dX10_sets_15 : decode cX10_sets 15 = .ok (.ireturn, 1) := by decide +kernel
theorem dX10_isStage_0 : decode cX10_isStage 0 = .ok (.iload_n 0, 1) := by decide +kernel
theorem dX10_isStage_1 : decode cX10_isStage 1 = .ok (.i2l, 1) := by decide +kernel
theorem dX10_isStage_2 : decode cX10_isStage 2 = .ok (.lconst 0, 1) := by decide +kernel
theorem dX10_isStage_3 : decode cX10_isStage 3 = .ok (.ldc2_w 65, 3) := by decide +kernel
theorem dX10_isStage_6 : decode cX10_isStage 6 = .ok (.invokestatic 67, 3) := by decide +kernel
theorem dX10_isStage_9 : decode cX10_isStage 9 = .ok (.ireturn, 1) := by decide +kernel
theorem dX10_isPlace_0 : decode cX10_isPlace 0 = .ok (.iload_n 0, 1) := by decide +kernel
theorem dX10_isPlace_1 : decode cX10_isPlace 1 = .ok (.i2l, 1) := by decide +kernel
theorem dX10_isPlace_2 : decode cX10_isPlace 2 = .ok (.lconst 0, 1) := by decide +kernel
theorem dX10_isPlace_3 : decode cX10_isPlace 3 = .ok (.ldc2_w 71, 3) := by decide +kernel
theorem dX10_isPlace_6 : decode cX10_isPlace 6 = .ok (.invokestatic 67, 3) := by decide +kernel
theorem dX10_isPlace_9 : decode cX10_isPlace 9 = .ok (.ireturn, 1) := by decide +kernel
theorem dX10_heightAt_0 : decode cX10_heightAt 0 = .ok (.aload_n 0, 1) := by decide +kernel
theorem dX10_heightAt_1 : decode cX10_heightAt 1 = .ok (.getfield 7, 3) := by decide +kernel
theorem dX10_heightAt_4 : decode cX10_heightAt 4 = .ok (.bipush 20, 2) := by decide +kernel
theorem dX10_heightAt_6 : decode cX10_heightAt 6 = .ok (.bipush 64, 2) := by decide +kernel
theorem dX10_heightAt_8 : decode cX10_heightAt 8 = .ok (.iload_n 1, 1) := by decide +kernel
theorem dX10_heightAt_9 : decode cX10_heightAt 9 = .ok (.imul, 1) := by decide +kernel
theorem dX10_heightAt_10 : decode cX10_heightAt 10 = .ok (.iadd, 1) := by decide +kernel
theorem dX10_heightAt_11 : decode cX10_heightAt 11 = .ok (.iload_n 2, 1) := by decide +kernel
theorem dX10_heightAt_12 : decode cX10_heightAt 12 = .ok (.iadd, 1) := by decide +kernel
theorem dX10_heightAt_13 : decode cX10_heightAt 13 = .ok (.iaload, 1) := by decide +kernel
theorem dX10_heightAt_14 : decode cX10_heightAt 14 = .ok (.ireturn, 1) := by decide +kernel
theorem dX10_surface_0 : decode cX10_surface 0 = .ok (.iload_n 1, 1) := by decide +kernel
theorem dX10_surface_1 : decode cX10_surface 1 = .ok (.invokestatic 73, 3) := by decide +kernel
theorem dX10_surface_4 : decode cX10_surface 4 = .ok (.ifCond .eq 39, 3) := by decide +kernel
theorem dX10_surface_7 : decode cX10_surface 7 = .ok (.iload_n 2, 1) := by decide +kernel
theorem dX10_surface_8 : decode cX10_surface 8 = .ok (.invokestatic 77, 3) := by decide +kernel
theorem dX10_surface_11 : decode cX10_surface 11 = .ok (.ifCond .eq 32, 3) := by decide +kernel
theorem dX10_surface_14 : decode cX10_surface 14 = .ok (.iload_n 3, 1) := by decide +kernel
theorem dX10_surface_15 : decode cX10_surface 15 = .ok (.i2l, 1) := by decide +kernel
theorem dX10_surface_16 : decode cX10_surface 16 = .ok (.lconst 0, 1) := by decide +kernel
theorem dX10_surface_17 : decode cX10_surface 17 = .ok (.ldc2_w 80, 3) := by decide +kernel
theorem dX10_surface_20 : decode cX10_surface 20 = .ok (.invokestatic 67, 3) := by decide +kernel
theorem dX10_surface_23 : decode cX10_surface 23 = .ok (.ifCond .eq 20, 3) := by decide +kernel
theorem dX10_surface_26 : decode cX10_surface 26 = .ok (.aload_n 0, 1) := by decide +kernel
theorem dX10_surface_27 : decode cX10_surface 27 = .ok (.bipush 20, 2) := by decide +kernel
theorem dX10_surface_29 : decode cX10_surface 29 = .ok (.bipush 64, 2) := by decide +kernel
theorem dX10_surface_31 : decode cX10_surface 31 = .ok (.iload_n 1, 1) := by decide +kernel
theorem dX10_surface_32 : decode cX10_surface 32 = .ok (.imul, 1) := by decide +kernel
theorem dX10_surface_33 : decode cX10_surface 33 = .ok (.iadd, 1) := by decide +kernel
theorem dX10_surface_34 : decode cX10_surface 34 = .ok (.iload_n 2, 1) := by decide +kernel
theorem dX10_surface_35 : decode cX10_surface 35 = .ok (.iadd, 1) := by decide +kernel
theorem dX10_surface_36 : decode cX10_surface 36 = .ok (.iload_n 3, 1) := by decide +kernel
theorem dX10_surface_37 : decode cX10_surface 37 = .ok (.invokevirtual 82, 3) := by decide +kernel
theorem dX10_surface_40 : decode cX10_surface 40 = .ok (.goto 5, 3) := by decide +kernel
theorem dX10_surface_43 : decode cX10_surface 43 = .ok (.bipush (-2), 2) := by decide +kernel
theorem dX10_surface_45 : decode cX10_surface 45 = .ok (.ireturn, 1) := by decide +kernel
theorem dX10_slope_0 : decode cX10_slope 0 = .ok (.iload_n 1, 1) := by decide +kernel
theorem dX10_slope_1 : decode cX10_slope 1 = .ok (.invokestatic 73, 3) := by decide +kernel
theorem dX10_slope_4 : decode cX10_slope 4 = .ok (.ifCond .eq 42, 3) := by decide +kernel
theorem dX10_slope_7 : decode cX10_slope 7 = .ok (.iload_n 2, 1) := by decide +kernel
theorem dX10_slope_8 : decode cX10_slope 8 = .ok (.i2l, 1) := by decide +kernel
theorem dX10_slope_9 : decode cX10_slope 9 = .ok (.lconst 0, 1) := by decide +kernel
theorem dX10_slope_10 : decode cX10_slope 10 = .ok (.ldc2_w 86, 3) := by decide +kernel
theorem dX10_slope_13 : decode cX10_slope 13 = .ok (.invokestatic 67, 3) := by decide +kernel
theorem dX10_slope_16 : decode cX10_slope 16 = .ok (.ifCond .eq 30, 3) := by decide +kernel
theorem dX10_slope_19 : decode cX10_slope 19 = .ok (.iload_n 3, 1) := by decide +kernel
theorem dX10_slope_20 : decode cX10_slope 20 = .ok (.i2l, 1) := by decide +kernel
theorem dX10_slope_21 : decode cX10_slope 21 = .ok (.lconst 0, 1) := by decide +kernel
theorem dX10_slope_22 : decode cX10_slope 22 = .ok (.ldc2_w 80, 3) := by decide +kernel
theorem dX10_slope_25 : decode cX10_slope 25 = .ok (.invokestatic 67, 3) := by decide +kernel
theorem dX10_slope_28 : decode cX10_slope 28 = .ok (.ifCond .eq 18, 3) := by decide +kernel
theorem dX10_slope_31 : decode cX10_slope 31 = .ok (.iload 4, 2) := by decide +kernel
theorem dX10_slope_33 : decode cX10_slope 33 = .ok (.i2l, 1) := by decide +kernel
theorem dX10_slope_34 : decode cX10_slope 34 = .ok (.ldc2_w 88, 3) := by decide +kernel
theorem dX10_slope_37 : decode cX10_slope 37 = .ok (.ldc2_w 90, 3) := by decide +kernel
theorem dX10_slope_40 : decode cX10_slope 40 = .ok (.invokestatic 67, 3) := by decide +kernel
theorem dX10_slope_43 : decode cX10_slope 43 = .ok (.ifCond .ne 6, 3) := by decide +kernel
theorem dX10_slope_46 : decode cX10_slope 46 = .ok (.bipush (-2), 2) := by decide +kernel
theorem dX10_slope_48 : decode cX10_slope 48 = .ok (.ireturn, 1) := by decide +kernel
theorem dX10_slope_49 : decode cX10_slope 49 = .ok (.iconst 0, 1) := by decide +kernel
theorem dX10_slope_50 : decode cX10_slope 50 = .ok (.istore 5, 2) := by decide +kernel
theorem dX10_slope_52 : decode cX10_slope 52 = .ok (.iload 5, 2) := by decide +kernel
theorem dX10_slope_54 : decode cX10_slope 54 = .ok (.bipush 8, 2) := by decide +kernel
theorem dX10_slope_56 : decode cX10_slope 56 = .ok (.if_icmp .ge 61, 3) := by decide +kernel
theorem dX10_slope_59 : decode cX10_slope 59 = .ok (.iload_n 3, 1) := by decide +kernel
theorem dX10_slope_60 : decode cX10_slope 60 = .ok (.iload 4, 2) := by decide +kernel
theorem dX10_slope_62 : decode cX10_slope 62 = .ok (.iload 5, 2) := by decide +kernel
theorem dX10_slope_64 : decode cX10_slope 64 = .ok (.imul, 1) := by decide +kernel
theorem dX10_slope_65 : decode cX10_slope 65 = .ok (.isub, 1) := by decide +kernel
theorem dX10_slope_66 : decode cX10_slope 66 = .ok (.istore 6, 2) := by decide +kernel
theorem dX10_slope_68 : decode cX10_slope 68 = .ok (.aload_n 0, 1) := by decide +kernel
theorem dX10_slope_69 : decode cX10_slope 69 = .ok (.getfield 7, 3) := by decide +kernel
theorem dX10_slope_72 : decode cX10_slope 72 = .ok (.bipush 20, 2) := by decide +kernel
theorem dX10_slope_74 : decode cX10_slope 74 = .ok (.bipush 64, 2) := by decide +kernel
theorem dX10_slope_76 : decode cX10_slope 76 = .ok (.iload_n 1, 1) := by decide +kernel
theorem dX10_slope_77 : decode cX10_slope 77 = .ok (.imul, 1) := by decide +kernel
theorem dX10_slope_78 : decode cX10_slope 78 = .ok (.iadd, 1) := by decide +kernel
theorem dX10_slope_79 : decode cX10_slope 79 = .ok (.bipush 8, 2) := by decide +kernel
theorem dX10_slope_81 : decode cX10_slope 81 = .ok (.iload_n 2, 1) := by decide +kernel
theorem dX10_slope_82 : decode cX10_slope 82 = .ok (.imul, 1) := by decide +kernel
theorem dX10_slope_83 : decode cX10_slope 83 = .ok (.iadd, 1) := by decide +kernel
theorem dX10_slope_84 : decode cX10_slope 84 = .ok (.iload 5, 2) := by decide +kernel
theorem dX10_slope_86 : decode cX10_slope 86 = .ok (.iadd, 1) := by decide +kernel
theorem dX10_slope_87 : decode cX10_slope 87 = .ok (.iload 6, 2) := by decide +kernel
theorem dX10_slope_89 : decode cX10_slope 89 = .ok (.ifCond .ge 7, 3) := by decide +kernel
theorem dX10_slope_92 : decode cX10_slope 92 = .ok (.iconst 0, 1) := by decide +kernel
theorem dX10_slope_93 : decode cX10_slope 93 = .ok (.goto 17, 3) := by decide +kernel
theorem dX10_slope_96 : decode cX10_slope 96 = .ok (.iload 6, 2) := by decide +kernel
theorem dX10_slope_98 : decode cX10_slope 98 = .ok (.bipush 99, 2) := by decide +kernel
theorem dX10_slope_100 : decode cX10_slope 100 = .ok (.if_icmp .le 8, 3) := by decide +kernel
theorem dX10_slope_103 : decode cX10_slope 103 = .ok (.bipush 99, 2) := by decide +kernel
theorem dX10_slope_105 : decode cX10_slope 105 = .ok (.goto 5, 3) := by decide +kernel
theorem dX10_slope_108 : decode cX10_slope 108 = .ok (.iload 6, 2) := by decide +kernel
theorem dX10_slope_110 : decode cX10_slope 110 = .ok (.iastore, 1) := by decide +kernel
theorem dX10_slope_111 : decode cX10_slope 111 = .ok (.iinc 5 1, 3) := by decide +kernel
theorem dX10_slope_114 : decode cX10_slope 114 = .ok (.goto (-62), 3) := by decide +kernel
theorem dX10_slope_117 : decode cX10_slope 117 = .ok (.iconst 1, 1) := by decide +kernel
theorem dX10_slope_118 : decode cX10_slope 118 = .ok (.ireturn, 1) := by decide +kernel
theorem dX10_beside_0 : decode cX10_beside 0 = .ok (.iload_n 0, 1) := by decide +kernel
theorem dX10_beside_1 : decode cX10_beside 1 = .ok (.bipush 8, 2) := by decide +kernel
theorem dX10_beside_3 : decode cX10_beside 3 = .ok (.idiv, 1) := by decide +kernel
theorem dX10_beside_4 : decode cX10_beside 4 = .ok (.iload_n 1, 1) := by decide +kernel
theorem dX10_beside_5 : decode cX10_beside 5 = .ok (.ifCond .eq 14, 3) := by decide +kernel
theorem dX10_beside_8 : decode cX10_beside 8 = .ok (.iload_n 1, 1) := by decide +kernel
theorem dX10_beside_9 : decode cX10_beside 9 = .ok (.iconst 1, 1) := by decide +kernel
theorem dX10_beside_10 : decode cX10_beside 10 = .ok (.if_icmp .eq 9, 3) := by decide +kernel
theorem dX10_beside_13 : decode cX10_beside 13 = .ok (.iload_n 1, 1) := by decide +kernel
theorem dX10_beside_14 : decode cX10_beside 14 = .ok (.bipush 7, 2) := by decide +kernel
theorem dX10_beside_16 : decode cX10_beside 16 = .ok (.if_icmp .ne 7, 3) := by decide +kernel
theorem dX10_beside_19 : decode cX10_beside 19 = .ok (.iconst (-1), 1) := by decide +kernel
theorem dX10_beside_20 : decode cX10_beside 20 = .ok (.goto 19, 3) := by decide +kernel
theorem dX10_beside_23 : decode cX10_beside 23 = .ok (.iload_n 1, 1) := by decide +kernel
theorem dX10_beside_24 : decode cX10_beside 24 = .ok (.iconst 2, 1) := by decide +kernel
theorem dX10_beside_25 : decode cX10_beside 25 = .ok (.if_icmp .le 13, 3) := by decide +kernel
theorem dX10_beside_28 : decode cX10_beside 28 = .ok (.iload_n 1, 1) := by decide +kernel
theorem dX10_beside_29 : decode cX10_beside 29 = .ok (.bipush 6, 2) := by decide +kernel
theorem dX10_beside_31 : decode cX10_beside 31 = .ok (.if_icmp .ge 7, 3) := by decide +kernel
theorem dX10_beside_34 : decode cX10_beside 34 = .ok (.iconst 1, 1) := by decide +kernel
theorem dX10_beside_35 : decode cX10_beside 35 = .ok (.goto 4, 3) := by decide +kernel
theorem dX10_beside_38 : decode cX10_beside 38 = .ok (.iconst 0, 1) := by decide +kernel
theorem dX10_beside_39 : decode cX10_beside 39 = .ok (.iadd, 1) := by decide +kernel
theorem dX10_beside_40 : decode cX10_beside 40 = .ok (.istore_n 2, 1) := by decide +kernel
theorem dX10_beside_41 : decode cX10_beside 41 = .ok (.iload_n 0, 1) := by decide +kernel
theorem dX10_beside_42 : decode cX10_beside 42 = .ok (.bipush 8, 2) := by decide +kernel
theorem dX10_beside_44 : decode cX10_beside 44 = .ok (.irem, 1) := by decide +kernel
theorem dX10_beside_45 : decode cX10_beside 45 = .ok (.iload_n 1, 1) := by decide +kernel
theorem dX10_beside_46 : decode cX10_beside 46 = .ok (.ifCond .le 12, 3) := by decide +kernel
theorem dX10_beside_49 : decode cX10_beside 49 = .ok (.iload_n 1, 1) := by decide +kernel
theorem dX10_beside_50 : decode cX10_beside 50 = .ok (.iconst 4, 1) := by decide +kernel
theorem dX10_beside_51 : decode cX10_beside 51 = .ok (.if_icmp .ge 7, 3) := by decide +kernel
theorem dX10_beside_54 : decode cX10_beside 54 = .ok (.iconst 1, 1) := by decide +kernel
theorem dX10_beside_55 : decode cX10_beside 55 = .ok (.goto 13, 3) := by decide +kernel
theorem dX10_beside_58 : decode cX10_beside 58 = .ok (.iload_n 1, 1) := by decide +kernel
theorem dX10_beside_59 : decode cX10_beside 59 = .ok (.iconst 4, 1) := by decide +kernel
theorem dX10_beside_60 : decode cX10_beside 60 = .ok (.if_icmp .le 7, 3) := by decide +kernel
theorem dX10_beside_63 : decode cX10_beside 63 = .ok (.iconst (-1), 1) := by decide +kernel
theorem dX10_beside_64 : decode cX10_beside 64 = .ok (.goto 4, 3) := by decide +kernel
theorem dX10_beside_67 : decode cX10_beside 67 = .ok (.iconst 0, 1) := by decide +kernel
theorem dX10_beside_68 : decode cX10_beside 68 = .ok (.iadd, 1) := by decide +kernel
theorem dX10_beside_69 : decode cX10_beside 69 = .ok (.istore_n 3, 1) := by decide +kernel
theorem dX10_beside_70 : decode cX10_beside 70 = .ok (.iload_n 2, 1) := by decide +kernel
theorem dX10_beside_71 : decode cX10_beside 71 = .ok (.i2l, 1) := by decide +kernel
theorem dX10_beside_72 : decode cX10_beside 72 = .ok (.lconst 0, 1) := by decide +kernel
theorem dX10_beside_73 : decode cX10_beside 73 = .ok (.ldc2_w 86, 3) := by decide +kernel
theorem dX10_beside_76 : decode cX10_beside 76 = .ok (.invokestatic 67, 3) := by decide +kernel
theorem dX10_beside_79 : decode cX10_beside 79 = .ok (.ifCond .eq 24, 3) := by decide +kernel
theorem dX10_beside_82 : decode cX10_beside 82 = .ok (.iload_n 3, 1) := by decide +kernel
theorem dX10_beside_83 : decode cX10_beside 83 = .ok (.i2l, 1) := by decide +kernel
theorem dX10_beside_84 : decode cX10_beside 84 = .ok (.lconst 0, 1) := by decide +kernel
theorem dX10_beside_85 : decode cX10_beside 85 = .ok (.ldc2_w 86, 3) := by decide +kernel
theorem dX10_beside_88 : decode cX10_beside 88 = .ok (.invokestatic 67, 3) := by decide +kernel
theorem dX10_beside_91 : decode cX10_beside 91 = .ok (.ifCond .eq 12, 3) := by decide +kernel
theorem dX10_beside_94 : decode cX10_beside 94 = .ok (.bipush 8, 2) := by decide +kernel
theorem dX10_beside_96 : decode cX10_beside 96 = .ok (.iload_n 2, 1) := by decide +kernel
theorem dX10_beside_97 : decode cX10_beside 97 = .ok (.imul, 1) := by decide +kernel
theorem dX10_beside_98 : decode cX10_beside 98 = .ok (.iload_n 3, 1) := by decide +kernel
theorem dX10_beside_99 : decode cX10_beside 99 = .ok (.iadd, 1) := by decide +kernel
theorem dX10_beside_100 : decode cX10_beside 100 = .ok (.goto 4, 3) := by decide +kernel
theorem dX10_beside_103 : decode cX10_beside 103 = .ok (.iconst (-1), 1) := by decide +kernel
theorem dX10_beside_104 : decode cX10_beside 104 = .ok (.ireturn, 1) := by decide +kernel
theorem dX10_flowOf_0 : decode cX10_flowOf 0 = .ok (.iconst (-1), 1) := by decide +kernel
theorem dX10_flowOf_1 : decode cX10_flowOf 1 = .ok (.istore_n 3, 1) := by decide +kernel
theorem dX10_flowOf_2 : decode cX10_flowOf 2 = .ok (.aload_n 0, 1) := by decide +kernel
theorem dX10_flowOf_3 : decode cX10_flowOf 3 = .ok (.iload_n 1, 1) := by decide +kernel
theorem dX10_flowOf_4 : decode cX10_flowOf 4 = .ok (.iload_n 2, 1) := by decide +kernel
theorem dX10_flowOf_5 : decode cX10_flowOf 5 = .ok (.invokevirtual 92, 3) := by decide +kernel
theorem dX10_flowOf_8 : decode cX10_flowOf 8 = .ok (.istore 4, 2) := by decide +kernel
theorem dX10_flowOf_10 : decode cX10_flowOf 10 = .ok (.iconst 0, 1) := by decide +kernel
theorem dX10_flowOf_11 : decode cX10_flowOf 11 = .ok (.istore 5, 2) := by decide +kernel
theorem dX10_flowOf_13 : decode cX10_flowOf 13 = .ok (.iload 5, 2) := by decide +kernel
theorem dX10_flowOf_15 : decode cX10_flowOf 15 = .ok (.bipush 8, 2) := by decide +kernel
theorem dX10_flowOf_17 : decode cX10_flowOf 17 = .ok (.if_icmp .ge 47, 3) := by decide +kernel
theorem dX10_flowOf_20 : decode cX10_flowOf 20 = .ok (.iload_n 2, 1) := by decide +kernel
theorem dX10_flowOf_21 : decode cX10_flowOf 21 = .ok (.iload 5, 2) := by decide +kernel
theorem dX10_flowOf_23 : decode cX10_flowOf 23 = .ok (.invokestatic 95, 3) := by decide +kernel
theorem dX10_flowOf_26 : decode cX10_flowOf 26 = .ok (.istore 6, 2) := by decide +kernel
theorem dX10_flowOf_28 : decode cX10_flowOf 28 = .ok (.iload 6, 2) := by decide +kernel
theorem dX10_flowOf_30 : decode cX10_flowOf 30 = .ok (.iconst (-1), 1) := by decide +kernel
theorem dX10_flowOf_31 : decode cX10_flowOf 31 = .ok (.if_icmp .eq 27, 3) := by decide +kernel
theorem dX10_flowOf_34 : decode cX10_flowOf 34 = .ok (.aload_n 0, 1) := by decide +kernel
theorem dX10_flowOf_35 : decode cX10_flowOf 35 = .ok (.iload_n 1, 1) := by decide +kernel
theorem dX10_flowOf_36 : decode cX10_flowOf 36 = .ok (.iload 6, 2) := by decide +kernel
theorem dX10_flowOf_38 : decode cX10_flowOf 38 = .ok (.invokevirtual 92, 3) := by decide +kernel
theorem dX10_flowOf_41 : decode cX10_flowOf 41 = .ok (.iload 4, 2) := by decide +kernel
theorem dX10_flowOf_43 : decode cX10_flowOf 43 = .ok (.if_icmp .ge 15, 3) := by decide +kernel
theorem dX10_flowOf_46 : decode cX10_flowOf 46 = .ok (.iload 5, 2) := by decide +kernel
theorem dX10_flowOf_48 : decode cX10_flowOf 48 = .ok (.istore_n 3, 1) := by decide +kernel
theorem dX10_flowOf_49 : decode cX10_flowOf 49 = .ok (.aload_n 0, 1) := by decide +kernel
theorem dX10_flowOf_50 : decode cX10_flowOf 50 = .ok (.iload_n 1, 1) := by decide +kernel
theorem dX10_flowOf_51 : decode cX10_flowOf 51 = .ok (.iload 6, 2) := by decide +kernel
theorem dX10_flowOf_53 : decode cX10_flowOf 53 = .ok (.invokevirtual 92, 3) := by decide +kernel
theorem dX10_flowOf_56 : decode cX10_flowOf 56 = .ok (.istore 4, 2) := by decide +kernel
theorem dX10_flowOf_58 : decode cX10_flowOf 58 = .ok (.iinc 5 1, 3) := by decide +kernel
theorem dX10_flowOf_61 : decode cX10_flowOf 61 = .ok (.goto (-48), 3) := by decide +kernel
theorem dX10_flowOf_64 : decode cX10_flowOf 64 = .ok (.iload_n 3, 1) := by decide +kernel
theorem dX10_flowOf_65 : decode cX10_flowOf 65 = .ok (.ireturn, 1) := by decide +kernel
theorem dX10_flow_0 : decode cX10_flow 0 = .ok (.iload_n 1, 1) := by decide +kernel
theorem dX10_flow_1 : decode cX10_flow 1 = .ok (.invokestatic 73, 3) := by decide +kernel
theorem dX10_flow_4 : decode cX10_flow 4 = .ok (.ifCond .eq 19, 3) := by decide +kernel
theorem dX10_flow_7 : decode cX10_flow 7 = .ok (.iload_n 2, 1) := by decide +kernel
theorem dX10_flow_8 : decode cX10_flow 8 = .ok (.invokestatic 77, 3) := by decide +kernel
theorem dX10_flow_11 : decode cX10_flow 11 = .ok (.ifCond .eq 12, 3) := by decide +kernel
theorem dX10_flow_14 : decode cX10_flow 14 = .ok (.aload_n 0, 1) := by decide +kernel
theorem dX10_flow_15 : decode cX10_flow 15 = .ok (.iload_n 1, 1) := by decide +kernel
theorem dX10_flow_16 : decode cX10_flow 16 = .ok (.iload_n 2, 1) := by decide +kernel
theorem dX10_flow_17 : decode cX10_flow 17 = .ok (.invokevirtual 98, 3) := by decide +kernel
theorem dX10_flow_20 : decode cX10_flow 20 = .ok (.goto 5, 3) := by decide +kernel
theorem dX10_flow_23 : decode cX10_flow 23 = .ok (.bipush (-2), 2) := by decide +kernel
theorem dX10_flow_25 : decode cX10_flow 25 = .ok (.ireturn, 1) := by decide +kernel
theorem dX10_is_0 : decode cX10_is 0 = .ok (.iload_n 2, 1) := by decide +kernel
theorem dX10_is_1 : decode cX10_is 1 = .ok (.i2l, 1) := by decide +kernel
theorem dX10_is_2 : decode cX10_is 2 = .ok (.lconst 0, 1) := by decide +kernel
theorem dX10_is_3 : decode cX10_is 3 = .ok (.aload_n 0, 1) := by decide +kernel
theorem dX10_is_4 : decode cX10_is 4 = .ok (.getfield 7, 3) := by decide +kernel
theorem dX10_is_7 : decode cX10_is 7 = .ok (.iload_n 1, 1) := by decide +kernel
theorem dX10_is_8 : decode cX10_is 8 = .ok (.iaload, 1) := by decide +kernel
theorem dX10_is_9 : decode cX10_is 9 = .ok (.iconst 1, 1) := by decide +kernel
theorem dX10_is_10 : decode cX10_is 10 = .ok (.isub, 1) := by decide +kernel
theorem dX10_is_11 : decode cX10_is 11 = .ok (.i2l, 1) := by decide +kernel
theorem dX10_is_12 : decode cX10_is 12 = .ok (.invokestatic 67, 3) := by decide +kernel
theorem dX10_is_15 : decode cX10_is 15 = .ok (.ireturn, 1) := by decide +kernel
theorem dX10_comes_0 : decode cX10_comes 0 = .ok (.aload_n 0, 1) := by decide +kernel
theorem dX10_comes_1 : decode cX10_comes 1 = .ok (.getfield 7, 3) := by decide +kernel
theorem dX10_comes_4 : decode cX10_comes 4 = .ok (.iload_n 1, 1) := by decide +kernel
theorem dX10_comes_5 : decode cX10_comes 5 = .ok (.iaload, 1) := by decide +kernel
theorem dX10_comes_6 : decode cX10_comes 6 = .ok (.iload_n 2, 1) := by decide +kernel
theorem dX10_comes_7 : decode cX10_comes 7 = .ok (.if_icmp .ne 6, 3) := by decide +kernel
theorem dX10_comes_10 : decode cX10_comes 10 = .ok (.bipush (-4), 2) := by decide +kernel
theorem dX10_comes_12 : decode cX10_comes 12 = .ok (.ireturn, 1) := by decide +kernel
theorem dX10_comes_13 : decode cX10_comes 13 = .ok (.aload_n 0, 1) := by decide +kernel
theorem dX10_comes_14 : decode cX10_comes 14 = .ok (.getfield 7, 3) := by decide +kernel
theorem dX10_comes_17 : decode cX10_comes 17 = .ok (.iload_n 3, 1) := by decide +kernel
theorem dX10_comes_18 : decode cX10_comes 18 = .ok (.iconst 2, 1) := by decide +kernel
theorem dX10_comes_19 : decode cX10_comes 19 = .ok (.aload_n 0, 1) := by decide +kernel
theorem dX10_comes_20 : decode cX10_comes 20 = .ok (.getfield 7, 3) := by decide +kernel
theorem dX10_comes_23 : decode cX10_comes 23 = .ok (.iload_n 1, 1) := by decide +kernel
theorem dX10_comes_24 : decode cX10_comes 24 = .ok (.iaload, 1) := by decide +kernel
theorem dX10_comes_25 : decode cX10_comes 25 = .ok (.imul, 1) := by decide +kernel
theorem dX10_comes_26 : decode cX10_comes 26 = .ok (.iadd, 1) := by decide +kernel
theorem dX10_comes_27 : decode cX10_comes 27 = .ok (.iload 4, 2) := by decide +kernel
theorem dX10_comes_29 : decode cX10_comes 29 = .ok (.iastore, 1) := by decide +kernel
theorem dX10_comes_30 : decode cX10_comes 30 = .ok (.aload_n 0, 1) := by decide +kernel
theorem dX10_comes_31 : decode cX10_comes 31 = .ok (.getfield 7, 3) := by decide +kernel
theorem dX10_comes_34 : decode cX10_comes 34 = .ok (.iload_n 3, 1) := by decide +kernel
theorem dX10_comes_35 : decode cX10_comes 35 = .ok (.iconst 2, 1) := by decide +kernel
theorem dX10_comes_36 : decode cX10_comes 36 = .ok (.aload_n 0, 1) := by decide +kernel
theorem dX10_comes_37 : decode cX10_comes 37 = .ok (.getfield 7, 3) := by decide +kernel
theorem dX10_comes_40 : decode cX10_comes 40 = .ok (.iload_n 1, 1) := by decide +kernel
theorem dX10_comes_41 : decode cX10_comes 41 = .ok (.iaload, 1) := by decide +kernel
theorem dX10_comes_42 : decode cX10_comes 42 = .ok (.imul, 1) := by decide +kernel
theorem dX10_comes_43 : decode cX10_comes 43 = .ok (.iadd, 1) := by decide +kernel
theorem dX10_comes_44 : decode cX10_comes 44 = .ok (.iconst 1, 1) := by decide +kernel
theorem dX10_comes_45 : decode cX10_comes 45 = .ok (.iadd, 1) := by decide +kernel
theorem dX10_comes_46 : decode cX10_comes 46 = .ok (.iload 5, 2) := by decide +kernel
theorem dX10_comes_48 : decode cX10_comes 48 = .ok (.iastore, 1) := by decide +kernel
theorem dX10_comes_49 : decode cX10_comes 49 = .ok (.aload_n 0, 1) := by decide +kernel
theorem dX10_comes_50 : decode cX10_comes 50 = .ok (.getfield 7, 3) := by decide +kernel
theorem dX10_comes_53 : decode cX10_comes 53 = .ok (.iload_n 1, 1) := by decide +kernel
theorem dX10_comes_54 : decode cX10_comes 54 = .ok (.dup2, 1) := by decide +kernel
theorem dX10_comes_55 : decode cX10_comes 55 = .ok (.iaload, 1) := by decide +kernel
theorem dX10_comes_56 : decode cX10_comes 56 = .ok (.iconst 1, 1) := by decide +kernel
theorem dX10_comes_57 : decode cX10_comes 57 = .ok (.iadd, 1) := by decide +kernel
theorem dX10_comes_58 : decode cX10_comes 58 = .ok (.iastore, 1) := by decide +kernel
theorem dX10_comes_59 : decode cX10_comes 59 = .ok (.aload_n 0, 1) := by decide +kernel
theorem dX10_comes_60 : decode cX10_comes 60 = .ok (.getfield 7, 3) := by decide +kernel
theorem dX10_comes_63 : decode cX10_comes 63 = .ok (.iload_n 1, 1) := by decide +kernel
theorem dX10_comes_64 : decode cX10_comes 64 = .ok (.iaload, 1) := by decide +kernel
theorem dX10_comes_65 : decode cX10_comes 65 = .ok (.iconst 1, 1) := by decide +kernel
theorem dX10_comes_66 : decode cX10_comes 66 = .ok (.isub, 1) := by decide +kernel
theorem dX10_comes_67 : decode cX10_comes 67 = .ok (.ireturn, 1) := by decide +kernel
theorem dX10_cliff_0 : decode cX10_cliff 0 = .ok (.iload_n 1, 1) := by decide +kernel
theorem dX10_cliff_1 : decode cX10_cliff 1 = .ok (.invokestatic 77, 3) := by decide +kernel
theorem dX10_cliff_4 : decode cX10_cliff 4 = .ok (.ifCond .eq 30, 3) := by decide +kernel
theorem dX10_cliff_7 : decode cX10_cliff 7 = .ok (.iload_n 2, 1) := by decide +kernel
theorem dX10_cliff_8 : decode cX10_cliff 8 = .ok (.i2l, 1) := by decide +kernel
theorem dX10_cliff_9 : decode cX10_cliff 9 = .ok (.lconst 0, 1) := by decide +kernel
theorem dX10_cliff_10 : decode cX10_cliff 10 = .ok (.ldc2_w 101, 3) := by decide +kernel
theorem dX10_cliff_13 : decode cX10_cliff 13 = .ok (.invokestatic 67, 3) := by decide +kernel
theorem dX10_cliff_16 : decode cX10_cliff 16 = .ok (.ifCond .eq 18, 3) := by decide +kernel
theorem dX10_cliff_19 : decode cX10_cliff 19 = .ok (.aload_n 0, 1) := by decide +kernel
theorem dX10_cliff_20 : decode cX10_cliff 20 = .ok (.iconst 0, 1) := by decide +kernel
theorem dX10_cliff_21 : decode cX10_cliff 21 = .ok (.bipush 8, 2) := by decide +kernel
theorem dX10_cliff_23 : decode cX10_cliff 23 = .ok (.sipush 220, 3) := by decide +kernel
theorem dX10_cliff_26 : decode cX10_cliff 26 = .ok (.iload_n 1, 1) := by decide +kernel
theorem dX10_cliff_27 : decode cX10_cliff 27 = .ok (.iload_n 2, 1) := by decide +kernel
theorem dX10_cliff_28 : decode cX10_cliff 28 = .ok (.invokevirtual 103, 3) := by decide +kernel
theorem dX10_cliff_31 : decode cX10_cliff 31 = .ok (.goto 5, 3) := by decide +kernel
theorem dX10_cliff_34 : decode cX10_cliff 34 = .ok (.bipush (-2), 2) := by decide +kernel
theorem dX10_cliff_36 : decode cX10_cliff 36 = .ok (.ireturn, 1) := by decide +kernel
theorem dX10_boulder_0 : decode cX10_boulder 0 = .ok (.iload_n 1, 1) := by decide +kernel
theorem dX10_boulder_1 : decode cX10_boulder 1 = .ok (.invokestatic 77, 3) := by decide +kernel
theorem dX10_boulder_4 : decode cX10_boulder 4 = .ok (.ifCond .eq 30, 3) := by decide +kernel
theorem dX10_boulder_7 : decode cX10_boulder 7 = .ok (.iload_n 2, 1) := by decide +kernel
theorem dX10_boulder_8 : decode cX10_boulder 8 = .ok (.i2l, 1) := by decide +kernel
theorem dX10_boulder_9 : decode cX10_boulder 9 = .ok (.lconst 0, 1) := by decide +kernel
theorem dX10_boulder_10 : decode cX10_boulder 10 = .ok (.ldc2_w 101, 3) := by decide +kernel
theorem dX10_boulder_13 : decode cX10_boulder 13 = .ok (.invokestatic 67, 3) := by decide +kernel
theorem dX10_boulder_16 : decode cX10_boulder 16 = .ok (.ifCond .eq 18, 3) := by decide +kernel
theorem dX10_boulder_19 : decode cX10_boulder 19 = .ok (.aload_n 0, 1) := by decide +kernel
theorem dX10_boulder_20 : decode cX10_boulder 20 = .ok (.iconst 1, 1) := by decide +kernel
theorem dX10_boulder_21 : decode cX10_boulder 21 = .ok (.bipush 10, 2) := by decide +kernel
theorem dX10_boulder_23 : decode cX10_boulder 23 = .ok (.sipush 240, 3) := by decide +kernel
theorem dX10_boulder_26 : decode cX10_boulder 26 = .ok (.iload_n 1, 1) := by decide +kernel
theorem dX10_boulder_27 : decode cX10_boulder 27 = .ok (.iload_n 2, 1) := by decide +kernel
theorem dX10_boulder_28 : decode cX10_boulder 28 = .ok (.invokevirtual 103, 3) := by decide +kernel
theorem dX10_boulder_31 : decode cX10_boulder 31 = .ok (.goto 5, 3) := by decide +kernel
theorem dX10_boulder_34 : decode cX10_boulder 34 = .ok (.bipush (-2), 2) := by decide +kernel
theorem dX10_boulder_36 : decode cX10_boulder 36 = .ok (.ireturn, 1) := by decide +kernel
theorem dX10_cliffAt_0 : decode cX10_cliffAt 0 = .ok (.aload_n 0, 1) := by decide +kernel
theorem dX10_cliffAt_1 : decode cX10_cliffAt 1 = .ok (.getfield 7, 3) := by decide +kernel
theorem dX10_cliffAt_4 : decode cX10_cliffAt 4 = .ok (.sipush 220, 3) := by decide +kernel
theorem dX10_cliffAt_7 : decode cX10_cliffAt 7 = .ok (.iconst 2, 1) := by decide +kernel
theorem dX10_cliffAt_8 : decode cX10_cliffAt 8 = .ok (.iload_n 1, 1) := by decide +kernel
theorem dX10_cliffAt_9 : decode cX10_cliffAt 9 = .ok (.imul, 1) := by decide +kernel
theorem dX10_cliffAt_10 : decode cX10_cliffAt 10 = .ok (.iadd, 1) := by decide +kernel
theorem dX10_cliffAt_11 : decode cX10_cliffAt 11 = .ok (.iload_n 2, 1) := by decide +kernel
theorem dX10_cliffAt_12 : decode cX10_cliffAt 12 = .ok (.iadd, 1) := by decide +kernel
theorem dX10_cliffAt_13 : decode cX10_cliffAt 13 = .ok (.iaload, 1) := by decide +kernel
theorem dX10_cliffAt_14 : decode cX10_cliffAt 14 = .ok (.ireturn, 1) := by decide +kernel
theorem dX10_boulderAt_0 : decode cX10_boulderAt 0 = .ok (.aload_n 0, 1) := by decide +kernel
theorem dX10_boulderAt_1 : decode cX10_boulderAt 1 = .ok (.getfield 7, 3) := by decide +kernel
theorem dX10_boulderAt_4 : decode cX10_boulderAt 4 = .ok (.sipush 240, 3) := by decide +kernel
theorem dX10_boulderAt_7 : decode cX10_boulderAt 7 = .ok (.iconst 2, 1) := by decide +kernel
theorem dX10_boulderAt_8 : decode cX10_boulderAt 8 = .ok (.iload_n 1, 1) := by decide +kernel
theorem dX10_boulderAt_9 : decode cX10_boulderAt 9 = .ok (.imul, 1) := by decide +kernel
theorem dX10_boulderAt_10 : decode cX10_boulderAt 10 = .ok (.iadd, 1) := by decide +kernel
theorem dX10_boulderAt_11 : decode cX10_boulderAt 11 = .ok (.iload_n 2, 1) := by decide +kernel
theorem dX10_boulderAt_12 : decode cX10_boulderAt 12 = .ok (.iadd, 1) := by decide +kernel
theorem dX10_boulderAt_13 : decode cX10_boulderAt 13 = .ok (.iaload, 1) := by decide +kernel
theorem dX10_boulderAt_14 : decode cX10_boulderAt 14 = .ok (.ireturn, 1) := by decide +kernel
theorem dX10_carries_0 : decode cX10_carries 0 = .ok (.iconst 0, 1) := by decide +kernel
theorem dX10_carries_1 : decode cX10_carries 1 = .ok (.istore_n 2, 1) := by decide +kernel
theorem dX10_carries_2 : decode cX10_carries 2 = .ok (.iload_n 2, 1) := by decide +kernel
theorem dX10_carries_3 : decode cX10_carries 3 = .ok (.bipush 64, 2) := by decide +kernel
theorem dX10_carries_5 : decode cX10_carries 5 = .ok (.if_icmp .ge 26, 3) := by decide +kernel
theorem dX10_carries_8 : decode cX10_carries 8 = .ok (.aload_n 0, 1) := by decide +kernel
theorem dX10_carries_9 : decode cX10_carries 9 = .ok (.getfield 23, 3) := by decide +kernel
theorem dX10_carries_12 : decode cX10_carries 12 = .ok (.iload_n 2, 1) := by decide +kernel
theorem dX10_carries_13 : decode cX10_carries 13 = .ok (.iload_n 2, 1) := by decide +kernel
theorem dX10_carries_14 : decode cX10_carries 14 = .ok (.iload_n 1, 1) := by decide +kernel
theorem dX10_carries_15 : decode cX10_carries 15 = .ok (.if_icmp .ne 7, 3) := by decide +kernel
theorem dX10_carries_18 : decode cX10_carries 18 = .ok (.iconst 0, 1) := by decide +kernel
theorem dX10_carries_19 : decode cX10_carries 19 = .ok (.goto 5, 3) := by decide +kernel
theorem dX10_carries_22 : decode cX10_carries 22 = .ok (.ldc 107, 2) := by decide +kernel
theorem dX10_carries_24 : decode cX10_carries 24 = .ok (.iastore, 1) := by decide +kernel
theorem dX10_carries_25 : decode cX10_carries 25 = .ok (.iinc 2 1, 3) := by decide +kernel
theorem dX10_carries_28 : decode cX10_carries 28 = .ok (.goto (-26), 3) := by decide +kernel
theorem dX10_carries_31 : decode cX10_carries 31 = .ok (.iconst 0, 1) := by decide +kernel
theorem dX10_carries_32 : decode cX10_carries 32 = .ok (.istore_n 2, 1) := by decide +kernel
theorem dX10_carries_33 : decode cX10_carries 33 = .ok (.iload_n 2, 1) := by decide +kernel
theorem dX10_carries_34 : decode cX10_carries 34 = .ok (.iconst 3, 1) := by decide +kernel
theorem dX10_carries_35 : decode cX10_carries 35 = .ok (.if_icmp .ge 168, 3) := by decide +kernel
theorem dX10_carries_38 : decode cX10_carries 38 = .ok (.iconst 0, 1) := by decide +kernel
theorem dX10_carries_39 : decode cX10_carries 39 = .ok (.istore_n 3, 1) := by decide +kernel
theorem dX10_carries_40 : decode cX10_carries 40 = .ok (.iload_n 3, 1) := by decide +kernel
theorem dX10_carries_41 : decode cX10_carries 41 = .ok (.bipush 64, 2) := by decide +kernel
theorem dX10_carries_43 : decode cX10_carries 43 = .ok (.if_icmp .ge 17, 3) := by decide +kernel
theorem dX10_carries_46 : decode cX10_carries 46 = .ok (.aload_n 0, 1) := by decide +kernel
theorem dX10_carries_47 : decode cX10_carries 47 = .ok (.getfield 26, 3) := by decide +kernel
theorem dX10_carries_50 : decode cX10_carries 50 = .ok (.iload_n 3, 1) := by decide +kernel
theorem dX10_carries_51 : decode cX10_carries 51 = .ok (.ldc 107, 2) := by decide +kernel
theorem dX10_carries_53 : decode cX10_carries 53 = .ok (.iastore, 1) := by decide +kernel
theorem dX10_carries_54 : decode cX10_carries 54 = .ok (.iinc 3 1, 3) := by decide +kernel
theorem dX10_carries_57 : decode cX10_carries 57 = .ok (.goto (-17), 3) := by decide +kernel
theorem dX10_carries_60 : decode cX10_carries 60 = .ok (.iconst 0, 1) := by decide +kernel
theorem dX10_carries_61 : decode cX10_carries 61 = .ok (.istore_n 3, 1) := by decide +kernel
theorem dX10_carries_62 : decode cX10_carries 62 = .ok (.iload_n 3, 1) := by decide +kernel
theorem dX10_carries_63 : decode cX10_carries 63 = .ok (.bipush 64, 2) := by decide +kernel
theorem dX10_carries_65 : decode cX10_carries 65 = .ok (.if_icmp .ge 106, 3) := by decide +kernel
theorem dX10_carries_68 : decode cX10_carries 68 = .ok (.aload_n 0, 1) := by decide +kernel
theorem dX10_carries_69 : decode cX10_carries 69 = .ok (.getfield 23, 3) := by decide +kernel
theorem dX10_carries_72 : decode cX10_carries 72 = .ok (.iload_n 3, 1) := by decide +kernel
theorem dX10_carries_73 : decode cX10_carries 73 = .ok (.iaload, 1) := by decide +kernel
theorem dX10_carries_74 : decode cX10_carries 74 = .ok (.ldc 107, 2) := by decide +kernel
theorem dX10_carries_76 : decode cX10_carries 76 = .ok (.if_icmp .ge 7, 3) := by decide +kernel
theorem dX10_carries_79 : decode cX10_carries 79 = .ok (.iload_n 3, 1) := by decide +kernel
theorem dX10_carries_80 : decode cX10_carries 80 = .ok (.goto 4, 3) := by decide +kernel
theorem dX10_carries_83 : decode cX10_carries 83 = .ok (.iconst (-1), 1) := by decide +kernel
theorem dX10_carries_84 : decode cX10_carries 84 = .ok (.istore 4, 2) := by decide +kernel
theorem dX10_carries_86 : decode cX10_carries 86 = .ok (.aload_n 0, 1) := by decide +kernel
theorem dX10_carries_87 : decode cX10_carries 87 = .ok (.getfield 23, 3) := by decide +kernel
theorem dX10_carries_90 : decode cX10_carries 90 = .ok (.iload_n 3, 1) := by decide +kernel
theorem dX10_carries_91 : decode cX10_carries 91 = .ok (.iaload, 1) := by decide +kernel
theorem dX10_carries_92 : decode cX10_carries 92 = .ok (.istore 5, 2) := by decide +kernel
theorem dX10_carries_94 : decode cX10_carries 94 = .ok (.iload 4, 2) := by decide +kernel
theorem dX10_carries_96 : decode cX10_carries 96 = .ok (.iconst (-1), 1) := by decide +kernel
theorem dX10_carries_97 : decode cX10_carries 97 = .ok (.if_icmp .eq 68, 3) := by decide +kernel
theorem dX10_carries_100 : decode cX10_carries 100 = .ok (.aload_n 0, 1) := by decide +kernel
theorem dX10_carries_101 : decode cX10_carries 101 = .ok (.getfield 26, 3) := by decide +kernel
theorem dX10_carries_104 : decode cX10_carries 104 = .ok (.iload 4, 2) := by decide +kernel
theorem dX10_carries_106 : decode cX10_carries 106 = .ok (.iload 5, 2) := by decide +kernel
theorem dX10_carries_108 : decode cX10_carries 108 = .ok (.aload_n 0, 1) := by decide +kernel
theorem dX10_carries_109 : decode cX10_carries 109 = .ok (.getfield 26, 3) := by decide +kernel
theorem dX10_carries_112 : decode cX10_carries 112 = .ok (.iload 4, 2) := by decide +kernel
theorem dX10_carries_114 : decode cX10_carries 114 = .ok (.iaload, 1) := by decide +kernel
theorem dX10_carries_115 : decode cX10_carries 115 = .ok (.if_icmp .ge 8, 3) := by decide +kernel
theorem dX10_carries_118 : decode cX10_carries 118 = .ok (.iload 5, 2) := by decide +kernel
theorem dX10_carries_120 : decode cX10_carries 120 = .ok (.goto 10, 3) := by decide +kernel
theorem dX10_carries_123 : decode cX10_carries 123 = .ok (.aload_n 0, 1) := by decide +kernel
theorem dX10_carries_124 : decode cX10_carries 124 = .ok (.getfield 26, 3) := by decide +kernel
theorem dX10_carries_127 : decode cX10_carries 127 = .ok (.iload 4, 2) := by decide +kernel
theorem dX10_carries_129 : decode cX10_carries 129 = .ok (.iaload, 1) := by decide +kernel
theorem dX10_carries_130 : decode cX10_carries 130 = .ok (.iastore, 1) := by decide +kernel
theorem dX10_carries_131 : decode cX10_carries 131 = .ok (.aload_n 0, 1) := by decide +kernel
theorem dX10_carries_132 : decode cX10_carries 132 = .ok (.iload_n 2, 1) := by decide +kernel
theorem dX10_carries_133 : decode cX10_carries 133 = .ok (.iload 4, 2) := by decide +kernel
theorem dX10_carries_135 : decode cX10_carries 135 = .ok (.invokevirtual 98, 3) := by decide +kernel
theorem dX10_carries_138 : decode cX10_carries 138 = .ok (.istore 6, 2) := by decide +kernel
theorem dX10_carries_140 : decode cX10_carries 140 = .ok (.iload 6, 2) := by decide +kernel
theorem dX10_carries_142 : decode cX10_carries 142 = .ok (.iconst (-1), 1) := by decide +kernel
theorem dX10_carries_143 : decode cX10_carries 143 = .ok (.if_icmp .ne 7, 3) := by decide +kernel
theorem dX10_carries_146 : decode cX10_carries 146 = .ok (.iconst (-1), 1) := by decide +kernel
theorem dX10_carries_147 : decode cX10_carries 147 = .ok (.goto 10, 3) := by decide +kernel
theorem dX10_carries_150 : decode cX10_carries 150 = .ok (.iload 4, 2) := by decide +kernel
theorem dX10_carries_152 : decode cX10_carries 152 = .ok (.iload 6, 2) := by decide +kernel
theorem dX10_carries_154 : decode cX10_carries 154 = .ok (.invokestatic 95, 3) := by decide +kernel
theorem dX10_carries_157 : decode cX10_carries 157 = .ok (.istore 4, 2) := by decide +kernel
theorem dX10_carries_159 : decode cX10_carries 159 = .ok (.iinc 5 1, 3) := by decide +kernel
theorem dX10_carries_162 : decode cX10_carries 162 = .ok (.goto (-68), 3) := by decide +kernel
theorem dX10_carries_165 : decode cX10_carries 165 = .ok (.iinc 3 1, 3) := by decide +kernel
theorem dX10_carries_168 : decode cX10_carries 168 = .ok (.goto (-106), 3) := by decide +kernel
theorem dX10_carries_171 : decode cX10_carries 171 = .ok (.iconst 0, 1) := by decide +kernel
theorem dX10_carries_172 : decode cX10_carries 172 = .ok (.istore_n 3, 1) := by decide +kernel
theorem dX10_carries_173 : decode cX10_carries 173 = .ok (.iload_n 3, 1) := by decide +kernel
theorem dX10_carries_174 : decode cX10_carries 174 = .ok (.bipush 64, 2) := by decide +kernel
theorem dX10_carries_176 : decode cX10_carries 176 = .ok (.if_icmp .ge 21, 3) := by decide +kernel
theorem dX10_carries_179 : decode cX10_carries 179 = .ok (.aload_n 0, 1) := by decide +kernel
theorem dX10_carries_180 : decode cX10_carries 180 = .ok (.getfield 23, 3) := by decide +kernel
theorem dX10_carries_183 : decode cX10_carries 183 = .ok (.iload_n 3, 1) := by decide +kernel
theorem dX10_carries_184 : decode cX10_carries 184 = .ok (.aload_n 0, 1) := by decide +kernel
theorem dX10_carries_185 : decode cX10_carries 185 = .ok (.getfield 26, 3) := by decide +kernel
theorem dX10_carries_188 : decode cX10_carries 188 = .ok (.iload_n 3, 1) := by decide +kernel
theorem dX10_carries_189 : decode cX10_carries 189 = .ok (.iaload, 1) := by decide +kernel
theorem dX10_carries_190 : decode cX10_carries 190 = .ok (.iastore, 1) := by decide +kernel
theorem dX10_carries_191 : decode cX10_carries 191 = .ok (.iinc 3 1, 3) := by decide +kernel
theorem dX10_carries_194 : decode cX10_carries 194 = .ok (.goto (-21), 3) := by decide +kernel
theorem dX10_carries_197 : decode cX10_carries 197 = .ok (.iinc 2 1, 3) := by decide +kernel
theorem dX10_carries_200 : decode cX10_carries 200 = .ok (.goto (-167), 3) := by decide +kernel
theorem dX10_carries_203 : decode cX10_carries 203 = .ok (.return_, 1) := by decide +kernel
theorem dX10_stepsOf_0 : decode cX10_stepsOf 0 = .ok (.aload_n 0, 1) := by decide +kernel
theorem dX10_stepsOf_1 : decode cX10_stepsOf 1 = .ok (.aload_n 0, 1) := by decide +kernel
theorem dX10_stepsOf_2 : decode cX10_stepsOf 2 = .ok (.iload_n 2, 1) := by decide +kernel
theorem dX10_stepsOf_3 : decode cX10_stepsOf 3 = .ok (.iconst 0, 1) := by decide +kernel
theorem dX10_stepsOf_4 : decode cX10_stepsOf 4 = .ok (.invokevirtual 108, 3) := by decide +kernel
theorem dX10_stepsOf_7 : decode cX10_stepsOf 7 = .ok (.invokevirtual 111, 3) := by decide +kernel
theorem dX10_stepsOf_10 : decode cX10_stepsOf 10 = .ok (.aload_n 0, 1) := by decide +kernel
theorem dX10_stepsOf_11 : decode cX10_stepsOf 11 = .ok (.getfield 23, 3) := by decide +kernel
theorem dX10_stepsOf_14 : decode cX10_stepsOf 14 = .ok (.aload_n 0, 1) := by decide +kernel
theorem dX10_stepsOf_15 : decode cX10_stepsOf 15 = .ok (.iload_n 1, 1) := by decide +kernel
theorem dX10_stepsOf_16 : decode cX10_stepsOf 16 = .ok (.iconst 0, 1) := by decide +kernel
theorem dX10_stepsOf_17 : decode cX10_stepsOf 17 = .ok (.invokevirtual 115, 3) := by decide +kernel
theorem dX10_stepsOf_20 : decode cX10_stepsOf 20 = .ok (.iaload, 1) := by decide +kernel
theorem dX10_stepsOf_21 : decode cX10_stepsOf 21 = .ok (.istore_n 3, 1) := by decide +kernel
theorem dX10_stepsOf_22 : decode cX10_stepsOf 22 = .ok (.iload_n 3, 1) := by decide +kernel
theorem dX10_stepsOf_23 : decode cX10_stepsOf 23 = .ok (.ldc 107, 2) := by decide +kernel
theorem dX10_stepsOf_25 : decode cX10_stepsOf 25 = .ok (.if_icmp .ge 7, 3) := by decide +kernel
theorem dX10_stepsOf_28 : decode cX10_stepsOf 28 = .ok (.iload_n 3, 1) := by decide +kernel
theorem dX10_stepsOf_29 : decode cX10_stepsOf 29 = .ok (.goto 4, 3) := by decide +kernel
theorem dX10_stepsOf_32 : decode cX10_stepsOf 32 = .ok (.iconst (-1), 1) := by decide +kernel
theorem dX10_stepsOf_33 : decode cX10_stepsOf 33 = .ok (.ireturn, 1) := by decide +kernel
theorem dX10_fits_0 : decode cX10_fits 0 = .ok (.aload_n 0, 1) := by decide +kernel
theorem dX10_fits_1 : decode cX10_fits 1 = .ok (.iconst 1, 1) := by decide +kernel
theorem dX10_fits_2 : decode cX10_fits 2 = .ok (.iload_n 1, 1) := by decide +kernel
theorem dX10_fits_3 : decode cX10_fits 3 = .ok (.invokevirtual 118, 3) := by decide +kernel
theorem dX10_fits_6 : decode cX10_fits 6 = .ok (.ifCond .ne 6, 3) := by decide +kernel
theorem dX10_fits_9 : decode cX10_fits 9 = .ok (.bipush (-2), 2) := by decide +kernel
theorem dX10_fits_11 : decode cX10_fits 11 = .ok (.ireturn, 1) := by decide +kernel
theorem dX10_fits_12 : decode cX10_fits 12 = .ok (.iconst 0, 1) := by decide +kernel
theorem dX10_fits_13 : decode cX10_fits 13 = .ok (.istore_n 2, 1) := by decide +kernel
theorem dX10_fits_14 : decode cX10_fits 14 = .ok (.iconst 0, 1) := by decide +kernel
theorem dX10_fits_15 : decode cX10_fits 15 = .ok (.istore_n 3, 1) := by decide +kernel
theorem dX10_fits_16 : decode cX10_fits 16 = .ok (.iload_n 3, 1) := by decide +kernel
theorem dX10_fits_17 : decode cX10_fits 17 = .ok (.aload_n 0, 1) := by decide +kernel
theorem dX10_fits_18 : decode cX10_fits 18 = .ok (.getfield 7, 3) := by decide +kernel
theorem dX10_fits_21 : decode cX10_fits 21 = .ok (.iconst 0, 1) := by decide +kernel
theorem dX10_fits_22 : decode cX10_fits 22 = .ok (.iaload, 1) := by decide +kernel
theorem dX10_fits_23 : decode cX10_fits 23 = .ok (.if_icmp .ge 44, 3) := by decide +kernel
theorem dX10_fits_26 : decode cX10_fits 26 = .ok (.iload_n 2, 1) := by decide +kernel
theorem dX10_fits_27 : decode cX10_fits 27 = .ok (.aload_n 0, 1) := by decide +kernel
theorem dX10_fits_28 : decode cX10_fits 28 = .ok (.iload_n 3, 1) := by decide +kernel
theorem dX10_fits_29 : decode cX10_fits 29 = .ok (.iconst 1, 1) := by decide +kernel
theorem dX10_fits_30 : decode cX10_fits 30 = .ok (.invokevirtual 108, 3) := by decide +kernel
theorem dX10_fits_33 : decode cX10_fits 33 = .ok (.aload_n 0, 1) := by decide +kernel
theorem dX10_fits_34 : decode cX10_fits 34 = .ok (.iload_n 1, 1) := by decide +kernel
theorem dX10_fits_35 : decode cX10_fits 35 = .ok (.iconst 1, 1) := by decide +kernel
theorem dX10_fits_36 : decode cX10_fits 36 = .ok (.invokevirtual 115, 3) := by decide +kernel
theorem dX10_fits_39 : decode cX10_fits 39 = .ok (.if_icmp .ne 19, 3) := by decide +kernel
theorem dX10_fits_42 : decode cX10_fits 42 = .ok (.aload_n 0, 1) := by decide +kernel
theorem dX10_fits_43 : decode cX10_fits 43 = .ok (.iload_n 1, 1) := by decide +kernel
theorem dX10_fits_44 : decode cX10_fits 44 = .ok (.iload_n 3, 1) := by decide +kernel
theorem dX10_fits_45 : decode cX10_fits 45 = .ok (.invokevirtual 122, 3) := by decide +kernel
theorem dX10_fits_48 : decode cX10_fits 48 = .ok (.iconst (-1), 1) := by decide +kernel
theorem dX10_fits_49 : decode cX10_fits 49 = .ok (.if_icmp .eq 9, 3) := by decide +kernel
theorem dX10_fits_52 : decode cX10_fits 52 = .ok (.iconst 1, 1) := by decide +kernel
theorem dX10_fits_53 : decode cX10_fits 53 = .ok (.iload_n 3, 1) := by decide +kernel
theorem dX10_fits_54 : decode cX10_fits 54 = .ok (.ishl, 1) := by decide +kernel
theorem dX10_fits_55 : decode cX10_fits 55 = .ok (.goto 4, 3) := by decide +kernel
theorem dX10_fits_58 : decode cX10_fits 58 = .ok (.iconst 0, 1) := by decide +kernel
theorem dX10_fits_59 : decode cX10_fits 59 = .ok (.ior, 1) := by decide +kernel
theorem dX10_fits_60 : decode cX10_fits 60 = .ok (.istore_n 2, 1) := by decide +kernel
theorem dX10_fits_61 : decode cX10_fits 61 = .ok (.iinc 3 1, 3) := by decide +kernel
theorem dX10_fits_64 : decode cX10_fits 64 = .ok (.goto (-48), 3) := by decide +kernel
theorem dX10_fits_67 : decode cX10_fits 67 = .ok (.iload_n 2, 1) := by decide +kernel
theorem dX10_fits_68 : decode cX10_fits 68 = .ok (.ireturn, 1) := by decide +kernel
theorem dX10_steps_0 : decode cX10_steps 0 = .ok (.aload_n 0, 1) := by decide +kernel
theorem dX10_steps_1 : decode cX10_steps 1 = .ok (.iconst 1, 1) := by decide +kernel
theorem dX10_steps_2 : decode cX10_steps 2 = .ok (.iload_n 1, 1) := by decide +kernel
theorem dX10_steps_3 : decode cX10_steps 3 = .ok (.invokevirtual 118, 3) := by decide +kernel
theorem dX10_steps_6 : decode cX10_steps 6 = .ok (.ifCond .eq 21, 3) := by decide +kernel
theorem dX10_steps_9 : decode cX10_steps 9 = .ok (.aload_n 0, 1) := by decide +kernel
theorem dX10_steps_10 : decode cX10_steps 10 = .ok (.iconst 0, 1) := by decide +kernel
theorem dX10_steps_11 : decode cX10_steps 11 = .ok (.iload_n 2, 1) := by decide +kernel
theorem dX10_steps_12 : decode cX10_steps 12 = .ok (.invokevirtual 118, 3) := by decide +kernel
theorem dX10_steps_15 : decode cX10_steps 15 = .ok (.ifCond .eq 12, 3) := by decide +kernel
theorem dX10_steps_18 : decode cX10_steps 18 = .ok (.aload_n 0, 1) := by decide +kernel
theorem dX10_steps_19 : decode cX10_steps 19 = .ok (.iload_n 1, 1) := by decide +kernel
theorem dX10_steps_20 : decode cX10_steps 20 = .ok (.iload_n 2, 1) := by decide +kernel
theorem dX10_steps_21 : decode cX10_steps 21 = .ok (.invokevirtual 122, 3) := by decide +kernel
theorem dX10_steps_24 : decode cX10_steps 24 = .ok (.goto 5, 3) := by decide +kernel
theorem dX10_steps_27 : decode cX10_steps 27 = .ok (.bipush (-2), 2) := by decide +kernel
theorem dX10_steps_29 : decode cX10_steps 29 = .ok (.ireturn, 1) := by decide +kernel
theorem dX10_home_0 : decode cX10_home 0 = .ok (.aload_n 0, 1) := by decide +kernel
theorem dX10_home_1 : decode cX10_home 1 = .ok (.iconst 1, 1) := by decide +kernel
theorem dX10_home_2 : decode cX10_home 2 = .ok (.iload_n 1, 1) := by decide +kernel
theorem dX10_home_3 : decode cX10_home 3 = .ok (.invokevirtual 118, 3) := by decide +kernel
theorem dX10_home_6 : decode cX10_home 6 = .ok (.ifCond .ne 6, 3) := by decide +kernel
theorem dX10_home_9 : decode cX10_home 9 = .ok (.bipush (-2), 2) := by decide +kernel
theorem dX10_home_11 : decode cX10_home 11 = .ok (.ireturn, 1) := by decide +kernel
theorem dX10_home_12 : decode cX10_home 12 = .ok (.iconst (-1), 1) := by decide +kernel
theorem dX10_home_13 : decode cX10_home 13 = .ok (.istore_n 2, 1) := by decide +kernel
theorem dX10_home_14 : decode cX10_home 14 = .ok (.ldc 107, 2) := by decide +kernel
theorem dX10_home_16 : decode cX10_home 16 = .ok (.istore_n 3, 1) := by decide +kernel
theorem dX10_home_17 : decode cX10_home 17 = .ok (.iconst 0, 1) := by decide +kernel
theorem dX10_home_18 : decode cX10_home 18 = .ok (.istore 4, 2) := by decide +kernel
theorem dX10_home_20 : decode cX10_home 20 = .ok (.iload 4, 2) := by decide +kernel
theorem dX10_home_22 : decode cX10_home 22 = .ok (.aload_n 0, 1) := by decide +kernel
theorem dX10_home_23 : decode cX10_home 23 = .ok (.getfield 7, 3) := by decide +kernel
theorem dX10_home_26 : decode cX10_home 26 = .ok (.iconst 0, 1) := by decide +kernel
theorem dX10_home_27 : decode cX10_home 27 = .ok (.iaload, 1) := by decide +kernel
theorem dX10_home_28 : decode cX10_home 28 = .ok (.if_icmp .ge 56, 3) := by decide +kernel
theorem dX10_home_31 : decode cX10_home 31 = .ok (.aload_n 0, 1) := by decide +kernel
theorem dX10_home_32 : decode cX10_home 32 = .ok (.iload 4, 2) := by decide +kernel
theorem dX10_home_34 : decode cX10_home 34 = .ok (.iconst 1, 1) := by decide +kernel
theorem dX10_home_35 : decode cX10_home 35 = .ok (.invokevirtual 108, 3) := by decide +kernel
theorem dX10_home_38 : decode cX10_home 38 = .ok (.aload_n 0, 1) := by decide +kernel
theorem dX10_home_39 : decode cX10_home 39 = .ok (.iload_n 1, 1) := by decide +kernel
theorem dX10_home_40 : decode cX10_home 40 = .ok (.iconst 1, 1) := by decide +kernel
theorem dX10_home_41 : decode cX10_home 41 = .ok (.invokevirtual 115, 3) := by decide +kernel
theorem dX10_home_44 : decode cX10_home 44 = .ok (.if_icmp .ne 13, 3) := by decide +kernel
theorem dX10_home_47 : decode cX10_home 47 = .ok (.aload_n 0, 1) := by decide +kernel
theorem dX10_home_48 : decode cX10_home 48 = .ok (.iload_n 1, 1) := by decide +kernel
theorem dX10_home_49 : decode cX10_home 49 = .ok (.iload 4, 2) := by decide +kernel
theorem dX10_home_51 : decode cX10_home 51 = .ok (.invokevirtual 122, 3) := by decide +kernel
theorem dX10_home_54 : decode cX10_home 54 = .ok (.goto 4, 3) := by decide +kernel
theorem dX10_home_57 : decode cX10_home 57 = .ok (.iconst (-1), 1) := by decide +kernel
theorem dX10_home_58 : decode cX10_home 58 = .ok (.istore 5, 2) := by decide +kernel
theorem dX10_home_60 : decode cX10_home 60 = .ok (.iload 5, 2) := by decide +kernel
theorem dX10_home_62 : decode cX10_home 62 = .ok (.iconst (-1), 1) := by decide +kernel
theorem dX10_home_63 : decode cX10_home 63 = .ok (.if_icmp .eq 15, 3) := by decide +kernel
theorem dX10_home_66 : decode cX10_home 66 = .ok (.iload 5, 2) := by decide +kernel
theorem dX10_home_68 : decode cX10_home 68 = .ok (.iload_n 3, 1) := by decide +kernel
theorem dX10_home_69 : decode cX10_home 69 = .ok (.if_icmp .ge 9, 3) := by decide +kernel
theorem dX10_home_72 : decode cX10_home 72 = .ok (.iload 4, 2) := by decide +kernel
theorem dX10_home_74 : decode cX10_home 74 = .ok (.istore_n 2, 1) := by decide +kernel
theorem dX10_home_75 : decode cX10_home 75 = .ok (.iload 5, 2) := by decide +kernel
theorem dX10_home_77 : decode cX10_home 77 = .ok (.istore_n 3, 1) := by decide +kernel
theorem dX10_home_78 : decode cX10_home 78 = .ok (.iinc 4 1, 3) := by decide +kernel
theorem dX10_home_81 : decode cX10_home 81 = .ok (.goto (-61), 3) := by decide +kernel
theorem dX10_home_84 : decode cX10_home 84 = .ok (.iload_n 2, 1) := by decide +kernel
theorem dX10_home_85 : decode cX10_home 85 = .ok (.ireturn, 1) := by decide +kernel
theorem dX10_upstream_0 : decode cX10_upstream 0 = .ok (.iload_n 1, 1) := by decide +kernel
theorem dX10_upstream_1 : decode cX10_upstream 1 = .ok (.invokestatic 77, 3) := by decide +kernel
theorem dX10_upstream_4 : decode cX10_upstream 4 = .ok (.ifCond .ne 6, 3) := by decide +kernel
theorem dX10_upstream_7 : decode cX10_upstream 7 = .ok (.bipush (-2), 2) := by decide +kernel
theorem dX10_upstream_9 : decode cX10_upstream 9 = .ok (.ireturn, 1) := by decide +kernel
theorem dX10_upstream_10 : decode cX10_upstream 10 = .ok (.iconst 0, 1) := by decide +kernel
theorem dX10_upstream_11 : decode cX10_upstream 11 = .ok (.istore_n 2, 1) := by decide +kernel
theorem dX10_upstream_12 : decode cX10_upstream 12 = .ok (.iconst 0, 1) := by decide +kernel
theorem dX10_upstream_13 : decode cX10_upstream 13 = .ok (.istore_n 3, 1) := by decide +kernel
theorem dX10_upstream_14 : decode cX10_upstream 14 = .ok (.iload_n 3, 1) := by decide +kernel
theorem dX10_upstream_15 : decode cX10_upstream 15 = .ok (.bipush 64, 2) := by decide +kernel
theorem dX10_upstream_17 : decode cX10_upstream 17 = .ok (.if_icmp .ge 33, 3) := by decide +kernel
theorem dX10_upstream_20 : decode cX10_upstream 20 = .ok (.aload_n 0, 1) := by decide +kernel
theorem dX10_upstream_21 : decode cX10_upstream 21 = .ok (.iload_n 3, 1) := by decide +kernel
theorem dX10_upstream_22 : decode cX10_upstream 22 = .ok (.invokevirtual 111, 3) := by decide +kernel
theorem dX10_upstream_25 : decode cX10_upstream 25 = .ok (.iload_n 2, 1) := by decide +kernel
theorem dX10_upstream_26 : decode cX10_upstream 26 = .ok (.aload_n 0, 1) := by decide +kernel
theorem dX10_upstream_27 : decode cX10_upstream 27 = .ok (.getfield 23, 3) := by decide +kernel
theorem dX10_upstream_30 : decode cX10_upstream 30 = .ok (.iload_n 1, 1) := by decide +kernel
theorem dX10_upstream_31 : decode cX10_upstream 31 = .ok (.iaload, 1) := by decide +kernel
theorem dX10_upstream_32 : decode cX10_upstream 32 = .ok (.ldc 107, 2) := by decide +kernel
theorem dX10_upstream_34 : decode cX10_upstream 34 = .ok (.if_icmp .ge 7, 3) := by decide +kernel
theorem dX10_upstream_37 : decode cX10_upstream 37 = .ok (.iconst 1, 1) := by decide +kernel
theorem dX10_upstream_38 : decode cX10_upstream 38 = .ok (.goto 4, 3) := by decide +kernel
theorem dX10_upstream_41 : decode cX10_upstream 41 = .ok (.iconst 0, 1) := by decide +kernel
theorem dX10_upstream_42 : decode cX10_upstream 42 = .ok (.iadd, 1) := by decide +kernel
theorem dX10_upstream_43 : decode cX10_upstream 43 = .ok (.istore_n 2, 1) := by decide +kernel
theorem dX10_upstream_44 : decode cX10_upstream 44 = .ok (.iinc 3 1, 3) := by decide +kernel
theorem dX10_upstream_47 : decode cX10_upstream 47 = .ok (.goto (-33), 3) := by decide +kernel
theorem dX10_upstream_50 : decode cX10_upstream 50 = .ok (.iload_n 2, 1) := by decide +kernel
theorem dX10_upstream_51 : decode cX10_upstream 51 = .ok (.ireturn, 1) := by decide +kernel
theorem dX10_scratch_0 : decode cX10_scratch 0 = .ok (.iload_n 1, 1) := by decide +kernel
theorem dX10_scratch_1 : decode cX10_scratch 1 = .ok (.invokestatic 77, 3) := by decide +kernel
theorem dX10_scratch_4 : decode cX10_scratch 4 = .ok (.ifCond .eq 30, 3) := by decide +kernel
theorem dX10_scratch_7 : decode cX10_scratch 7 = .ok (.iload_n 2, 1) := by decide +kernel
theorem dX10_scratch_8 : decode cX10_scratch 8 = .ok (.i2l, 1) := by decide +kernel
theorem dX10_scratch_9 : decode cX10_scratch 9 = .ok (.lconst 0, 1) := by decide +kernel
theorem dX10_scratch_10 : decode cX10_scratch 10 = .ok (.ldc2_w 125, 3) := by decide +kernel
theorem dX10_scratch_13 : decode cX10_scratch 13 = .ok (.invokestatic 67, 3) := by decide +kernel
theorem dX10_scratch_16 : decode cX10_scratch 16 = .ok (.ifCond .eq 18, 3) := by decide +kernel
theorem dX10_scratch_19 : decode cX10_scratch 19 = .ok (.aload_n 0, 1) := by decide +kernel
theorem dX10_scratch_20 : decode cX10_scratch 20 = .ok (.iconst 2, 1) := by decide +kernel
theorem dX10_scratch_21 : decode cX10_scratch 21 = .ok (.bipush 10, 2) := by decide +kernel
theorem dX10_scratch_23 : decode cX10_scratch 23 = .ok (.sipush 260, 3) := by decide +kernel
theorem dX10_scratch_26 : decode cX10_scratch 26 = .ok (.iload_n 1, 1) := by decide +kernel
theorem dX10_scratch_27 : decode cX10_scratch 27 = .ok (.iload_n 2, 1) := by decide +kernel
theorem dX10_scratch_28 : decode cX10_scratch 28 = .ok (.invokevirtual 103, 3) := by decide +kernel
theorem dX10_scratch_31 : decode cX10_scratch 31 = .ok (.goto 5, 3) := by decide +kernel
theorem dX10_scratch_34 : decode cX10_scratch 34 = .ok (.bipush (-2), 2) := by decide +kernel
theorem dX10_scratch_36 : decode cX10_scratch 36 = .ok (.ireturn, 1) := by decide +kernel
theorem dX10_put_0 : decode cX10_put 0 = .ok (.iload_n 1, 1) := by decide +kernel
theorem dX10_put_1 : decode cX10_put 1 = .ok (.ifCond .ne 15, 3) := by decide +kernel
theorem dX10_put_4 : decode cX10_put 4 = .ok (.iload_n 2, 1) := by decide +kernel
theorem dX10_put_5 : decode cX10_put 5 = .ok (.i2l, 1) := by decide +kernel
theorem dX10_put_6 : decode cX10_put 6 = .ok (.lconst 0, 1) := by decide +kernel
theorem dX10_put_7 : decode cX10_put 7 = .ok (.ldc2_w 86, 3) := by decide +kernel
theorem dX10_put_10 : decode cX10_put 10 = .ok (.invokestatic 67, 3) := by decide +kernel
theorem dX10_put_13 : decode cX10_put 13 = .ok (.goto 105, 3) := by decide +kernel
theorem dX10_put_16 : decode cX10_put 16 = .ok (.iload_n 1, 1) := by decide +kernel
theorem dX10_put_17 : decode cX10_put 17 = .ok (.iconst 1, 1) := by decide +kernel
theorem dX10_put_18 : decode cX10_put 18 = .ok (.if_icmp .ne 15, 3) := by decide +kernel
theorem dX10_put_21 : decode cX10_put 21 = .ok (.iload_n 2, 1) := by decide +kernel
theorem dX10_put_22 : decode cX10_put 22 = .ok (.i2l, 1) := by decide +kernel
theorem dX10_put_23 : decode cX10_put 23 = .ok (.lconst 1, 1) := by decide +kernel
theorem dX10_put_24 : decode cX10_put 24 = .ok (.ldc2_w 127, 3) := by decide +kernel
theorem dX10_put_27 : decode cX10_put 27 = .ok (.invokestatic 67, 3) := by decide +kernel
theorem dX10_put_30 : decode cX10_put 30 = .ok (.goto 88, 3) := by decide +kernel
theorem dX10_put_33 : decode cX10_put 33 = .ok (.iload_n 1, 1) := by decide +kernel
theorem dX10_put_34 : decode cX10_put 34 = .ok (.iconst 2, 1) := by decide +kernel
theorem dX10_put_35 : decode cX10_put 35 = .ok (.if_icmp .ne 15, 3) := by decide +kernel
theorem dX10_put_38 : decode cX10_put 38 = .ok (.iload_n 2, 1) := by decide +kernel
theorem dX10_put_39 : decode cX10_put 39 = .ok (.i2l, 1) := by decide +kernel
theorem dX10_put_40 : decode cX10_put 40 = .ok (.lconst 1, 1) := by decide +kernel
theorem dX10_put_41 : decode cX10_put 41 = .ok (.ldc2_w 129, 3) := by decide +kernel
theorem dX10_put_44 : decode cX10_put 44 = .ok (.invokestatic 67, 3) := by decide +kernel
theorem dX10_put_47 : decode cX10_put 47 = .ok (.goto 71, 3) := by decide +kernel
theorem dX10_put_50 : decode cX10_put 50 = .ok (.iload_n 1, 1) := by decide +kernel
theorem dX10_put_51 : decode cX10_put 51 = .ok (.iconst 3, 1) := by decide +kernel
theorem dX10_put_52 : decode cX10_put 52 = .ok (.if_icmp .ne 15, 3) := by decide +kernel
theorem dX10_put_55 : decode cX10_put 55 = .ok (.iload_n 2, 1) := by decide +kernel
theorem dX10_put_56 : decode cX10_put 56 = .ok (.i2l, 1) := by decide +kernel
theorem dX10_put_57 : decode cX10_put 57 = .ok (.lconst 1, 1) := by decide +kernel
theorem dX10_put_58 : decode cX10_put 58 = .ok (.ldc2_w 131, 3) := by decide +kernel
theorem dX10_put_61 : decode cX10_put 61 = .ok (.invokestatic 67, 3) := by decide +kernel
theorem dX10_put_64 : decode cX10_put 64 = .ok (.goto 54, 3) := by decide +kernel
theorem dX10_put_67 : decode cX10_put 67 = .ok (.iload_n 1, 1) := by decide +kernel
theorem dX10_put_68 : decode cX10_put 68 = .ok (.iconst 4, 1) := by decide +kernel
theorem dX10_put_69 : decode cX10_put 69 = .ok (.if_icmp .ne 20, 3) := by decide +kernel
theorem dX10_put_72 : decode cX10_put 72 = .ok (.iload_n 2, 1) := by decide +kernel
theorem dX10_put_73 : decode cX10_put 73 = .ok (.i2l, 1) := by decide +kernel
theorem dX10_put_74 : decode cX10_put 74 = .ok (.lconst 1, 1) := by decide +kernel
theorem dX10_put_75 : decode cX10_put 75 = .ok (.aload_n 0, 1) := by decide +kernel
theorem dX10_put_76 : decode cX10_put 76 = .ok (.getfield 7, 3) := by decide +kernel
theorem dX10_put_79 : decode cX10_put 79 = .ok (.bipush 11, 2) := by decide +kernel
theorem dX10_put_81 : decode cX10_put 81 = .ok (.iaload, 1) := by decide +kernel
theorem dX10_put_82 : decode cX10_put 82 = .ok (.i2l, 1) := by decide +kernel
theorem dX10_put_83 : decode cX10_put 83 = .ok (.invokestatic 67, 3) := by decide +kernel
theorem dX10_put_86 : decode cX10_put 86 = .ok (.goto 32, 3) := by decide +kernel
theorem dX10_put_89 : decode cX10_put 89 = .ok (.iload_n 1, 1) := by decide +kernel
theorem dX10_put_90 : decode cX10_put 90 = .ok (.iconst 5, 1) := by decide +kernel
theorem dX10_put_91 : decode cX10_put 91 = .ok (.if_icmp .ne 26, 3) := by decide +kernel
theorem dX10_put_94 : decode cX10_put 94 = .ok (.iload_n 2, 1) := by decide +kernel
theorem dX10_put_95 : decode cX10_put 95 = .ok (.i2l, 1) := by decide +kernel
theorem dX10_put_96 : decode cX10_put 96 = .ok (.aload_n 0, 1) := by decide +kernel
theorem dX10_put_97 : decode cX10_put 97 = .ok (.getfield 7, 3) := by decide +kernel
theorem dX10_put_100 : decode cX10_put 100 = .ok (.bipush 10, 2) := by decide +kernel
theorem dX10_put_102 : decode cX10_put 102 = .ok (.iaload, 1) := by decide +kernel
theorem dX10_put_103 : decode cX10_put 103 = .ok (.i2l, 1) := by decide +kernel
theorem dX10_put_104 : decode cX10_put 104 = .ok (.ldc2_w 80, 3) := by decide +kernel
theorem dX10_put_107 : decode cX10_put 107 = .ok (.invokestatic 67, 3) := by decide +kernel
theorem dX10_put_110 : decode cX10_put 110 = .ok (.ifCond .eq 7, 3) := by decide +kernel
theorem dX10_put_113 : decode cX10_put 113 = .ok (.iconst 1, 1) := by decide +kernel
theorem dX10_put_114 : decode cX10_put 114 = .ok (.goto 4, 3) := by decide +kernel
theorem dX10_put_117 : decode cX10_put 117 = .ok (.iconst 0, 1) := by decide +kernel
theorem dX10_put_118 : decode cX10_put 118 = .ok (.istore_n 3, 1) := by decide +kernel
theorem dX10_put_119 : decode cX10_put 119 = .ok (.iload_n 3, 1) := by decide +kernel
theorem dX10_put_120 : decode cX10_put 120 = .ok (.ifCond .eq 15, 3) := by decide +kernel
theorem dX10_put_123 : decode cX10_put 123 = .ok (.aload_n 0, 1) := by decide +kernel
theorem dX10_put_124 : decode cX10_put 124 = .ok (.bipush 6, 2) := by decide +kernel
theorem dX10_put_126 : decode cX10_put 126 = .ok (.iload_n 1, 1) := by decide +kernel
theorem dX10_put_127 : decode cX10_put 127 = .ok (.iadd, 1) := by decide +kernel
theorem dX10_put_128 : decode cX10_put 128 = .ok (.iload_n 2, 1) := by decide +kernel
theorem dX10_put_129 : decode cX10_put 129 = .ok (.invokevirtual 82, 3) := by decide +kernel
theorem dX10_put_132 : decode cX10_put 132 = .ok (.goto 5, 3) := by decide +kernel
theorem dX10_put_135 : decode cX10_put 135 = .ok (.bipush (-2), 2) := by decide +kernel
theorem dX10_put_137 : decode cX10_put 137 = .ok (.ireturn, 1) := by decide +kernel
theorem dX10_mayOf_0 : decode cX10_mayOf 0 = .ok (.iconst 0, 1) := by decide +kernel
theorem dX10_mayOf_1 : decode cX10_mayOf 1 = .ok (.istore_n 2, 1) := by decide +kernel
theorem dX10_mayOf_2 : decode cX10_mayOf 2 = .ok (.iconst 0, 1) := by decide +kernel
theorem dX10_mayOf_3 : decode cX10_mayOf 3 = .ok (.istore_n 3, 1) := by decide +kernel
theorem dX10_mayOf_4 : decode cX10_mayOf 4 = .ok (.iload_n 3, 1) := by decide +kernel
theorem dX10_mayOf_5 : decode cX10_mayOf 5 = .ok (.iconst 3, 1) := by decide +kernel
theorem dX10_mayOf_6 : decode cX10_mayOf 6 = .ok (.if_icmp .ge 124, 3) := by decide +kernel
theorem dX10_mayOf_9 : decode cX10_mayOf 9 = .ok (.aload_n 0, 1) := by decide +kernel
theorem dX10_mayOf_10 : decode cX10_mayOf 10 = .ok (.iload_n 3, 1) := by decide +kernel
theorem dX10_mayOf_11 : decode cX10_mayOf 11 = .ok (.aload_n 0, 1) := by decide +kernel
theorem dX10_mayOf_12 : decode cX10_mayOf 12 = .ok (.getfield 7, 3) := by decide +kernel
theorem dX10_mayOf_15 : decode cX10_mayOf 15 = .ok (.sipush 260, 3) := by decide +kernel
theorem dX10_mayOf_18 : decode cX10_mayOf 18 = .ok (.iconst 2, 1) := by decide +kernel
theorem dX10_mayOf_19 : decode cX10_mayOf 19 = .ok (.iload_n 1, 1) := by decide +kernel
theorem dX10_mayOf_20 : decode cX10_mayOf 20 = .ok (.imul, 1) := by decide +kernel
theorem dX10_mayOf_21 : decode cX10_mayOf 21 = .ok (.iadd, 1) := by decide +kernel
theorem dX10_mayOf_22 : decode cX10_mayOf 22 = .ok (.iaload, 1) := by decide +kernel
theorem dX10_mayOf_23 : decode cX10_mayOf 23 = .ok (.invokevirtual 98, 3) := by decide +kernel
theorem dX10_mayOf_26 : decode cX10_mayOf 26 = .ok (.istore 4, 2) := by decide +kernel
theorem dX10_mayOf_28 : decode cX10_mayOf 28 = .ok (.iload 4, 2) := by decide +kernel
theorem dX10_mayOf_30 : decode cX10_mayOf 30 = .ok (.iconst (-1), 1) := by decide +kernel
theorem dX10_mayOf_31 : decode cX10_mayOf 31 = .ok (.if_icmp .ne 8, 3) := by decide +kernel
theorem dX10_mayOf_34 : decode cX10_mayOf 34 = .ok (.bipush 100, 2) := by decide +kernel
theorem dX10_mayOf_36 : decode cX10_mayOf 36 = .ok (.goto 22, 3) := by decide +kernel
theorem dX10_mayOf_39 : decode cX10_mayOf 39 = .ok (.iconst 2, 1) := by decide +kernel
theorem dX10_mayOf_40 : decode cX10_mayOf 40 = .ok (.iload 4, 2) := by decide +kernel
theorem dX10_mayOf_42 : decode cX10_mayOf 42 = .ok (.imul, 1) := by decide +kernel
theorem dX10_mayOf_43 : decode cX10_mayOf 43 = .ok (.aload_n 0, 1) := by decide +kernel
theorem dX10_mayOf_44 : decode cX10_mayOf 44 = .ok (.getfield 7, 3) := by decide +kernel
theorem dX10_mayOf_47 : decode cX10_mayOf 47 = .ok (.sipush 260, 3) := by decide +kernel
theorem dX10_mayOf_50 : decode cX10_mayOf 50 = .ok (.iconst 2, 1) := by decide +kernel
theorem dX10_mayOf_51 : decode cX10_mayOf 51 = .ok (.iload_n 1, 1) := by decide +kernel
theorem dX10_mayOf_52 : decode cX10_mayOf 52 = .ok (.imul, 1) := by decide +kernel
theorem dX10_mayOf_53 : decode cX10_mayOf 53 = .ok (.iadd, 1) := by decide +kernel
theorem dX10_mayOf_54 : decode cX10_mayOf 54 = .ok (.iconst 1, 1) := by decide +kernel
theorem dX10_mayOf_55 : decode cX10_mayOf 55 = .ok (.iadd, 1) := by decide +kernel
theorem dX10_mayOf_56 : decode cX10_mayOf 56 = .ok (.iaload, 1) := by decide +kernel
theorem dX10_mayOf_57 : decode cX10_mayOf 57 = .ok (.isub, 1) := by decide +kernel
theorem dX10_mayOf_58 : decode cX10_mayOf 58 = .ok (.istore 5, 2) := by decide +kernel
theorem dX10_mayOf_60 : decode cX10_mayOf 60 = .ok (.iload 5, 2) := by decide +kernel
theorem dX10_mayOf_62 : decode cX10_mayOf 62 = .ok (.ifCond .ge 11, 3) := by decide +kernel
theorem dX10_mayOf_65 : decode cX10_mayOf 65 = .ok (.iload 5, 2) := by decide +kernel
theorem dX10_mayOf_67 : decode cX10_mayOf 67 = .ok (.bipush 16, 2) := by decide +kernel
theorem dX10_mayOf_69 : decode cX10_mayOf 69 = .ok (.iadd, 1) := by decide +kernel
theorem dX10_mayOf_70 : decode cX10_mayOf 70 = .ok (.goto 5, 3) := by decide +kernel
theorem dX10_mayOf_73 : decode cX10_mayOf 73 = .ok (.iload 5, 2) := by decide +kernel
theorem dX10_mayOf_75 : decode cX10_mayOf 75 = .ok (.istore 5, 2) := by decide +kernel
theorem dX10_mayOf_77 : decode cX10_mayOf 77 = .ok (.iload 4, 2) := by decide +kernel
theorem dX10_mayOf_79 : decode cX10_mayOf 79 = .ok (.iconst (-1), 1) := by decide +kernel
theorem dX10_mayOf_80 : decode cX10_mayOf 80 = .ok (.if_icmp .eq 18, 3) := by decide +kernel
theorem dX10_mayOf_83 : decode cX10_mayOf 83 = .ok (.iload 5, 2) := by decide +kernel
theorem dX10_mayOf_85 : decode cX10_mayOf 85 = .ok (.bipush 8, 2) := by decide +kernel
theorem dX10_mayOf_87 : decode cX10_mayOf 87 = .ok (.if_icmp .le 11, 3) := by decide +kernel
theorem dX10_mayOf_90 : decode cX10_mayOf 90 = .ok (.bipush 16, 2) := by decide +kernel
theorem dX10_mayOf_92 : decode cX10_mayOf 92 = .ok (.iload 5, 2) := by decide +kernel
theorem dX10_mayOf_94 : decode cX10_mayOf 94 = .ok (.isub, 1) := by decide +kernel
theorem dX10_mayOf_95 : decode cX10_mayOf 95 = .ok (.goto 5, 3) := by decide +kernel
theorem dX10_mayOf_98 : decode cX10_mayOf 98 = .ok (.iload 5, 2) := by decide +kernel
theorem dX10_mayOf_100 : decode cX10_mayOf 100 = .ok (.istore 5, 2) := by decide +kernel
theorem dX10_mayOf_102 : decode cX10_mayOf 102 = .ok (.iload_n 2, 1) := by decide +kernel
theorem dX10_mayOf_103 : decode cX10_mayOf 103 = .ok (.iload 5, 2) := by decide +kernel
theorem dX10_mayOf_105 : decode cX10_mayOf 105 = .ok (.aload_n 0, 1) := by decide +kernel
theorem dX10_mayOf_106 : decode cX10_mayOf 106 = .ok (.getfield 7, 3) := by decide +kernel
theorem dX10_mayOf_109 : decode cX10_mayOf 109 = .ok (.bipush 6, 2) := by decide +kernel
theorem dX10_mayOf_111 : decode cX10_mayOf 111 = .ok (.iaload, 1) := by decide +kernel
theorem dX10_mayOf_112 : decode cX10_mayOf 112 = .ok (.if_icmp .gt 9, 3) := by decide +kernel
theorem dX10_mayOf_115 : decode cX10_mayOf 115 = .ok (.iconst 1, 1) := by decide +kernel
theorem dX10_mayOf_116 : decode cX10_mayOf 116 = .ok (.iload_n 3, 1) := by decide +kernel
theorem dX10_mayOf_117 : decode cX10_mayOf 117 = .ok (.ishl, 1) := by decide +kernel
theorem dX10_mayOf_118 : decode cX10_mayOf 118 = .ok (.goto 4, 3) := by decide +kernel
theorem dX10_mayOf_121 : decode cX10_mayOf 121 = .ok (.iconst 0, 1) := by decide +kernel
theorem dX10_mayOf_122 : decode cX10_mayOf 122 = .ok (.ior, 1) := by decide +kernel
theorem dX10_mayOf_123 : decode cX10_mayOf 123 = .ok (.istore_n 2, 1) := by decide +kernel
theorem dX10_mayOf_124 : decode cX10_mayOf 124 = .ok (.iinc 3 1, 3) := by decide +kernel
theorem dX10_mayOf_127 : decode cX10_mayOf 127 = .ok (.goto (-123), 3) := by decide +kernel
theorem dX10_mayOf_130 : decode cX10_mayOf 130 = .ok (.iload_n 2, 1) := by decide +kernel
theorem dX10_mayOf_131 : decode cX10_mayOf 131 = .ok (.ireturn, 1) := by decide +kernel
theorem dX10_may_0 : decode cX10_may 0 = .ok (.aload_n 0, 1) := by decide +kernel
theorem dX10_may_1 : decode cX10_may 1 = .ok (.iconst 2, 1) := by decide +kernel
theorem dX10_may_2 : decode cX10_may 2 = .ok (.iload_n 1, 1) := by decide +kernel
theorem dX10_may_3 : decode cX10_may 3 = .ok (.invokevirtual 118, 3) := by decide +kernel
theorem dX10_may_6 : decode cX10_may 6 = .ok (.ifCond .eq 11, 3) := by decide +kernel
theorem dX10_may_9 : decode cX10_may 9 = .ok (.aload_n 0, 1) := by decide +kernel
theorem dX10_may_10 : decode cX10_may 10 = .ok (.iload_n 1, 1) := by decide +kernel
theorem dX10_may_11 : decode cX10_may 11 = .ok (.invokevirtual 133, 3) := by decide +kernel
theorem dX10_may_14 : decode cX10_may 14 = .ok (.goto 5, 3) := by decide +kernel
theorem dX10_may_17 : decode cX10_may 17 = .ok (.bipush (-2), 2) := by decide +kernel
theorem dX10_may_19 : decode cX10_may 19 = .ok (.ireturn, 1) := by decide +kernel
theorem dX10_isLaid_0 : decode cX10_isLaid 0 = .ok (.aload_n 0, 1) := by decide +kernel
theorem dX10_isLaid_1 : decode cX10_isLaid 1 = .ok (.getfield 32, 3) := by decide +kernel
theorem dX10_isLaid_4 : decode cX10_isLaid 4 = .ok (.iload_n 1, 1) := by decide +kernel
theorem dX10_isLaid_5 : decode cX10_isLaid 5 = .ok (.iaload, 1) := by decide +kernel
theorem dX10_isLaid_6 : decode cX10_isLaid 6 = .ok (.aload_n 0, 1) := by decide +kernel
theorem dX10_isLaid_7 : decode cX10_isLaid 7 = .ok (.getfield 29, 3) := by decide +kernel
theorem dX10_isLaid_10 : decode cX10_isLaid 10 = .ok (.iload_n 1, 1) := by decide +kernel
theorem dX10_isLaid_11 : decode cX10_isLaid 11 = .ok (.iaload, 1) := by decide +kernel
theorem dX10_isLaid_12 : decode cX10_isLaid 12 = .ok (.ishr, 1) := by decide +kernel
theorem dX10_isLaid_13 : decode cX10_isLaid 13 = .ok (.iconst 1, 1) := by decide +kernel
theorem dX10_isLaid_14 : decode cX10_isLaid 14 = .ok (.iand, 1) := by decide +kernel
theorem dX10_isLaid_15 : decode cX10_isLaid 15 = .ok (.iconst 1, 1) := by decide +kernel
theorem dX10_isLaid_16 : decode cX10_isLaid 16 = .ok (.if_icmp .ne 7, 3) := by decide +kernel
theorem dX10_isLaid_19 : decode cX10_isLaid 19 = .ok (.iconst 1, 1) := by decide +kernel
theorem dX10_isLaid_20 : decode cX10_isLaid 20 = .ok (.goto 4, 3) := by decide +kernel
theorem dX10_isLaid_23 : decode cX10_isLaid 23 = .ok (.iconst 0, 1) := by decide +kernel
theorem dX10_isLaid_24 : decode cX10_isLaid 24 = .ok (.istore_n 2, 1) := by decide +kernel
theorem dX10_isLaid_25 : decode cX10_isLaid 25 = .ok (.iconst 0, 1) := by decide +kernel
theorem dX10_isLaid_26 : decode cX10_isLaid 26 = .ok (.istore_n 3, 1) := by decide +kernel
theorem dX10_isLaid_27 : decode cX10_isLaid 27 = .ok (.iload_n 3, 1) := by decide +kernel
theorem dX10_isLaid_28 : decode cX10_isLaid 28 = .ok (.iload_n 1, 1) := by decide +kernel
theorem dX10_isLaid_29 : decode cX10_isLaid 29 = .ok (.if_icmp .ge 61, 3) := by decide +kernel
theorem dX10_isLaid_32 : decode cX10_isLaid 32 = .ok (.iload_n 2, 1) := by decide +kernel
theorem dX10_isLaid_33 : decode cX10_isLaid 33 = .ok (.ifCond .eq 57, 3) := by decide +kernel
theorem dX10_isLaid_36 : decode cX10_isLaid 36 = .ok (.aload_n 0, 1) := by decide +kernel
theorem dX10_isLaid_37 : decode cX10_isLaid 37 = .ok (.getfield 7, 3) := by decide +kernel
theorem dX10_isLaid_40 : decode cX10_isLaid 40 = .ok (.sipush 260, 3) := by decide +kernel
theorem dX10_isLaid_43 : decode cX10_isLaid 43 = .ok (.iconst 2, 1) := by decide +kernel
theorem dX10_isLaid_44 : decode cX10_isLaid 44 = .ok (.iload_n 3, 1) := by decide +kernel
theorem dX10_isLaid_45 : decode cX10_isLaid 45 = .ok (.imul, 1) := by decide +kernel
theorem dX10_isLaid_46 : decode cX10_isLaid 46 = .ok (.iadd, 1) := by decide +kernel
theorem dX10_isLaid_47 : decode cX10_isLaid 47 = .ok (.iaload, 1) := by decide +kernel
theorem dX10_isLaid_48 : decode cX10_isLaid 48 = .ok (.aload_n 0, 1) := by decide +kernel
theorem dX10_isLaid_49 : decode cX10_isLaid 49 = .ok (.getfield 7, 3) := by decide +kernel
theorem dX10_isLaid_52 : decode cX10_isLaid 52 = .ok (.sipush 260, 3) := by decide +kernel
theorem dX10_isLaid_55 : decode cX10_isLaid 55 = .ok (.iconst 2, 1) := by decide +kernel
theorem dX10_isLaid_56 : decode cX10_isLaid 56 = .ok (.iload_n 1, 1) := by decide +kernel
theorem dX10_isLaid_57 : decode cX10_isLaid 57 = .ok (.imul, 1) := by decide +kernel
theorem dX10_isLaid_58 : decode cX10_isLaid 58 = .ok (.iadd, 1) := by decide +kernel
theorem dX10_isLaid_59 : decode cX10_isLaid 59 = .ok (.iaload, 1) := by decide +kernel
theorem dX10_isLaid_60 : decode cX10_isLaid 60 = .ok (.if_icmp .ne 18, 3) := by decide +kernel
theorem dX10_isLaid_63 : decode cX10_isLaid 63 = .ok (.aload_n 0, 1) := by decide +kernel
theorem dX10_isLaid_64 : decode cX10_isLaid 64 = .ok (.getfield 29, 3) := by decide +kernel
theorem dX10_isLaid_67 : decode cX10_isLaid 67 = .ok (.iload_n 3, 1) := by decide +kernel
theorem dX10_isLaid_68 : decode cX10_isLaid 68 = .ok (.iaload, 1) := by decide +kernel
theorem dX10_isLaid_69 : decode cX10_isLaid 69 = .ok (.aload_n 0, 1) := by decide +kernel
theorem dX10_isLaid_70 : decode cX10_isLaid 70 = .ok (.getfield 29, 3) := by decide +kernel
theorem dX10_isLaid_73 : decode cX10_isLaid 73 = .ok (.iload_n 1, 1) := by decide +kernel
theorem dX10_isLaid_74 : decode cX10_isLaid 74 = .ok (.iaload, 1) := by decide +kernel
theorem dX10_isLaid_75 : decode cX10_isLaid 75 = .ok (.if_icmp .gt 7, 3) := by decide +kernel
theorem dX10_isLaid_78 : decode cX10_isLaid 78 = .ok (.iconst 1, 1) := by decide +kernel
theorem dX10_isLaid_79 : decode cX10_isLaid 79 = .ok (.goto 4, 3) := by decide +kernel
theorem dX10_isLaid_82 : decode cX10_isLaid 82 = .ok (.iconst 0, 1) := by decide +kernel
theorem dX10_isLaid_83 : decode cX10_isLaid 83 = .ok (.istore_n 2, 1) := by decide +kernel
theorem dX10_isLaid_84 : decode cX10_isLaid 84 = .ok (.iinc 3 1, 3) := by decide +kernel
theorem dX10_isLaid_87 : decode cX10_isLaid 87 = .ok (.goto (-60), 3) := by decide +kernel
theorem dX10_isLaid_90 : decode cX10_isLaid 90 = .ok (.iload_n 2, 1) := by decide +kernel
theorem dX10_isLaid_91 : decode cX10_isLaid 91 = .ok (.ireturn, 1) := by decide +kernel
theorem dX10_lays_0 : decode cX10_lays 0 = .ok (.aload_n 0, 1) := by decide +kernel
theorem dX10_lays_1 : decode cX10_lays 1 = .ok (.getfield 7, 3) := by decide +kernel
theorem dX10_lays_4 : decode cX10_lays 4 = .ok (.iconst 2, 1) := by decide +kernel
theorem dX10_lays_5 : decode cX10_lays 5 = .ok (.iaload, 1) := by decide +kernel
theorem dX10_lays_6 : decode cX10_lays 6 = .ok (.istore_n 1, 1) := by decide +kernel
theorem dX10_lays_7 : decode cX10_lays 7 = .ok (.iconst 0, 1) := by decide +kernel
theorem dX10_lays_8 : decode cX10_lays 8 = .ok (.istore_n 2, 1) := by decide +kernel
theorem dX10_lays_9 : decode cX10_lays 9 = .ok (.iconst 0, 1) := by decide +kernel
theorem dX10_lays_10 : decode cX10_lays 10 = .ok (.istore_n 3, 1) := by decide +kernel
theorem dX10_lays_11 : decode cX10_lays 11 = .ok (.iconst 0, 1) := by decide +kernel
theorem dX10_lays_12 : decode cX10_lays 12 = .ok (.istore 4, 2) := by decide +kernel
theorem dX10_lays_14 : decode cX10_lays 14 = .ok (.iload 4, 2) := by decide +kernel
theorem dX10_lays_16 : decode cX10_lays 16 = .ok (.iload_n 1, 1) := by decide +kernel
theorem dX10_lays_17 : decode cX10_lays 17 = .ok (.if_icmp .ge 22, 3) := by decide +kernel
theorem dX10_lays_20 : decode cX10_lays 20 = .ok (.aload_n 0, 1) := by decide +kernel
theorem dX10_lays_21 : decode cX10_lays 21 = .ok (.getfield 32, 3) := by decide +kernel
theorem dX10_lays_24 : decode cX10_lays 24 = .ok (.iload 4, 2) := by decide +kernel
theorem dX10_lays_26 : decode cX10_lays 26 = .ok (.aload_n 0, 1) := by decide +kernel
theorem dX10_lays_27 : decode cX10_lays 27 = .ok (.iload 4, 2) := by decide +kernel
theorem dX10_lays_29 : decode cX10_lays 29 = .ok (.invokevirtual 133, 3) := by decide +kernel
theorem dX10_lays_32 : decode cX10_lays 32 = .ok (.iastore, 1) := by decide +kernel
theorem dX10_lays_33 : decode cX10_lays 33 = .ok (.iinc 4 1, 3) := by decide +kernel
theorem dX10_lays_36 : decode cX10_lays 36 = .ok (.goto (-22), 3) := by decide +kernel
theorem dX10_lays_39 : decode cX10_lays 39 = .ok (.iload_n 1, 1) := by decide +kernel
theorem dX10_lays_40 : decode cX10_lays 40 = .ok (.ifCond .ne 5, 3) := by decide +kernel
theorem dX10_lays_43 : decode cX10_lays 43 = .ok (.iconst 1, 1) := by decide +kernel
theorem dX10_lays_44 : decode cX10_lays 44 = .ok (.ireturn, 1) := by decide +kernel
theorem dX10_lays_45 : decode cX10_lays 45 = .ok (.aload_n 0, 1) := by decide +kernel
theorem dX10_lays_46 : decode cX10_lays 46 = .ok (.getfield 29, 3) := by decide +kernel
theorem dX10_lays_49 : decode cX10_lays 49 = .ok (.iconst 0, 1) := by decide +kernel
theorem dX10_lays_50 : decode cX10_lays 50 = .ok (.iconst (-1), 1) := by decide +kernel
theorem dX10_lays_51 : decode cX10_lays 51 = .ok (.iastore, 1) := by decide +kernel
theorem dX10_lays_52 : decode cX10_lays 52 = .ok (.iload_n 3, 1) := by decide +kernel
theorem dX10_lays_53 : decode cX10_lays 53 = .ok (.ifCond .lt 96, 3) := by decide +kernel
theorem dX10_lays_56 : decode cX10_lays 56 = .ok (.aload_n 0, 1) := by decide +kernel
theorem dX10_lays_57 : decode cX10_lays 57 = .ok (.getfield 29, 3) := by decide +kernel
theorem dX10_lays_60 : decode cX10_lays 60 = .ok (.iload_n 3, 1) := by decide +kernel
theorem dX10_lays_61 : decode cX10_lays 61 = .ok (.dup2, 1) := by decide +kernel
theorem dX10_lays_62 : decode cX10_lays 62 = .ok (.iaload, 1) := by decide +kernel
theorem dX10_lays_63 : decode cX10_lays 63 = .ok (.iconst 1, 1) := by decide +kernel
theorem dX10_lays_64 : decode cX10_lays 64 = .ok (.iadd, 1) := by decide +kernel
theorem dX10_lays_65 : decode cX10_lays 65 = .ok (.iastore, 1) := by decide +kernel
theorem dX10_lays_66 : decode cX10_lays 66 = .ok (.aload_n 0, 1) := by decide +kernel
theorem dX10_lays_67 : decode cX10_lays 67 = .ok (.getfield 29, 3) := by decide +kernel
theorem dX10_lays_70 : decode cX10_lays 70 = .ok (.iload_n 3, 1) := by decide +kernel
theorem dX10_lays_71 : decode cX10_lays 71 = .ok (.iaload, 1) := by decide +kernel
theorem dX10_lays_72 : decode cX10_lays 72 = .ok (.iconst 3, 1) := by decide +kernel
theorem dX10_lays_73 : decode cX10_lays 73 = .ok (.if_icmp .ne 9, 3) := by decide +kernel
theorem dX10_lays_76 : decode cX10_lays 76 = .ok (.iinc 3 (-1), 3) := by decide +kernel
theorem dX10_lays_79 : decode cX10_lays 79 = .ok (.goto (-27), 3) := by decide +kernel
theorem dX10_lays_82 : decode cX10_lays 82 = .ok (.aload_n 0, 1) := by decide +kernel
theorem dX10_lays_83 : decode cX10_lays 83 = .ok (.iload_n 3, 1) := by decide +kernel
theorem dX10_lays_84 : decode cX10_lays 84 = .ok (.invokevirtual 137, 3) := by decide +kernel
theorem dX10_lays_87 : decode cX10_lays 87 = .ok (.ifCond .eq (-35), 3) := by decide +kernel
theorem dX10_lays_90 : decode cX10_lays 90 = .ok (.iload_n 3, 1) := by decide +kernel
theorem dX10_lays_91 : decode cX10_lays 91 = .ok (.iconst 1, 1) := by decide +kernel
theorem dX10_lays_92 : decode cX10_lays 92 = .ok (.iadd, 1) := by decide +kernel
theorem dX10_lays_93 : decode cX10_lays 93 = .ok (.iload_n 1, 1) := by decide +kernel
theorem dX10_lays_94 : decode cX10_lays 94 = .ok (.if_icmp .ge 16, 3) := by decide +kernel
theorem dX10_lays_97 : decode cX10_lays 97 = .ok (.iinc 3 1, 3) := by decide +kernel
theorem dX10_lays_100 : decode cX10_lays 100 = .ok (.aload_n 0, 1) := by decide +kernel
theorem dX10_lays_101 : decode cX10_lays 101 = .ok (.getfield 29, 3) := by decide +kernel
theorem dX10_lays_104 : decode cX10_lays 104 = .ok (.iload_n 3, 1) := by decide +kernel
theorem dX10_lays_105 : decode cX10_lays 105 = .ok (.iconst (-1), 1) := by decide +kernel
theorem dX10_lays_106 : decode cX10_lays 106 = .ok (.iastore, 1) := by decide +kernel
theorem dX10_lays_107 : decode cX10_lays 107 = .ok (.goto (-55), 3) := by decide +kernel
theorem dX10_lays_110 : decode cX10_lays 110 = .ok (.iconst 0, 1) := by decide +kernel
theorem dX10_lays_111 : decode cX10_lays 111 = .ok (.istore 4, 2) := by decide +kernel
theorem dX10_lays_113 : decode cX10_lays 113 = .ok (.iload 4, 2) := by decide +kernel
theorem dX10_lays_115 : decode cX10_lays 115 = .ok (.iload_n 1, 1) := by decide +kernel
theorem dX10_lays_116 : decode cX10_lays 116 = .ok (.if_icmp .ge 27, 3) := by decide +kernel
theorem dX10_lays_119 : decode cX10_lays 119 = .ok (.iload_n 2, 1) := by decide +kernel
theorem dX10_lays_120 : decode cX10_lays 120 = .ok (.ifCond .ne 23, 3) := by decide +kernel
theorem dX10_lays_123 : decode cX10_lays 123 = .ok (.aload_n 0, 1) := by decide +kernel
theorem dX10_lays_124 : decode cX10_lays 124 = .ok (.getfield 35, 3) := by decide +kernel
theorem dX10_lays_127 : decode cX10_lays 127 = .ok (.iload 4, 2) := by decide +kernel
theorem dX10_lays_129 : decode cX10_lays 129 = .ok (.aload_n 0, 1) := by decide +kernel
theorem dX10_lays_130 : decode cX10_lays 130 = .ok (.getfield 29, 3) := by decide +kernel
theorem dX10_lays_133 : decode cX10_lays 133 = .ok (.iload 4, 2) := by decide +kernel
theorem dX10_lays_135 : decode cX10_lays 135 = .ok (.iaload, 1) := by decide +kernel
theorem dX10_lays_136 : decode cX10_lays 136 = .ok (.iastore, 1) := by decide +kernel
theorem dX10_lays_137 : decode cX10_lays 137 = .ok (.iinc 4 1, 3) := by decide +kernel
theorem dX10_lays_140 : decode cX10_lays 140 = .ok (.goto (-27), 3) := by decide +kernel
theorem dX10_lays_143 : decode cX10_lays 143 = .ok (.iinc 2 1, 3) := by decide +kernel
theorem dX10_lays_146 : decode cX10_lays 146 = .ok (.goto (-94), 3) := by decide +kernel
theorem dX10_lays_149 : decode cX10_lays 149 = .ok (.iload_n 2, 1) := by decide +kernel
theorem dX10_lays_150 : decode cX10_lays 150 = .ok (.ireturn, 1) := by decide +kernel
theorem dX10_laid_0 : decode cX10_laid 0 = .ok (.iload_n 1, 1) := by decide +kernel
theorem dX10_laid_1 : decode cX10_laid 1 = .ok (.iconst (-1), 1) := by decide +kernel
theorem dX10_laid_2 : decode cX10_laid 2 = .ok (.if_icmp .eq 15, 3) := by decide +kernel
theorem dX10_laid_5 : decode cX10_laid 5 = .ok (.aload_n 0, 1) := by decide +kernel
theorem dX10_laid_6 : decode cX10_laid 6 = .ok (.iconst 2, 1) := by decide +kernel
theorem dX10_laid_7 : decode cX10_laid 7 = .ok (.iload_n 1, 1) := by decide +kernel
theorem dX10_laid_8 : decode cX10_laid 8 = .ok (.invokevirtual 118, 3) := by decide +kernel
theorem dX10_laid_11 : decode cX10_laid 11 = .ok (.ifCond .ne 6, 3) := by decide +kernel
theorem dX10_laid_14 : decode cX10_laid 14 = .ok (.bipush (-10), 2) := by decide +kernel
theorem dX10_laid_16 : decode cX10_laid 16 = .ok (.ireturn, 1) := by decide +kernel
theorem dX10_laid_17 : decode cX10_laid 17 = .ok (.aload_n 0, 1) := by decide +kernel
theorem dX10_laid_18 : decode cX10_laid 18 = .ok (.invokevirtual 140, 3) := by decide +kernel
theorem dX10_laid_21 : decode cX10_laid 21 = .ok (.istore_n 2, 1) := by decide +kernel
theorem dX10_laid_22 : decode cX10_laid 22 = .ok (.iload_n 1, 1) := by decide +kernel
theorem dX10_laid_23 : decode cX10_laid 23 = .ok (.iconst (-1), 1) := by decide +kernel
theorem dX10_laid_24 : decode cX10_laid 24 = .ok (.if_icmp .ne 7, 3) := by decide +kernel
theorem dX10_laid_27 : decode cX10_laid 27 = .ok (.iload_n 2, 1) := by decide +kernel
theorem dX10_laid_28 : decode cX10_laid 28 = .ok (.goto 17, 3) := by decide +kernel
theorem dX10_laid_31 : decode cX10_laid 31 = .ok (.iload_n 2, 1) := by decide +kernel
theorem dX10_laid_32 : decode cX10_laid 32 = .ok (.ifCond .ne 7, 3) := by decide +kernel
theorem dX10_laid_35 : decode cX10_laid 35 = .ok (.iconst (-1), 1) := by decide +kernel
theorem dX10_laid_36 : decode cX10_laid 36 = .ok (.goto 9, 3) := by decide +kernel
theorem dX10_laid_39 : decode cX10_laid 39 = .ok (.aload_n 0, 1) := by decide +kernel
theorem dX10_laid_40 : decode cX10_laid 40 = .ok (.getfield 35, 3) := by decide +kernel
theorem dX10_laid_43 : decode cX10_laid 43 = .ok (.iload_n 1, 1) := by decide +kernel
theorem dX10_laid_44 : decode cX10_laid 44 = .ok (.iaload, 1) := by decide +kernel
theorem dX10_laid_45 : decode cX10_laid 45 = .ok (.ireturn, 1) := by decide +kernel
theorem dX10_ridge_0 : decode cX10_ridge 0 = .ok (.aload_n 0, 1) := by decide +kernel
theorem dX10_ridge_1 : decode cX10_ridge 1 = .ok (.getfield 7, 3) := by decide +kernel
theorem dX10_ridge_4 : decode cX10_ridge 4 = .ok (.iconst 3, 1) := by decide +kernel
theorem dX10_ridge_5 : decode cX10_ridge 5 = .ok (.iaload, 1) := by decide +kernel
theorem dX10_ridge_6 : decode cX10_ridge 6 = .ok (.bipush 8, 2) := by decide +kernel
theorem dX10_ridge_8 : decode cX10_ridge 8 = .ok (.if_icmp .ne 6, 3) := by decide +kernel
theorem dX10_ridge_11 : decode cX10_ridge 11 = .ok (.bipush (-4), 2) := by decide +kernel
theorem dX10_ridge_13 : decode cX10_ridge 13 = .ok (.ireturn, 1) := by decide +kernel
theorem dX10_ridge_14 : decode cX10_ridge 14 = .ok (.aload_n 0, 1) := by decide +kernel
theorem dX10_ridge_15 : decode cX10_ridge 15 = .ok (.getfield 7, 3) := by decide +kernel
theorem dX10_ridge_18 : decode cX10_ridge 18 = .ok (.iconst 3, 1) := by decide +kernel
theorem dX10_ridge_19 : decode cX10_ridge 19 = .ok (.dup2, 1) := by decide +kernel
theorem dX10_ridge_20 : decode cX10_ridge 20 = .ok (.iaload, 1) := by decide +kernel
theorem dX10_ridge_21 : decode cX10_ridge 21 = .ok (.iconst 1, 1) := by decide +kernel
theorem dX10_ridge_22 : decode cX10_ridge 22 = .ok (.iadd, 1) := by decide +kernel
theorem dX10_ridge_23 : decode cX10_ridge 23 = .ok (.iastore, 1) := by decide +kernel
theorem dX10_ridge_24 : decode cX10_ridge 24 = .ok (.aload_n 0, 1) := by decide +kernel
theorem dX10_ridge_25 : decode cX10_ridge 25 = .ok (.getfield 7, 3) := by decide +kernel
theorem dX10_ridge_28 : decode cX10_ridge 28 = .ok (.iconst 3, 1) := by decide +kernel
theorem dX10_ridge_29 : decode cX10_ridge 29 = .ok (.iaload, 1) := by decide +kernel
theorem dX10_ridge_30 : decode cX10_ridge 30 = .ok (.iconst 1, 1) := by decide +kernel
theorem dX10_ridge_31 : decode cX10_ridge 31 = .ok (.isub, 1) := by decide +kernel
theorem dX10_ridge_32 : decode cX10_ridge 32 = .ok (.ireturn, 1) := by decide +kernel
theorem dX10_isFact_0 : decode cX10_isFact 0 = .ok (.aload_n 0, 1) := by decide +kernel
theorem dX10_isFact_1 : decode cX10_isFact 1 = .ok (.iconst 3, 1) := by decide +kernel
theorem dX10_isFact_2 : decode cX10_isFact 2 = .ok (.iload_n 2, 1) := by decide +kernel
theorem dX10_isFact_3 : decode cX10_isFact 3 = .ok (.invokevirtual 118, 3) := by decide +kernel
theorem dX10_isFact_6 : decode cX10_isFact 6 = .ok (.ifCond .ne 5, 3) := by decide +kernel
theorem dX10_isFact_9 : decode cX10_isFact 9 = .ok (.iconst 0, 1) := by decide +kernel
theorem dX10_isFact_10 : decode cX10_isFact 10 = .ok (.ireturn, 1) := by decide +kernel
theorem dX10_isFact_11 : decode cX10_isFact 11 = .ok (.iload_n 1, 1) := by decide +kernel
theorem dX10_isFact_12 : decode cX10_isFact 12 = .ok (.tableswitch 108 0 4 #[36, 56, 88, 98, 98], 36) := by decide +kernel
theorem dX10_isFact_48 : decode cX10_isFact 48 = .ok (.aload_n 0, 1) := by decide +kernel
theorem dX10_isFact_49 : decode cX10_isFact 49 = .ok (.iconst 3, 1) := by decide +kernel
theorem dX10_isFact_50 : decode cX10_isFact 50 = .ok (.iload_n 3, 1) := by decide +kernel
theorem dX10_isFact_51 : decode cX10_isFact 51 = .ok (.invokevirtual 118, 3) := by decide +kernel
theorem dX10_isFact_54 : decode cX10_isFact 54 = .ok (.ifCond .eq 12, 3) := by decide +kernel
theorem dX10_isFact_57 : decode cX10_isFact 57 = .ok (.iload_n 2, 1) := by decide +kernel
theorem dX10_isFact_58 : decode cX10_isFact 58 = .ok (.iload_n 3, 1) := by decide +kernel
theorem dX10_isFact_59 : decode cX10_isFact 59 = .ok (.if_icmp .eq 7, 3) := by decide +kernel
theorem dX10_isFact_62 : decode cX10_isFact 62 = .ok (.iconst 1, 1) := by decide +kernel
theorem dX10_isFact_63 : decode cX10_isFact 63 = .ok (.goto 4, 3) := by decide +kernel
theorem dX10_isFact_66 : decode cX10_isFact 66 = .ok (.iconst 0, 1) := by decide +kernel
theorem dX10_isFact_67 : decode cX10_isFact 67 = .ok (.ireturn, 1) := by decide +kernel
theorem dX10_isFact_68 : decode cX10_isFact 68 = .ok (.iload_n 3, 1) := by decide +kernel
theorem dX10_isFact_69 : decode cX10_isFact 69 = .ok (.i2l, 1) := by decide +kernel
theorem dX10_isFact_70 : decode cX10_isFact 70 = .ok (.lconst 0, 1) := by decide +kernel
theorem dX10_isFact_71 : decode cX10_isFact 71 = .ok (.ldc2_w 129, 3) := by decide +kernel
theorem dX10_isFact_74 : decode cX10_isFact 74 = .ok (.invokestatic 67, 3) := by decide +kernel
theorem dX10_isFact_77 : decode cX10_isFact 77 = .ok (.ifCond .eq 21, 3) := by decide +kernel
theorem dX10_isFact_80 : decode cX10_isFact 80 = .ok (.iload 4, 2) := by decide +kernel
theorem dX10_isFact_82 : decode cX10_isFact 82 = .ok (.i2l, 1) := by decide +kernel
theorem dX10_isFact_83 : decode cX10_isFact 83 = .ok (.iload_n 3, 1) := by decide +kernel
theorem dX10_isFact_84 : decode cX10_isFact 84 = .ok (.i2l, 1) := by decide +kernel
theorem dX10_isFact_85 : decode cX10_isFact 85 = .ok (.ldc2_w 129, 3) := by decide +kernel
theorem dX10_isFact_88 : decode cX10_isFact 88 = .ok (.invokestatic 67, 3) := by decide +kernel
theorem dX10_isFact_91 : decode cX10_isFact 91 = .ok (.ifCond .eq 7, 3) := by decide +kernel
theorem dX10_isFact_94 : decode cX10_isFact 94 = .ok (.iconst 1, 1) := by decide +kernel
theorem dX10_isFact_95 : decode cX10_isFact 95 = .ok (.goto 4, 3) := by decide +kernel
theorem dX10_isFact_98 : decode cX10_isFact 98 = .ok (.iconst 0, 1) := by decide +kernel
theorem dX10_isFact_99 : decode cX10_isFact 99 = .ok (.ireturn, 1) := by decide +kernel
theorem dX10_isFact_100 : decode cX10_isFact 100 = .ok (.iload_n 3, 1) := by decide +kernel
theorem dX10_isFact_101 : decode cX10_isFact 101 = .ok (.i2l, 1) := by decide +kernel
theorem dX10_isFact_102 : decode cX10_isFact 102 = .ok (.lconst 1, 1) := by decide +kernel
theorem dX10_isFact_103 : decode cX10_isFact 103 = .ok (.ldc2_w 144, 3) := by decide +kernel
theorem dX10_isFact_106 : decode cX10_isFact 106 = .ok (.invokestatic 67, 3) := by decide +kernel
theorem dX10_isFact_109 : decode cX10_isFact 109 = .ok (.ireturn, 1) := by decide +kernel
theorem dX10_isFact_110 : decode cX10_isFact 110 = .ok (.iload_n 3, 1) := by decide +kernel
theorem dX10_isFact_111 : decode cX10_isFact 111 = .ok (.i2l, 1) := by decide +kernel
theorem dX10_isFact_112 : decode cX10_isFact 112 = .ok (.lconst 0, 1) := by decide +kernel
theorem dX10_isFact_113 : decode cX10_isFact 113 = .ok (.ldc2_w 129, 3) := by decide +kernel
theorem dX10_isFact_116 : decode cX10_isFact 116 = .ok (.invokestatic 67, 3) := by decide +kernel
theorem dX10_isFact_119 : decode cX10_isFact 119 = .ok (.ireturn, 1) := by decide +kernel
theorem dX10_isFact_120 : decode cX10_isFact 120 = .ok (.iconst 0, 1) := by decide +kernel
theorem dX10_isFact_121 : decode cX10_isFact 121 = .ok (.ireturn, 1) := by decide +kernel
theorem dX10_fact_0 : decode cX10_fact 0 = .ok (.iload_n 1, 1) := by decide +kernel
theorem dX10_fact_1 : decode cX10_fact 1 = .ok (.i2l, 1) := by decide +kernel
theorem dX10_fact_2 : decode cX10_fact 2 = .ok (.lconst 0, 1) := by decide +kernel
theorem dX10_fact_3 : decode cX10_fact 3 = .ok (.lconst 1, 1) := by decide +kernel
theorem dX10_fact_4 : decode cX10_fact 4 = .ok (.invokestatic 67, 3) := by decide +kernel
theorem dX10_fact_7 : decode cX10_fact 7 = .ok (.ifCond .eq 16, 3) := by decide +kernel
theorem dX10_fact_10 : decode cX10_fact 10 = .ok (.aload_n 0, 1) := by decide +kernel
theorem dX10_fact_11 : decode cX10_fact 11 = .ok (.iload_n 2, 1) := by decide +kernel
theorem dX10_fact_12 : decode cX10_fact 12 = .ok (.iload_n 3, 1) := by decide +kernel
theorem dX10_fact_13 : decode cX10_fact 13 = .ok (.iload 4, 2) := by decide +kernel
theorem dX10_fact_15 : decode cX10_fact 15 = .ok (.iload 5, 2) := by decide +kernel
theorem dX10_fact_17 : decode cX10_fact 17 = .ok (.invokevirtual 146, 3) := by decide +kernel
theorem dX10_fact_20 : decode cX10_fact 20 = .ok (.ifCond .ne 6, 3) := by decide +kernel
theorem dX10_fact_23 : decode cX10_fact 23 = .ok (.bipush (-2), 2) := by decide +kernel
theorem dX10_fact_25 : decode cX10_fact 25 = .ok (.ireturn, 1) := by decide +kernel
theorem dX10_fact_26 : decode cX10_fact 26 = .ok (.aload_n 0, 1) := by decide +kernel
theorem dX10_fact_27 : decode cX10_fact 27 = .ok (.getfield 7, 3) := by decide +kernel
theorem dX10_fact_30 : decode cX10_fact 30 = .ok (.iconst 4, 1) := by decide +kernel
theorem dX10_fact_31 : decode cX10_fact 31 = .ok (.iaload, 1) := by decide +kernel
theorem dX10_fact_32 : decode cX10_fact 32 = .ok (.bipush 16, 2) := by decide +kernel
theorem dX10_fact_34 : decode cX10_fact 34 = .ok (.if_icmp .ne 6, 3) := by decide +kernel
theorem dX10_fact_37 : decode cX10_fact 37 = .ok (.bipush (-4), 2) := by decide +kernel
theorem dX10_fact_39 : decode cX10_fact 39 = .ok (.ireturn, 1) := by decide +kernel
theorem dX10_fact_40 : decode cX10_fact 40 = .ok (.sipush 290, 3) := by decide +kernel
theorem dX10_fact_43 : decode cX10_fact 43 = .ok (.iconst 5, 1) := by decide +kernel
theorem dX10_fact_44 : decode cX10_fact 44 = .ok (.aload_n 0, 1) := by decide +kernel
theorem dX10_fact_45 : decode cX10_fact 45 = .ok (.getfield 7, 3) := by decide +kernel
theorem dX10_fact_48 : decode cX10_fact 48 = .ok (.iconst 4, 1) := by decide +kernel
theorem dX10_fact_49 : decode cX10_fact 49 = .ok (.iaload, 1) := by decide +kernel
theorem dX10_fact_50 : decode cX10_fact 50 = .ok (.imul, 1) := by decide +kernel
theorem dX10_fact_51 : decode cX10_fact 51 = .ok (.iadd, 1) := by decide +kernel
theorem dX10_fact_52 : decode cX10_fact 52 = .ok (.istore 6, 2) := by decide +kernel
theorem dX10_fact_54 : decode cX10_fact 54 = .ok (.aload_n 0, 1) := by decide +kernel
theorem dX10_fact_55 : decode cX10_fact 55 = .ok (.getfield 7, 3) := by decide +kernel
theorem dX10_fact_58 : decode cX10_fact 58 = .ok (.iload 6, 2) := by decide +kernel
theorem dX10_fact_60 : decode cX10_fact 60 = .ok (.iload_n 1, 1) := by decide +kernel
theorem dX10_fact_61 : decode cX10_fact 61 = .ok (.iastore, 1) := by decide +kernel
theorem dX10_fact_62 : decode cX10_fact 62 = .ok (.aload_n 0, 1) := by decide +kernel
theorem dX10_fact_63 : decode cX10_fact 63 = .ok (.getfield 7, 3) := by decide +kernel
theorem dX10_fact_66 : decode cX10_fact 66 = .ok (.iload 6, 2) := by decide +kernel
theorem dX10_fact_68 : decode cX10_fact 68 = .ok (.iconst 1, 1) := by decide +kernel
theorem dX10_fact_69 : decode cX10_fact 69 = .ok (.iadd, 1) := by decide +kernel
theorem dX10_fact_70 : decode cX10_fact 70 = .ok (.iload_n 2, 1) := by decide +kernel
theorem dX10_fact_71 : decode cX10_fact 71 = .ok (.iastore, 1) := by decide +kernel
theorem dX10_fact_72 : decode cX10_fact 72 = .ok (.aload_n 0, 1) := by decide +kernel
theorem dX10_fact_73 : decode cX10_fact 73 = .ok (.getfield 7, 3) := by decide +kernel
theorem dX10_fact_76 : decode cX10_fact 76 = .ok (.iload 6, 2) := by decide +kernel
theorem dX10_fact_78 : decode cX10_fact 78 = .ok (.iconst 2, 1) := by decide +kernel
theorem dX10_fact_79 : decode cX10_fact 79 = .ok (.iadd, 1) := by decide +kernel
theorem dX10_fact_80 : decode cX10_fact 80 = .ok (.iload_n 3, 1) := by decide +kernel
theorem dX10_fact_81 : decode cX10_fact 81 = .ok (.iastore, 1) := by decide +kernel
theorem dX10_fact_82 : decode cX10_fact 82 = .ok (.aload_n 0, 1) := by decide +kernel
theorem dX10_fact_83 : decode cX10_fact 83 = .ok (.getfield 7, 3) := by decide +kernel
theorem dX10_fact_86 : decode cX10_fact 86 = .ok (.iload 6, 2) := by decide +kernel
theorem dX10_fact_88 : decode cX10_fact 88 = .ok (.iconst 3, 1) := by decide +kernel
theorem dX10_fact_89 : decode cX10_fact 89 = .ok (.iadd, 1) := by decide +kernel
theorem dX10_fact_90 : decode cX10_fact 90 = .ok (.iload 4, 2) := by decide +kernel
theorem dX10_fact_92 : decode cX10_fact 92 = .ok (.iastore, 1) := by decide +kernel
theorem dX10_fact_93 : decode cX10_fact 93 = .ok (.aload_n 0, 1) := by decide +kernel
theorem dX10_fact_94 : decode cX10_fact 94 = .ok (.getfield 7, 3) := by decide +kernel
theorem dX10_fact_97 : decode cX10_fact 97 = .ok (.iload 6, 2) := by decide +kernel
theorem dX10_fact_99 : decode cX10_fact 99 = .ok (.iconst 4, 1) := by decide +kernel
theorem dX10_fact_100 : decode cX10_fact 100 = .ok (.iadd, 1) := by decide +kernel
theorem dX10_fact_101 : decode cX10_fact 101 = .ok (.iload_n 2, 1) := by decide +kernel
theorem dX10_fact_102 : decode cX10_fact 102 = .ok (.iconst 1, 1) := by decide +kernel
theorem dX10_fact_103 : decode cX10_fact 103 = .ok (.if_icmp .ne 8, 3) := by decide +kernel
theorem dX10_fact_106 : decode cX10_fact 106 = .ok (.iload 5, 2) := by decide +kernel
theorem dX10_fact_108 : decode cX10_fact 108 = .ok (.goto 4, 3) := by decide +kernel
theorem dX10_fact_111 : decode cX10_fact 111 = .ok (.iconst 0, 1) := by decide +kernel
theorem dX10_fact_112 : decode cX10_fact 112 = .ok (.iastore, 1) := by decide +kernel
theorem dX10_fact_113 : decode cX10_fact 113 = .ok (.aload_n 0, 1) := by decide +kernel
theorem dX10_fact_114 : decode cX10_fact 114 = .ok (.getfield 7, 3) := by decide +kernel
theorem dX10_fact_117 : decode cX10_fact 117 = .ok (.iconst 4, 1) := by decide +kernel
theorem dX10_fact_118 : decode cX10_fact 118 = .ok (.dup2, 1) := by decide +kernel
theorem dX10_fact_119 : decode cX10_fact 119 = .ok (.iaload, 1) := by decide +kernel
theorem dX10_fact_120 : decode cX10_fact 120 = .ok (.iconst 1, 1) := by decide +kernel
theorem dX10_fact_121 : decode cX10_fact 121 = .ok (.iadd, 1) := by decide +kernel
theorem dX10_fact_122 : decode cX10_fact 122 = .ok (.iastore, 1) := by decide +kernel
theorem dX10_fact_123 : decode cX10_fact 123 = .ok (.aload_n 0, 1) := by decide +kernel
theorem dX10_fact_124 : decode cX10_fact 124 = .ok (.getfield 7, 3) := by decide +kernel
theorem dX10_fact_127 : decode cX10_fact 127 = .ok (.iconst 4, 1) := by decide +kernel
theorem dX10_fact_128 : decode cX10_fact 128 = .ok (.iaload, 1) := by decide +kernel
theorem dX10_fact_129 : decode cX10_fact 129 = .ok (.iconst 1, 1) := by decide +kernel
theorem dX10_fact_130 : decode cX10_fact 130 = .ok (.isub, 1) := by decide +kernel
theorem dX10_fact_131 : decode cX10_fact 131 = .ok (.ireturn, 1) := by decide +kernel
theorem dX10_factAt_0 : decode cX10_factAt 0 = .ok (.aload_n 0, 1) := by decide +kernel
theorem dX10_factAt_1 : decode cX10_factAt 1 = .ok (.getfield 7, 3) := by decide +kernel
theorem dX10_factAt_4 : decode cX10_factAt 4 = .ok (.sipush 290, 3) := by decide +kernel
theorem dX10_factAt_7 : decode cX10_factAt 7 = .ok (.iconst 5, 1) := by decide +kernel
theorem dX10_factAt_8 : decode cX10_factAt 8 = .ok (.iload_n 1, 1) := by decide +kernel
theorem dX10_factAt_9 : decode cX10_factAt 9 = .ok (.imul, 1) := by decide +kernel
theorem dX10_factAt_10 : decode cX10_factAt 10 = .ok (.iadd, 1) := by decide +kernel
theorem dX10_factAt_11 : decode cX10_factAt 11 = .ok (.iload_n 2, 1) := by decide +kernel
theorem dX10_factAt_12 : decode cX10_factAt 12 = .ok (.iadd, 1) := by decide +kernel
theorem dX10_factAt_13 : decode cX10_factAt 13 = .ok (.iaload, 1) := by decide +kernel
theorem dX10_factAt_14 : decode cX10_factAt 14 = .ok (.ireturn, 1) := by decide +kernel
theorem dX10_atLeast_0 : decode cX10_atLeast 0 = .ok (.aload_n 0, 1) := by decide +kernel
theorem dX10_atLeast_1 : decode cX10_atLeast 1 = .ok (.aload_n 0, 1) := by decide +kernel
theorem dX10_atLeast_2 : decode cX10_atLeast 2 = .ok (.getfield 150, 3) := by decide +kernel
theorem dX10_atLeast_5 : decode cX10_atLeast 5 = .ok (.ifCond .ne 13, 3) := by decide +kernel
theorem dX10_atLeast_8 : decode cX10_atLeast 8 = .ok (.iload_n 2, 1) := by decide +kernel
theorem dX10_atLeast_9 : decode cX10_atLeast 9 = .ok (.aload_n 0, 1) := by decide +kernel
theorem dX10_atLeast_10 : decode cX10_atLeast 10 = .ok (.getfield 38, 3) := by decide +kernel
theorem dX10_atLeast_13 : decode cX10_atLeast 13 = .ok (.iload_n 1, 1) := by decide +kernel
theorem dX10_atLeast_14 : decode cX10_atLeast 14 = .ok (.iaload, 1) := by decide +kernel
theorem dX10_atLeast_15 : decode cX10_atLeast 15 = .ok (.if_icmp .le 7, 3) := by decide +kernel
theorem dX10_atLeast_18 : decode cX10_atLeast 18 = .ok (.iconst 1, 1) := by decide +kernel
theorem dX10_atLeast_19 : decode cX10_atLeast 19 = .ok (.goto 4, 3) := by decide +kernel
theorem dX10_atLeast_22 : decode cX10_atLeast 22 = .ok (.iconst 0, 1) := by decide +kernel
theorem dX10_atLeast_23 : decode cX10_atLeast 23 = .ok (.putfield 150, 3) := by decide +kernel
theorem dX10_atLeast_26 : decode cX10_atLeast 26 = .ok (.aload_n 0, 1) := by decide +kernel
theorem dX10_atLeast_27 : decode cX10_atLeast 27 = .ok (.getfield 38, 3) := by decide +kernel
theorem dX10_atLeast_30 : decode cX10_atLeast 30 = .ok (.iload_n 1, 1) := by decide +kernel
theorem dX10_atLeast_31 : decode cX10_atLeast 31 = .ok (.iload_n 2, 1) := by decide +kernel
theorem dX10_atLeast_32 : decode cX10_atLeast 32 = .ok (.aload_n 0, 1) := by decide +kernel
theorem dX10_atLeast_33 : decode cX10_atLeast 33 = .ok (.getfield 38, 3) := by decide +kernel
theorem dX10_atLeast_36 : decode cX10_atLeast 36 = .ok (.iload_n 1, 1) := by decide +kernel
theorem dX10_atLeast_37 : decode cX10_atLeast 37 = .ok (.iaload, 1) := by decide +kernel
theorem dX10_atLeast_38 : decode cX10_atLeast 38 = .ok (.if_icmp .le 7, 3) := by decide +kernel
theorem dX10_atLeast_41 : decode cX10_atLeast 41 = .ok (.iload_n 2, 1) := by decide +kernel
theorem dX10_atLeast_42 : decode cX10_atLeast 42 = .ok (.goto 9, 3) := by decide +kernel
theorem dX10_atLeast_45 : decode cX10_atLeast 45 = .ok (.aload_n 0, 1) := by decide +kernel
theorem dX10_atLeast_46 : decode cX10_atLeast 46 = .ok (.getfield 38, 3) := by decide +kernel
theorem dX10_atLeast_49 : decode cX10_atLeast 49 = .ok (.iload_n 1, 1) := by decide +kernel
theorem dX10_atLeast_50 : decode cX10_atLeast 50 = .ok (.iaload, 1) := by decide +kernel
theorem dX10_atLeast_51 : decode cX10_atLeast 51 = .ok (.iastore, 1) := by decide +kernel
theorem dX10_atLeast_52 : decode cX10_atLeast 52 = .ok (.return_, 1) := by decide +kernel
theorem dX10_atMost_0 : decode cX10_atMost 0 = .ok (.aload_n 0, 1) := by decide +kernel
theorem dX10_atMost_1 : decode cX10_atMost 1 = .ok (.aload_n 0, 1) := by decide +kernel
theorem dX10_atMost_2 : decode cX10_atMost 2 = .ok (.getfield 150, 3) := by decide +kernel
theorem dX10_atMost_5 : decode cX10_atMost 5 = .ok (.ifCond .ne 13, 3) := by decide +kernel
theorem dX10_atMost_8 : decode cX10_atMost 8 = .ok (.iload_n 2, 1) := by decide +kernel
theorem dX10_atMost_9 : decode cX10_atMost 9 = .ok (.aload_n 0, 1) := by decide +kernel
theorem dX10_atMost_10 : decode cX10_atMost 10 = .ok (.getfield 41, 3) := by decide +kernel
theorem dX10_atMost_13 : decode cX10_atMost 13 = .ok (.iload_n 1, 1) := by decide +kernel
theorem dX10_atMost_14 : decode cX10_atMost 14 = .ok (.iaload, 1) := by decide +kernel
theorem dX10_atMost_15 : decode cX10_atMost 15 = .ok (.if_icmp .ge 7, 3) := by decide +kernel
theorem dX10_atMost_18 : decode cX10_atMost 18 = .ok (.iconst 1, 1) := by decide +kernel
theorem dX10_atMost_19 : decode cX10_atMost 19 = .ok (.goto 4, 3) := by decide +kernel
theorem dX10_atMost_22 : decode cX10_atMost 22 = .ok (.iconst 0, 1) := by decide +kernel
theorem dX10_atMost_23 : decode cX10_atMost 23 = .ok (.putfield 150, 3) := by decide +kernel
theorem dX10_atMost_26 : decode cX10_atMost 26 = .ok (.aload_n 0, 1) := by decide +kernel
theorem dX10_atMost_27 : decode cX10_atMost 27 = .ok (.getfield 41, 3) := by decide +kernel
theorem dX10_atMost_30 : decode cX10_atMost 30 = .ok (.iload_n 1, 1) := by decide +kernel
theorem dX10_atMost_31 : decode cX10_atMost 31 = .ok (.iload_n 2, 1) := by decide +kernel
theorem dX10_atMost_32 : decode cX10_atMost 32 = .ok (.aload_n 0, 1) := by decide +kernel
theorem dX10_atMost_33 : decode cX10_atMost 33 = .ok (.getfield 41, 3) := by decide +kernel
theorem dX10_atMost_36 : decode cX10_atMost 36 = .ok (.iload_n 1, 1) := by decide +kernel
theorem dX10_atMost_37 : decode cX10_atMost 37 = .ok (.iaload, 1) := by decide +kernel
theorem dX10_atMost_38 : decode cX10_atMost 38 = .ok (.if_icmp .ge 7, 3) := by decide +kernel
theorem dX10_atMost_41 : decode cX10_atMost 41 = .ok (.iload_n 2, 1) := by decide +kernel
theorem dX10_atMost_42 : decode cX10_atMost 42 = .ok (.goto 9, 3) := by decide +kernel
theorem dX10_atMost_45 : decode cX10_atMost 45 = .ok (.aload_n 0, 1) := by decide +kernel
theorem dX10_atMost_46 : decode cX10_atMost 46 = .ok (.getfield 41, 3) := by decide +kernel
theorem dX10_atMost_49 : decode cX10_atMost 49 = .ok (.iload_n 1, 1) := by decide +kernel
theorem dX10_atMost_50 : decode cX10_atMost 50 = .ok (.iaload, 1) := by decide +kernel
theorem dX10_atMost_51 : decode cX10_atMost 51 = .ok (.iastore, 1) := by decide +kernel
theorem dX10_atMost_52 : decode cX10_atMost 52 = .ok (.return_, 1) := by decide +kernel
theorem dX10_bears_0 : decode cX10_bears 0 = .ok (.aload_n 0, 1) := by decide +kernel
theorem dX10_bears_1 : decode cX10_bears 1 = .ok (.iload_n 1, 1) := by decide +kernel
theorem dX10_bears_2 : decode cX10_bears 2 = .ok (.iconst 2, 1) := by decide +kernel
theorem dX10_bears_3 : decode cX10_bears 3 = .ok (.invokevirtual 154, 3) := by decide +kernel
theorem dX10_bears_6 : decode cX10_bears 6 = .ok (.istore_n 2, 1) := by decide +kernel
theorem dX10_bears_7 : decode cX10_bears 7 = .ok (.aload_n 0, 1) := by decide +kernel
theorem dX10_bears_8 : decode cX10_bears 8 = .ok (.iload_n 1, 1) := by decide +kernel
theorem dX10_bears_9 : decode cX10_bears 9 = .ok (.iconst 3, 1) := by decide +kernel
theorem dX10_bears_10 : decode cX10_bears 10 = .ok (.invokevirtual 154, 3) := by decide +kernel
theorem dX10_bears_13 : decode cX10_bears 13 = .ok (.istore_n 3, 1) := by decide +kernel
theorem dX10_bears_14 : decode cX10_bears 14 = .ok (.aload_n 0, 1) := by decide +kernel
theorem dX10_bears_15 : decode cX10_bears 15 = .ok (.iload_n 1, 1) := by decide +kernel
theorem dX10_bears_16 : decode cX10_bears 16 = .ok (.iconst 1, 1) := by decide +kernel
theorem dX10_bears_17 : decode cX10_bears 17 = .ok (.invokevirtual 154, 3) := by decide +kernel
theorem dX10_bears_20 : decode cX10_bears 20 = .ok (.tableswitch 113 0 3 #[32, 59, 77, 106], 32) := by decide +kernel
theorem dX10_bears_52 : decode cX10_bears 52 = .ok (.aload_n 0, 1) := by decide +kernel
theorem dX10_bears_53 : decode cX10_bears 53 = .ok (.iload_n 3, 1) := by decide +kernel
theorem dX10_bears_54 : decode cX10_bears 54 = .ok (.aload_n 0, 1) := by decide +kernel
theorem dX10_bears_55 : decode cX10_bears 55 = .ok (.getfield 38, 3) := by decide +kernel
theorem dX10_bears_58 : decode cX10_bears 58 = .ok (.iload_n 2, 1) := by decide +kernel
theorem dX10_bears_59 : decode cX10_bears 59 = .ok (.iaload, 1) := by decide +kernel
theorem dX10_bears_60 : decode cX10_bears 60 = .ok (.iconst 1, 1) := by decide +kernel
theorem dX10_bears_61 : decode cX10_bears 61 = .ok (.iadd, 1) := by decide +kernel
theorem dX10_bears_62 : decode cX10_bears 62 = .ok (.invokevirtual 157, 3) := by decide +kernel
theorem dX10_bears_65 : decode cX10_bears 65 = .ok (.aload_n 0, 1) := by decide +kernel
theorem dX10_bears_66 : decode cX10_bears 66 = .ok (.iload_n 2, 1) := by decide +kernel
theorem dX10_bears_67 : decode cX10_bears 67 = .ok (.aload_n 0, 1) := by decide +kernel
theorem dX10_bears_68 : decode cX10_bears 68 = .ok (.getfield 41, 3) := by decide +kernel
theorem dX10_bears_71 : decode cX10_bears 71 = .ok (.iload_n 3, 1) := by decide +kernel
theorem dX10_bears_72 : decode cX10_bears 72 = .ok (.iaload, 1) := by decide +kernel
theorem dX10_bears_73 : decode cX10_bears 73 = .ok (.iconst 1, 1) := by decide +kernel
theorem dX10_bears_74 : decode cX10_bears 74 = .ok (.isub, 1) := by decide +kernel
theorem dX10_bears_75 : decode cX10_bears 75 = .ok (.invokevirtual 161, 3) := by decide +kernel
theorem dX10_bears_78 : decode cX10_bears 78 = .ok (.return_, 1) := by decide +kernel
theorem dX10_bears_79 : decode cX10_bears 79 = .ok (.aload_n 0, 1) := by decide +kernel
theorem dX10_bears_80 : decode cX10_bears 80 = .ok (.iload_n 2, 1) := by decide +kernel
theorem dX10_bears_81 : decode cX10_bears 81 = .ok (.iload_n 3, 1) := by decide +kernel
theorem dX10_bears_82 : decode cX10_bears 82 = .ok (.invokevirtual 157, 3) := by decide +kernel
theorem dX10_bears_85 : decode cX10_bears 85 = .ok (.aload_n 0, 1) := by decide +kernel
theorem dX10_bears_86 : decode cX10_bears 86 = .ok (.iload_n 2, 1) := by decide +kernel
theorem dX10_bears_87 : decode cX10_bears 87 = .ok (.aload_n 0, 1) := by decide +kernel
theorem dX10_bears_88 : decode cX10_bears 88 = .ok (.iload_n 1, 1) := by decide +kernel
theorem dX10_bears_89 : decode cX10_bears 89 = .ok (.iconst 4, 1) := by decide +kernel
theorem dX10_bears_90 : decode cX10_bears 90 = .ok (.invokevirtual 154, 3) := by decide +kernel
theorem dX10_bears_93 : decode cX10_bears 93 = .ok (.invokevirtual 161, 3) := by decide +kernel
theorem dX10_bears_96 : decode cX10_bears 96 = .ok (.return_, 1) := by decide +kernel
theorem dX10_bears_97 : decode cX10_bears 97 = .ok (.aload_n 0, 1) := by decide +kernel
theorem dX10_bears_98 : decode cX10_bears 98 = .ok (.iload_n 2, 1) := by decide +kernel
theorem dX10_bears_99 : decode cX10_bears 99 = .ok (.iload_n 3, 1) := by decide +kernel
theorem dX10_bears_100 : decode cX10_bears 100 = .ok (.aload_n 0, 1) := by decide +kernel
theorem dX10_bears_101 : decode cX10_bears 101 = .ok (.getfield 7, 3) := by decide +kernel
theorem dX10_bears_104 : decode cX10_bears 104 = .ok (.bipush 10, 2) := by decide +kernel
theorem dX10_bears_106 : decode cX10_bears 106 = .ok (.iaload, 1) := by decide +kernel
theorem dX10_bears_107 : decode cX10_bears 107 = .ok (.imul, 1) := by decide +kernel
theorem dX10_bears_108 : decode cX10_bears 108 = .ok (.invokevirtual 157, 3) := by decide +kernel
theorem dX10_bears_111 : decode cX10_bears 111 = .ok (.aload_n 0, 1) := by decide +kernel
theorem dX10_bears_112 : decode cX10_bears 112 = .ok (.iload_n 2, 1) := by decide +kernel
theorem dX10_bears_113 : decode cX10_bears 113 = .ok (.iload_n 3, 1) := by decide +kernel
theorem dX10_bears_114 : decode cX10_bears 114 = .ok (.aload_n 0, 1) := by decide +kernel
theorem dX10_bears_115 : decode cX10_bears 115 = .ok (.getfield 7, 3) := by decide +kernel
theorem dX10_bears_118 : decode cX10_bears 118 = .ok (.bipush 11, 2) := by decide +kernel
theorem dX10_bears_120 : decode cX10_bears 120 = .ok (.iaload, 1) := by decide +kernel
theorem dX10_bears_121 : decode cX10_bears 121 = .ok (.imul, 1) := by decide +kernel
theorem dX10_bears_122 : decode cX10_bears 122 = .ok (.invokevirtual 161, 3) := by decide +kernel
theorem dX10_bears_125 : decode cX10_bears 125 = .ok (.return_, 1) := by decide +kernel
theorem dX10_bears_126 : decode cX10_bears 126 = .ok (.aload_n 0, 1) := by decide +kernel
theorem dX10_bears_127 : decode cX10_bears 127 = .ok (.iload_n 2, 1) := by decide +kernel
theorem dX10_bears_128 : decode cX10_bears 128 = .ok (.iload_n 3, 1) := by decide +kernel
theorem dX10_bears_129 : decode cX10_bears 129 = .ok (.invokevirtual 161, 3) := by decide +kernel
theorem dX10_bears_132 : decode cX10_bears 132 = .ok (.return_, 1) := by decide +kernel
theorem dX10_bears_133 : decode cX10_bears 133 = .ok (.aload_n 0, 1) := by decide +kernel
theorem dX10_bears_134 : decode cX10_bears 134 = .ok (.iload_n 2, 1) := by decide +kernel
theorem dX10_bears_135 : decode cX10_bears 135 = .ok (.iload_n 3, 1) := by decide +kernel
theorem dX10_bears_136 : decode cX10_bears 136 = .ok (.invokevirtual 157, 3) := by decide +kernel
theorem dX10_bears_139 : decode cX10_bears 139 = .ok (.return_, 1) := by decide +kernel
theorem dX10_bounds_0 : decode cX10_bounds 0 = .ok (.iconst 0, 1) := by decide +kernel
theorem dX10_bounds_1 : decode cX10_bounds 1 = .ok (.istore_n 2, 1) := by decide +kernel
theorem dX10_bounds_2 : decode cX10_bounds 2 = .ok (.iload_n 2, 1) := by decide +kernel
theorem dX10_bounds_3 : decode cX10_bounds 3 = .ok (.bipush 8, 2) := by decide +kernel
theorem dX10_bounds_5 : decode cX10_bounds 5 = .ok (.if_icmp .ge 55, 3) := by decide +kernel
theorem dX10_bounds_8 : decode cX10_bounds 8 = .ok (.aload_n 0, 1) := by decide +kernel
theorem dX10_bounds_9 : decode cX10_bounds 9 = .ok (.getfield 38, 3) := by decide +kernel
theorem dX10_bounds_12 : decode cX10_bounds 12 = .ok (.iload_n 2, 1) := by decide +kernel
theorem dX10_bounds_13 : decode cX10_bounds 13 = .ok (.iload_n 2, 1) := by decide +kernel
theorem dX10_bounds_14 : decode cX10_bounds 14 = .ok (.aload_n 0, 1) := by decide +kernel
theorem dX10_bounds_15 : decode cX10_bounds 15 = .ok (.getfield 164, 3) := by decide +kernel
theorem dX10_bounds_18 : decode cX10_bounds 18 = .ok (.if_icmp .ne 10, 3) := by decide +kernel
theorem dX10_bounds_21 : decode cX10_bounds 21 = .ok (.aload_n 0, 1) := by decide +kernel
theorem dX10_bounds_22 : decode cX10_bounds 22 = .ok (.getfield 168, 3) := by decide +kernel
theorem dX10_bounds_25 : decode cX10_bounds 25 = .ok (.goto 4, 3) := by decide +kernel
theorem dX10_bounds_28 : decode cX10_bounds 28 = .ok (.iconst 0, 1) := by decide +kernel
theorem dX10_bounds_29 : decode cX10_bounds 29 = .ok (.iastore, 1) := by decide +kernel
theorem dX10_bounds_30 : decode cX10_bounds 30 = .ok (.aload_n 0, 1) := by decide +kernel
theorem dX10_bounds_31 : decode cX10_bounds 31 = .ok (.getfield 41, 3) := by decide +kernel
theorem dX10_bounds_34 : decode cX10_bounds 34 = .ok (.iload_n 2, 1) := by decide +kernel
theorem dX10_bounds_35 : decode cX10_bounds 35 = .ok (.iload_n 2, 1) := by decide +kernel
theorem dX10_bounds_36 : decode cX10_bounds 36 = .ok (.aload_n 0, 1) := by decide +kernel
theorem dX10_bounds_37 : decode cX10_bounds 37 = .ok (.getfield 164, 3) := by decide +kernel
theorem dX10_bounds_40 : decode cX10_bounds 40 = .ok (.if_icmp .ne 10, 3) := by decide +kernel
theorem dX10_bounds_43 : decode cX10_bounds 43 = .ok (.aload_n 0, 1) := by decide +kernel
theorem dX10_bounds_44 : decode cX10_bounds 44 = .ok (.getfield 168, 3) := by decide +kernel
theorem dX10_bounds_47 : decode cX10_bounds 47 = .ok (.goto 6, 3) := by decide +kernel
theorem dX10_bounds_50 : decode cX10_bounds 50 = .ok (.sipush 999, 3) := by decide +kernel
theorem dX10_bounds_53 : decode cX10_bounds 53 = .ok (.iastore, 1) := by decide +kernel
theorem dX10_bounds_54 : decode cX10_bounds 54 = .ok (.iinc 2 1, 3) := by decide +kernel
theorem dX10_bounds_57 : decode cX10_bounds 57 = .ok (.goto (-55), 3) := by decide +kernel
theorem dX10_bounds_60 : decode cX10_bounds 60 = .ok (.aload_n 0, 1) := by decide +kernel
theorem dX10_bounds_61 : decode cX10_bounds 61 = .ok (.iconst 1, 1) := by decide +kernel
theorem dX10_bounds_62 : decode cX10_bounds 62 = .ok (.putfield 150, 3) := by decide +kernel
theorem dX10_bounds_65 : decode cX10_bounds 65 = .ok (.iconst 1, 1) := by decide +kernel
theorem dX10_bounds_66 : decode cX10_bounds 66 = .ok (.istore_n 2, 1) := by decide +kernel
theorem dX10_bounds_67 : decode cX10_bounds 67 = .ok (.iconst 0, 1) := by decide +kernel
theorem dX10_bounds_68 : decode cX10_bounds 68 = .ok (.istore_n 3, 1) := by decide +kernel
theorem dX10_bounds_69 : decode cX10_bounds 69 = .ok (.iload_n 3, 1) := by decide +kernel
theorem dX10_bounds_70 : decode cX10_bounds 70 = .ok (.bipush 20, 2) := by decide +kernel
theorem dX10_bounds_72 : decode cX10_bounds 72 = .ok (.if_icmp .ge 150, 3) := by decide +kernel
theorem dX10_bounds_75 : decode cX10_bounds 75 = .ok (.aload_n 0, 1) := by decide +kernel
theorem dX10_bounds_76 : decode cX10_bounds 76 = .ok (.getfield 150, 3) := by decide +kernel
theorem dX10_bounds_79 : decode cX10_bounds 79 = .ok (.ifCond .eq 143, 3) := by decide +kernel
theorem dX10_bounds_82 : decode cX10_bounds 82 = .ok (.iload_n 2, 1) := by decide +kernel
theorem dX10_bounds_83 : decode cX10_bounds 83 = .ok (.ifCond .eq 139, 3) := by decide +kernel
theorem dX10_bounds_86 : decode cX10_bounds 86 = .ok (.aload_n 0, 1) := by decide +kernel
theorem dX10_bounds_87 : decode cX10_bounds 87 = .ok (.iconst 0, 1) := by decide +kernel
theorem dX10_bounds_88 : decode cX10_bounds 88 = .ok (.putfield 150, 3) := by decide +kernel
theorem dX10_bounds_91 : decode cX10_bounds 91 = .ok (.iconst 0, 1) := by decide +kernel
theorem dX10_bounds_92 : decode cX10_bounds 92 = .ok (.istore 4, 2) := by decide +kernel
theorem dX10_bounds_94 : decode cX10_bounds 94 = .ok (.iload 4, 2) := by decide +kernel
theorem dX10_bounds_96 : decode cX10_bounds 96 = .ok (.aload_n 0, 1) := by decide +kernel
theorem dX10_bounds_97 : decode cX10_bounds 97 = .ok (.getfield 7, 3) := by decide +kernel
theorem dX10_bounds_100 : decode cX10_bounds 100 = .ok (.iconst 4, 1) := by decide +kernel
theorem dX10_bounds_101 : decode cX10_bounds 101 = .ok (.iaload, 1) := by decide +kernel
theorem dX10_bounds_102 : decode cX10_bounds 102 = .ok (.if_icmp .ge 25, 3) := by decide +kernel
theorem dX10_bounds_105 : decode cX10_bounds 105 = .ok (.iload_n 1, 1) := by decide +kernel
theorem dX10_bounds_106 : decode cX10_bounds 106 = .ok (.iload 4, 2) := by decide +kernel
theorem dX10_bounds_108 : decode cX10_bounds 108 = .ok (.ishr, 1) := by decide +kernel
theorem dX10_bounds_109 : decode cX10_bounds 109 = .ok (.iconst 1, 1) := by decide +kernel
theorem dX10_bounds_110 : decode cX10_bounds 110 = .ok (.iand, 1) := by decide +kernel
theorem dX10_bounds_111 : decode cX10_bounds 111 = .ok (.iconst 1, 1) := by decide +kernel
theorem dX10_bounds_112 : decode cX10_bounds 112 = .ok (.if_icmp .ne 9, 3) := by decide +kernel
theorem dX10_bounds_115 : decode cX10_bounds 115 = .ok (.aload_n 0, 1) := by decide +kernel
theorem dX10_bounds_116 : decode cX10_bounds 116 = .ok (.iload 4, 2) := by decide +kernel
theorem dX10_bounds_118 : decode cX10_bounds 118 = .ok (.invokevirtual 171, 3) := by decide +kernel
theorem dX10_bounds_121 : decode cX10_bounds 121 = .ok (.iinc 4 1, 3) := by decide +kernel
theorem dX10_bounds_124 : decode cX10_bounds 124 = .ok (.goto (-30), 3) := by decide +kernel
theorem dX10_bounds_127 : decode cX10_bounds 127 = .ok (.aload_n 0, 1) := by decide +kernel
theorem dX10_bounds_128 : decode cX10_bounds 128 = .ok (.getfield 174, 3) := by decide +kernel
theorem dX10_bounds_131 : decode cX10_bounds 131 = .ok (.iconst (-1), 1) := by decide +kernel
theorem dX10_bounds_132 : decode cX10_bounds 132 = .ok (.if_icmp .eq 37, 3) := by decide +kernel
theorem dX10_bounds_135 : decode cX10_bounds 135 = .ok (.aload_n 0, 1) := by decide +kernel
theorem dX10_bounds_136 : decode cX10_bounds 136 = .ok (.aload_n 0, 1) := by decide +kernel
theorem dX10_bounds_137 : decode cX10_bounds 137 = .ok (.getfield 177, 3) := by decide +kernel
theorem dX10_bounds_140 : decode cX10_bounds 140 = .ok (.aload_n 0, 1) := by decide +kernel
theorem dX10_bounds_141 : decode cX10_bounds 141 = .ok (.getfield 38, 3) := by decide +kernel
theorem dX10_bounds_144 : decode cX10_bounds 144 = .ok (.aload_n 0, 1) := by decide +kernel
theorem dX10_bounds_145 : decode cX10_bounds 145 = .ok (.getfield 174, 3) := by decide +kernel
theorem dX10_bounds_148 : decode cX10_bounds 148 = .ok (.iaload, 1) := by decide +kernel
theorem dX10_bounds_149 : decode cX10_bounds 149 = .ok (.invokevirtual 157, 3) := by decide +kernel
theorem dX10_bounds_152 : decode cX10_bounds 152 = .ok (.aload_n 0, 1) := by decide +kernel
theorem dX10_bounds_153 : decode cX10_bounds 153 = .ok (.aload_n 0, 1) := by decide +kernel
theorem dX10_bounds_154 : decode cX10_bounds 154 = .ok (.getfield 174, 3) := by decide +kernel
theorem dX10_bounds_157 : decode cX10_bounds 157 = .ok (.aload_n 0, 1) := by decide +kernel
theorem dX10_bounds_158 : decode cX10_bounds 158 = .ok (.getfield 41, 3) := by decide +kernel
theorem dX10_bounds_161 : decode cX10_bounds 161 = .ok (.aload_n 0, 1) := by decide +kernel
theorem dX10_bounds_162 : decode cX10_bounds 162 = .ok (.getfield 177, 3) := by decide +kernel
theorem dX10_bounds_165 : decode cX10_bounds 165 = .ok (.iaload, 1) := by decide +kernel
theorem dX10_bounds_166 : decode cX10_bounds 166 = .ok (.invokevirtual 161, 3) := by decide +kernel
theorem dX10_bounds_169 : decode cX10_bounds 169 = .ok (.iconst 0, 1) := by decide +kernel
theorem dX10_bounds_170 : decode cX10_bounds 170 = .ok (.istore 4, 2) := by decide +kernel
theorem dX10_bounds_172 : decode cX10_bounds 172 = .ok (.iload 4, 2) := by decide +kernel
theorem dX10_bounds_174 : decode cX10_bounds 174 = .ok (.aload_n 0, 1) := by decide +kernel
theorem dX10_bounds_175 : decode cX10_bounds 175 = .ok (.getfield 7, 3) := by decide +kernel
theorem dX10_bounds_178 : decode cX10_bounds 178 = .ok (.iconst 3, 1) := by decide +kernel
theorem dX10_bounds_179 : decode cX10_bounds 179 = .ok (.iaload, 1) := by decide +kernel
theorem dX10_bounds_180 : decode cX10_bounds 180 = .ok (.if_icmp .ge 36, 3) := by decide +kernel
theorem dX10_bounds_183 : decode cX10_bounds 183 = .ok (.iload_n 2, 1) := by decide +kernel
theorem dX10_bounds_184 : decode cX10_bounds 184 = .ok (.ifCond .eq 24, 3) := by decide +kernel
theorem dX10_bounds_187 : decode cX10_bounds 187 = .ok (.aload_n 0, 1) := by decide +kernel
theorem dX10_bounds_188 : decode cX10_bounds 188 = .ok (.getfield 38, 3) := by decide +kernel
theorem dX10_bounds_191 : decode cX10_bounds 191 = .ok (.iload 4, 2) := by decide +kernel
theorem dX10_bounds_193 : decode cX10_bounds 193 = .ok (.iaload, 1) := by decide +kernel
theorem dX10_bounds_194 : decode cX10_bounds 194 = .ok (.aload_n 0, 1) := by decide +kernel
theorem dX10_bounds_195 : decode cX10_bounds 195 = .ok (.getfield 41, 3) := by decide +kernel
theorem dX10_bounds_198 : decode cX10_bounds 198 = .ok (.iload 4, 2) := by decide +kernel
theorem dX10_bounds_200 : decode cX10_bounds 200 = .ok (.iaload, 1) := by decide +kernel
theorem dX10_bounds_201 : decode cX10_bounds 201 = .ok (.if_icmp .gt 7, 3) := by decide +kernel
theorem dX10_bounds_204 : decode cX10_bounds 204 = .ok (.iconst 1, 1) := by decide +kernel
theorem dX10_bounds_205 : decode cX10_bounds 205 = .ok (.goto 4, 3) := by decide +kernel
theorem dX10_bounds_208 : decode cX10_bounds 208 = .ok (.iconst 0, 1) := by decide +kernel
theorem dX10_bounds_209 : decode cX10_bounds 209 = .ok (.istore_n 2, 1) := by decide +kernel
theorem dX10_bounds_210 : decode cX10_bounds 210 = .ok (.iinc 4 1, 3) := by decide +kernel
theorem dX10_bounds_213 : decode cX10_bounds 213 = .ok (.goto (-41), 3) := by decide +kernel
theorem dX10_bounds_216 : decode cX10_bounds 216 = .ok (.iinc 3 1, 3) := by decide +kernel
theorem dX10_bounds_219 : decode cX10_bounds 219 = .ok (.goto (-150), 3) := by decide +kernel
theorem dX10_bounds_222 : decode cX10_bounds 222 = .ok (.iload_n 2, 1) := by decide +kernel
theorem dX10_bounds_223 : decode cX10_bounds 223 = .ok (.ifCond .eq 14, 3) := by decide +kernel
theorem dX10_bounds_226 : decode cX10_bounds 226 = .ok (.aload_n 0, 1) := by decide +kernel
theorem dX10_bounds_227 : decode cX10_bounds 227 = .ok (.getfield 150, 3) := by decide +kernel
theorem dX10_bounds_230 : decode cX10_bounds 230 = .ok (.ifCond .ne 7, 3) := by decide +kernel
theorem dX10_bounds_233 : decode cX10_bounds 233 = .ok (.iconst 1, 1) := by decide +kernel
theorem dX10_bounds_234 : decode cX10_bounds 234 = .ok (.goto 4, 3) := by decide +kernel
theorem dX10_bounds_237 : decode cX10_bounds 237 = .ok (.iconst 0, 1) := by decide +kernel
theorem dX10_bounds_238 : decode cX10_bounds 238 = .ok (.ireturn, 1) := by decide +kernel
theorem dX10_plain_0 : decode cX10_plain 0 = .ok (.aload_n 0, 1) := by decide +kernel
theorem dX10_plain_1 : decode cX10_plain 1 = .ok (.iconst (-1), 1) := by decide +kernel
theorem dX10_plain_2 : decode cX10_plain 2 = .ok (.putfield 174, 3) := by decide +kernel
theorem dX10_plain_5 : decode cX10_plain 5 = .ok (.aload_n 0, 1) := by decide +kernel
theorem dX10_plain_6 : decode cX10_plain 6 = .ok (.iconst (-1), 1) := by decide +kernel
theorem dX10_plain_7 : decode cX10_plain 7 = .ok (.putfield 164, 3) := by decide +kernel
theorem dX10_plain_10 : decode cX10_plain 10 = .ok (.aload_n 0, 1) := by decide +kernel
theorem dX10_plain_11 : decode cX10_plain 11 = .ok (.iload_n 1, 1) := by decide +kernel
theorem dX10_plain_12 : decode cX10_plain 12 = .ok (.invokevirtual 180, 3) := by decide +kernel
theorem dX10_plain_15 : decode cX10_plain 15 = .ok (.ireturn, 1) := by decide +kernel
theorem dX10_age_0 : decode cX10_age 0 = .ok (.aload_n 0, 1) := by decide +kernel
theorem dX10_age_1 : decode cX10_age 1 = .ok (.iconst 3, 1) := by decide +kernel
theorem dX10_age_2 : decode cX10_age 2 = .ok (.iload_n 1, 1) := by decide +kernel
theorem dX10_age_3 : decode cX10_age 3 = .ok (.invokevirtual 118, 3) := by decide +kernel
theorem dX10_age_6 : decode cX10_age 6 = .ok (.ifCond .eq 33, 3) := by decide +kernel
theorem dX10_age_9 : decode cX10_age 9 = .ok (.iload_n 2, 1) := by decide +kernel
theorem dX10_age_10 : decode cX10_age 10 = .ok (.i2l, 1) := by decide +kernel
theorem dX10_age_11 : decode cX10_age 11 = .ok (.lconst 0, 1) := by decide +kernel
theorem dX10_age_12 : decode cX10_age 12 = .ok (.iconst 1, 1) := by decide +kernel
theorem dX10_age_13 : decode cX10_age 13 = .ok (.aload_n 0, 1) := by decide +kernel
theorem dX10_age_14 : decode cX10_age 14 = .ok (.getfield 7, 3) := by decide +kernel
theorem dX10_age_17 : decode cX10_age 17 = .ok (.iconst 4, 1) := by decide +kernel
theorem dX10_age_18 : decode cX10_age 18 = .ok (.iaload, 1) := by decide +kernel
theorem dX10_age_19 : decode cX10_age 19 = .ok (.ishl, 1) := by decide +kernel
theorem dX10_age_20 : decode cX10_age 20 = .ok (.iconst 1, 1) := by decide +kernel
theorem dX10_age_21 : decode cX10_age 21 = .ok (.isub, 1) := by decide +kernel
theorem dX10_age_22 : decode cX10_age 22 = .ok (.i2l, 1) := by decide +kernel
theorem dX10_age_23 : decode cX10_age 23 = .ok (.invokestatic 67, 3) := by decide +kernel
theorem dX10_age_26 : decode cX10_age 26 = .ok (.ifCond .eq 13, 3) := by decide +kernel
theorem dX10_age_29 : decode cX10_age 29 = .ok (.iload_n 3, 1) := by decide +kernel
theorem dX10_age_30 : decode cX10_age 30 = .ok (.i2l, 1) := by decide +kernel
theorem dX10_age_31 : decode cX10_age 31 = .ok (.lconst 0, 1) := by decide +kernel
theorem dX10_age_32 : decode cX10_age 32 = .ok (.lconst 1, 1) := by decide +kernel
theorem dX10_age_33 : decode cX10_age 33 = .ok (.invokestatic 67, 3) := by decide +kernel
theorem dX10_age_36 : decode cX10_age 36 = .ok (.ifCond .ne 6, 3) := by decide +kernel
theorem dX10_age_39 : decode cX10_age 39 = .ok (.bipush (-10), 2) := by decide +kernel
theorem dX10_age_41 : decode cX10_age 41 = .ok (.ireturn, 1) := by decide +kernel
theorem dX10_age_42 : decode cX10_age 42 = .ok (.aload_n 0, 1) := by decide +kernel
theorem dX10_age_43 : decode cX10_age 43 = .ok (.iload_n 2, 1) := by decide +kernel
theorem dX10_age_44 : decode cX10_age 44 = .ok (.invokevirtual 183, 3) := by decide +kernel
theorem dX10_age_47 : decode cX10_age 47 = .ok (.ifCond .ne 8, 3) := by decide +kernel
theorem dX10_age_50 : decode cX10_age 50 = .ok (.bipush (-5), 2) := by decide +kernel
theorem dX10_age_52 : decode cX10_age 52 = .ok (.goto 22, 3) := by decide +kernel
theorem dX10_age_55 : decode cX10_age 55 = .ok (.iload_n 3, 1) := by decide +kernel
theorem dX10_age_56 : decode cX10_age 56 = .ok (.ifCond .ne 12, 3) := by decide +kernel
theorem dX10_age_59 : decode cX10_age 59 = .ok (.aload_n 0, 1) := by decide +kernel
theorem dX10_age_60 : decode cX10_age 60 = .ok (.getfield 38, 3) := by decide +kernel
theorem dX10_age_63 : decode cX10_age 63 = .ok (.iload_n 1, 1) := by decide +kernel
theorem dX10_age_64 : decode cX10_age 64 = .ok (.iaload, 1) := by decide +kernel
theorem dX10_age_65 : decode cX10_age 65 = .ok (.goto 9, 3) := by decide +kernel
theorem dX10_age_68 : decode cX10_age 68 = .ok (.aload_n 0, 1) := by decide +kernel
theorem dX10_age_69 : decode cX10_age 69 = .ok (.getfield 41, 3) := by decide +kernel
theorem dX10_age_72 : decode cX10_age 72 = .ok (.iload_n 1, 1) := by decide +kernel
theorem dX10_age_73 : decode cX10_age 73 = .ok (.iaload, 1) := by decide +kernel
theorem dX10_age_74 : decode cX10_age 74 = .ok (.ireturn, 1) := by decide +kernel
theorem dX10_sizeOf_0 : decode cX10_sizeOf 0 = .ok (.iconst 0, 1) := by decide +kernel
theorem dX10_sizeOf_1 : decode cX10_sizeOf 1 = .ok (.istore_n 1, 1) := by decide +kernel
theorem dX10_sizeOf_2 : decode cX10_sizeOf 2 = .ok (.iload_n 0, 1) := by decide +kernel
theorem dX10_sizeOf_3 : decode cX10_sizeOf 3 = .ok (.istore_n 2, 1) := by decide +kernel
theorem dX10_sizeOf_4 : decode cX10_sizeOf 4 = .ok (.iload_n 2, 1) := by decide +kernel
theorem dX10_sizeOf_5 : decode cX10_sizeOf 5 = .ok (.ifCond .le 16, 3) := by decide +kernel
theorem dX10_sizeOf_8 : decode cX10_sizeOf 8 = .ok (.iload_n 1, 1) := by decide +kernel
theorem dX10_sizeOf_9 : decode cX10_sizeOf 9 = .ok (.iload_n 2, 1) := by decide +kernel
theorem dX10_sizeOf_10 : decode cX10_sizeOf 10 = .ok (.iconst 1, 1) := by decide +kernel
theorem dX10_sizeOf_11 : decode cX10_sizeOf 11 = .ok (.iand, 1) := by decide +kernel
theorem dX10_sizeOf_12 : decode cX10_sizeOf 12 = .ok (.iadd, 1) := by decide +kernel
theorem dX10_sizeOf_13 : decode cX10_sizeOf 13 = .ok (.istore_n 1, 1) := by decide +kernel
theorem dX10_sizeOf_14 : decode cX10_sizeOf 14 = .ok (.iload_n 2, 1) := by decide +kernel
theorem dX10_sizeOf_15 : decode cX10_sizeOf 15 = .ok (.iconst 1, 1) := by decide +kernel
theorem dX10_sizeOf_16 : decode cX10_sizeOf 16 = .ok (.ishr, 1) := by decide +kernel
theorem dX10_sizeOf_17 : decode cX10_sizeOf 17 = .ok (.istore_n 2, 1) := by decide +kernel
theorem dX10_sizeOf_18 : decode cX10_sizeOf 18 = .ok (.goto (-14), 3) := by decide +kernel
theorem dX10_sizeOf_21 : decode cX10_sizeOf 21 = .ok (.iload_n 1, 1) := by decide +kernel
theorem dX10_sizeOf_22 : decode cX10_sizeOf 22 = .ok (.ireturn, 1) := by decide +kernel
theorem dX10_all_0 : decode cX10_all 0 = .ok (.iconst 1, 1) := by decide +kernel
theorem dX10_all_1 : decode cX10_all 1 = .ok (.aload_n 0, 1) := by decide +kernel
theorem dX10_all_2 : decode cX10_all 2 = .ok (.getfield 7, 3) := by decide +kernel
theorem dX10_all_5 : decode cX10_all 5 = .ok (.iconst 4, 1) := by decide +kernel
theorem dX10_all_6 : decode cX10_all 6 = .ok (.iaload, 1) := by decide +kernel
theorem dX10_all_7 : decode cX10_all 7 = .ok (.ishl, 1) := by decide +kernel
theorem dX10_all_8 : decode cX10_all 8 = .ok (.iconst 1, 1) := by decide +kernel
theorem dX10_all_9 : decode cX10_all 9 = .ok (.isub, 1) := by decide +kernel
theorem dX10_all_10 : decode cX10_all 10 = .ok (.ireturn, 1) := by decide +kernel
theorem dX10_findFewest_0 : decode cX10_findFewest 0 = .ok (.iconst 0, 1) := by decide +kernel
theorem dX10_findFewest_1 : decode cX10_findFewest 1 = .ok (.istore_n 1, 1) := by decide +kernel
theorem dX10_findFewest_2 : decode cX10_findFewest 2 = .ok (.iload_n 1, 1) := by decide +kernel
theorem dX10_findFewest_3 : decode cX10_findFewest 3 = .ok (.iconst 5, 1) := by decide +kernel
theorem dX10_findFewest_4 : decode cX10_findFewest 4 = .ok (.if_icmp .ge 50, 3) := by decide +kernel
theorem dX10_findFewest_7 : decode cX10_findFewest 7 = .ok (.iconst 0, 1) := by decide +kernel
theorem dX10_findFewest_8 : decode cX10_findFewest 8 = .ok (.istore_n 2, 1) := by decide +kernel
theorem dX10_findFewest_9 : decode cX10_findFewest 9 = .ok (.iload_n 2, 1) := by decide +kernel
theorem dX10_findFewest_10 : decode cX10_findFewest 10 = .ok (.aload_n 0, 1) := by decide +kernel
theorem dX10_findFewest_11 : decode cX10_findFewest 11 = .ok (.invokevirtual 186, 3) := by decide +kernel
theorem dX10_findFewest_14 : decode cX10_findFewest 14 = .ok (.if_icmp .gt 34, 3) := by decide +kernel
theorem dX10_findFewest_17 : decode cX10_findFewest 17 = .ok (.iload_n 2, 1) := by decide +kernel
theorem dX10_findFewest_18 : decode cX10_findFewest 18 = .ok (.invokestatic 189, 3) := by decide +kernel
theorem dX10_findFewest_21 : decode cX10_findFewest 21 = .ok (.iload_n 1, 1) := by decide +kernel
theorem dX10_findFewest_22 : decode cX10_findFewest 22 = .ok (.if_icmp .ne 20, 3) := by decide +kernel
theorem dX10_findFewest_25 : decode cX10_findFewest 25 = .ok (.aload_n 0, 1) := by decide +kernel
theorem dX10_findFewest_26 : decode cX10_findFewest 26 = .ok (.aload_n 0, 1) := by decide +kernel
theorem dX10_findFewest_27 : decode cX10_findFewest 27 = .ok (.invokevirtual 186, 3) := by decide +kernel
theorem dX10_findFewest_30 : decode cX10_findFewest 30 = .ok (.iload_n 2, 1) := by decide +kernel
theorem dX10_findFewest_31 : decode cX10_findFewest 31 = .ok (.iconst (-1), 1) := by decide +kernel
theorem dX10_findFewest_32 : decode cX10_findFewest 32 = .ok (.ixor, 1) := by decide +kernel
theorem dX10_findFewest_33 : decode cX10_findFewest 33 = .ok (.iand, 1) := by decide +kernel
theorem dX10_findFewest_34 : decode cX10_findFewest 34 = .ok (.invokevirtual 183, 3) := by decide +kernel
theorem dX10_findFewest_37 : decode cX10_findFewest 37 = .ok (.ifCond .eq 5, 3) := by decide +kernel
theorem dX10_findFewest_40 : decode cX10_findFewest 40 = .ok (.iload_n 2, 1) := by decide +kernel
theorem dX10_findFewest_41 : decode cX10_findFewest 41 = .ok (.ireturn, 1) := by decide +kernel
theorem dX10_findFewest_42 : decode cX10_findFewest 42 = .ok (.iinc 2 1, 3) := by decide +kernel
theorem dX10_findFewest_45 : decode cX10_findFewest 45 = .ok (.goto (-36), 3) := by decide +kernel
theorem dX10_findFewest_48 : decode cX10_findFewest 48 = .ok (.iinc 1 1, 3) := by decide +kernel
theorem dX10_findFewest_51 : decode cX10_findFewest 51 = .ok (.goto (-49), 3) := by decide +kernel
theorem dX10_findFewest_54 : decode cX10_findFewest 54 = .ok (.bipush (-5), 2) := by decide +kernel
theorem dX10_findFewest_56 : decode cX10_findFewest 56 = .ok (.ireturn, 1) := by decide +kernel
theorem dX10_fewest_0 : decode cX10_fewest 0 = .ok (.aload_n 0, 1) := by decide +kernel
theorem dX10_fewest_1 : decode cX10_fewest 1 = .ok (.invokevirtual 192, 3) := by decide +kernel
theorem dX10_fewest_4 : decode cX10_fewest 4 = .ok (.ireturn, 1) := by decide +kernel
theorem dX10_sure_0 : decode cX10_sure 0 = .ok (.aload_n 0, 1) := by decide +kernel
theorem dX10_sure_1 : decode cX10_sure 1 = .ok (.iconst 3, 1) := by decide +kernel
theorem dX10_sure_2 : decode cX10_sure 2 = .ok (.iload_n 1, 1) := by decide +kernel
theorem dX10_sure_3 : decode cX10_sure 3 = .ok (.invokevirtual 118, 3) := by decide +kernel
theorem dX10_sure_6 : decode cX10_sure 6 = .ok (.ifCond .eq 17, 3) := by decide +kernel
theorem dX10_sure_9 : decode cX10_sure 9 = .ok (.aload_n 0, 1) := by decide +kernel
theorem dX10_sure_10 : decode cX10_sure 10 = .ok (.iconst 3, 1) := by decide +kernel
theorem dX10_sure_11 : decode cX10_sure 11 = .ok (.iload_n 2, 1) := by decide +kernel
theorem dX10_sure_12 : decode cX10_sure 12 = .ok (.invokevirtual 118, 3) := by decide +kernel
theorem dX10_sure_15 : decode cX10_sure 15 = .ok (.ifCond .eq 8, 3) := by decide +kernel
theorem dX10_sure_18 : decode cX10_sure 18 = .ok (.iload_n 1, 1) := by decide +kernel
theorem dX10_sure_19 : decode cX10_sure 19 = .ok (.iload_n 2, 1) := by decide +kernel
theorem dX10_sure_20 : decode cX10_sure 20 = .ok (.if_icmp .ne 6, 3) := by decide +kernel
theorem dX10_sure_23 : decode cX10_sure 23 = .ok (.bipush (-2), 2) := by decide +kernel
theorem dX10_sure_25 : decode cX10_sure 25 = .ok (.ireturn, 1) := by decide +kernel
theorem dX10_sure_26 : decode cX10_sure 26 = .ok (.aload_n 0, 1) := by decide +kernel
theorem dX10_sure_27 : decode cX10_sure 27 = .ok (.invokevirtual 192, 3) := by decide +kernel
theorem dX10_sure_30 : decode cX10_sure 30 = .ok (.istore_n 3, 1) := by decide +kernel
theorem dX10_sure_31 : decode cX10_sure 31 = .ok (.iload_n 3, 1) := by decide +kernel
theorem dX10_sure_32 : decode cX10_sure 32 = .ok (.ifCond .ge 6, 3) := by decide +kernel
theorem dX10_sure_35 : decode cX10_sure 35 = .ok (.bipush (-5), 2) := by decide +kernel
theorem dX10_sure_37 : decode cX10_sure 37 = .ok (.ireturn, 1) := by decide +kernel
theorem dX10_sure_38 : decode cX10_sure 38 = .ok (.aload_n 0, 1) := by decide +kernel
theorem dX10_sure_39 : decode cX10_sure 39 = .ok (.iconst (-1), 1) := by decide +kernel
theorem dX10_sure_40 : decode cX10_sure 40 = .ok (.putfield 164, 3) := by decide +kernel
theorem dX10_sure_43 : decode cX10_sure 43 = .ok (.aload_n 0, 1) := by decide +kernel
theorem dX10_sure_44 : decode cX10_sure 44 = .ok (.iload_n 2, 1) := by decide +kernel
theorem dX10_sure_45 : decode cX10_sure 45 = .ok (.putfield 174, 3) := by decide +kernel
theorem dX10_sure_48 : decode cX10_sure 48 = .ok (.aload_n 0, 1) := by decide +kernel
theorem dX10_sure_49 : decode cX10_sure 49 = .ok (.iload_n 1, 1) := by decide +kernel
theorem dX10_sure_50 : decode cX10_sure 50 = .ok (.putfield 177, 3) := by decide +kernel
theorem dX10_sure_53 : decode cX10_sure 53 = .ok (.aload_n 0, 1) := by decide +kernel
theorem dX10_sure_54 : decode cX10_sure 54 = .ok (.aload_n 0, 1) := by decide +kernel
theorem dX10_sure_55 : decode cX10_sure 55 = .ok (.invokevirtual 186, 3) := by decide +kernel
theorem dX10_sure_58 : decode cX10_sure 58 = .ok (.iload_n 3, 1) := by decide +kernel
theorem dX10_sure_59 : decode cX10_sure 59 = .ok (.iconst (-1), 1) := by decide +kernel
theorem dX10_sure_60 : decode cX10_sure 60 = .ok (.ixor, 1) := by decide +kernel
theorem dX10_sure_61 : decode cX10_sure 61 = .ok (.iand, 1) := by decide +kernel
theorem dX10_sure_62 : decode cX10_sure 62 = .ok (.invokevirtual 180, 3) := by decide +kernel
theorem dX10_sure_65 : decode cX10_sure 65 = .ok (.ifCond .eq 7, 3) := by decide +kernel
theorem dX10_sure_68 : decode cX10_sure 68 = .ok (.iconst 0, 1) := by decide +kernel
theorem dX10_sure_69 : decode cX10_sure 69 = .ok (.goto 4, 3) := by decide +kernel
theorem dX10_sure_72 : decode cX10_sure 72 = .ok (.iconst 1, 1) := by decide +kernel
theorem dX10_sure_73 : decode cX10_sure 73 = .ok (.ireturn, 1) := by decide +kernel
theorem dX10_core_0 : decode cX10_core 0 = .ok (.aload_n 0, 1) := by decide +kernel
theorem dX10_core_1 : decode cX10_core 1 = .ok (.getfield 7, 3) := by decide +kernel
theorem dX10_core_4 : decode cX10_core 4 = .ok (.iconst 3, 1) := by decide +kernel
theorem dX10_core_5 : decode cX10_core 5 = .ok (.iaload, 1) := by decide +kernel
theorem dX10_core_6 : decode cX10_core 6 = .ok (.ifCond .ne 5, 3) := by decide +kernel
theorem dX10_core_9 : decode cX10_core 9 = .ok (.iconst (-1), 1) := by decide +kernel
theorem dX10_core_10 : decode cX10_core 10 = .ok (.ireturn, 1) := by decide +kernel
theorem dX10_core_11 : decode cX10_core 11 = .ok (.aload_n 0, 1) := by decide +kernel
theorem dX10_core_12 : decode cX10_core 12 = .ok (.invokevirtual 192, 3) := by decide +kernel
theorem dX10_core_15 : decode cX10_core 15 = .ok (.istore_n 1, 1) := by decide +kernel
theorem dX10_core_16 : decode cX10_core 16 = .ok (.iload_n 1, 1) := by decide +kernel
theorem dX10_core_17 : decode cX10_core 17 = .ok (.ifCond .ge 6, 3) := by decide +kernel
theorem dX10_core_20 : decode cX10_core 20 = .ok (.bipush (-5), 2) := by decide +kernel
theorem dX10_core_22 : decode cX10_core 22 = .ok (.ireturn, 1) := by decide +kernel
theorem dX10_core_23 : decode cX10_core 23 = .ok (.aload_n 0, 1) := by decide +kernel
theorem dX10_core_24 : decode cX10_core 24 = .ok (.invokevirtual 186, 3) := by decide +kernel
theorem dX10_core_27 : decode cX10_core 27 = .ok (.iload_n 1, 1) := by decide +kernel
theorem dX10_core_28 : decode cX10_core 28 = .ok (.iconst (-1), 1) := by decide +kernel
theorem dX10_core_29 : decode cX10_core 29 = .ok (.ixor, 1) := by decide +kernel
theorem dX10_core_30 : decode cX10_core 30 = .ok (.iand, 1) := by decide +kernel
theorem dX10_core_31 : decode cX10_core 31 = .ok (.istore_n 2, 1) := by decide +kernel
theorem dX10_core_32 : decode cX10_core 32 = .ok (.iconst (-1), 1) := by decide +kernel
theorem dX10_core_33 : decode cX10_core 33 = .ok (.istore_n 3, 1) := by decide +kernel
theorem dX10_core_34 : decode cX10_core 34 = .ok (.ldc 107, 2) := by decide +kernel
theorem dX10_core_36 : decode cX10_core 36 = .ok (.istore 4, 2) := by decide +kernel
theorem dX10_core_38 : decode cX10_core 38 = .ok (.iconst 0, 1) := by decide +kernel
theorem dX10_core_39 : decode cX10_core 39 = .ok (.istore 5, 2) := by decide +kernel
theorem dX10_core_41 : decode cX10_core 41 = .ok (.iload 5, 2) := by decide +kernel
theorem dX10_core_43 : decode cX10_core 43 = .ok (.aload_n 0, 1) := by decide +kernel
theorem dX10_core_44 : decode cX10_core 44 = .ok (.getfield 7, 3) := by decide +kernel
theorem dX10_core_47 : decode cX10_core 47 = .ok (.iconst 3, 1) := by decide +kernel
theorem dX10_core_48 : decode cX10_core 48 = .ok (.iaload, 1) := by decide +kernel
theorem dX10_core_49 : decode cX10_core 49 = .ok (.if_icmp .ge 144, 3) := by decide +kernel
theorem dX10_core_52 : decode cX10_core 52 = .ok (.aload_n 0, 1) := by decide +kernel
theorem dX10_core_53 : decode cX10_core 53 = .ok (.iload_n 2, 1) := by decide +kernel
theorem dX10_core_54 : decode cX10_core 54 = .ok (.invokevirtual 183, 3) := by decide +kernel
theorem dX10_core_57 : decode cX10_core 57 = .ok (.pop, 1) := by decide +kernel
theorem dX10_core_58 : decode cX10_core 58 = .ok (.aload_n 0, 1) := by decide +kernel
theorem dX10_core_59 : decode cX10_core 59 = .ok (.getfield 38, 3) := by decide +kernel
theorem dX10_core_62 : decode cX10_core 62 = .ok (.iload 5, 2) := by decide +kernel
theorem dX10_core_64 : decode cX10_core 64 = .ok (.iaload, 1) := by decide +kernel
theorem dX10_core_65 : decode cX10_core 65 = .ok (.istore 6, 2) := by decide +kernel
theorem dX10_core_67 : decode cX10_core 67 = .ok (.aload_n 0, 1) := by decide +kernel
theorem dX10_core_68 : decode cX10_core 68 = .ok (.getfield 41, 3) := by decide +kernel
theorem dX10_core_71 : decode cX10_core 71 = .ok (.iload 5, 2) := by decide +kernel
theorem dX10_core_73 : decode cX10_core 73 = .ok (.iaload, 1) := by decide +kernel
theorem dX10_core_74 : decode cX10_core 74 = .ok (.istore 7, 2) := by decide +kernel
theorem dX10_core_76 : decode cX10_core 76 = .ok (.iconst 0, 1) := by decide +kernel
theorem dX10_core_77 : decode cX10_core 77 = .ok (.istore 8, 2) := by decide +kernel
theorem dX10_core_79 : decode cX10_core 79 = .ok (.aload_n 0, 1) := by decide +kernel
theorem dX10_core_80 : decode cX10_core 80 = .ok (.iload 5, 2) := by decide +kernel
theorem dX10_core_82 : decode cX10_core 82 = .ok (.putfield 164, 3) := by decide +kernel
theorem dX10_core_85 : decode cX10_core 85 = .ok (.iload 6, 2) := by decide +kernel
theorem dX10_core_87 : decode cX10_core 87 = .ok (.istore 9, 2) := by decide +kernel
theorem dX10_core_89 : decode cX10_core 89 = .ok (.iload 9, 2) := by decide +kernel
theorem dX10_core_91 : decode cX10_core 91 = .ok (.iload 7, 2) := by decide +kernel
theorem dX10_core_93 : decode cX10_core 93 = .ok (.if_icmp .gt 80, 3) := by decide +kernel
theorem dX10_core_96 : decode cX10_core 96 = .ok (.aload_n 0, 1) := by decide +kernel
theorem dX10_core_97 : decode cX10_core 97 = .ok (.iload 9, 2) := by decide +kernel
theorem dX10_core_99 : decode cX10_core 99 = .ok (.putfield 168, 3) := by decide +kernel
theorem dX10_core_102 : decode cX10_core 102 = .ok (.aload_n 0, 1) := by decide +kernel
theorem dX10_core_103 : decode cX10_core 103 = .ok (.iload_n 2, 1) := by decide +kernel
theorem dX10_core_104 : decode cX10_core 104 = .ok (.invokevirtual 180, 3) := by decide +kernel
theorem dX10_core_107 : decode cX10_core 107 = .ok (.pop, 1) := by decide +kernel
theorem dX10_core_108 : decode cX10_core 108 = .ok (.iconst 0, 1) := by decide +kernel
theorem dX10_core_109 : decode cX10_core 109 = .ok (.istore 10, 2) := by decide +kernel
theorem dX10_core_111 : decode cX10_core 111 = .ok (.iconst 0, 1) := by decide +kernel
theorem dX10_core_112 : decode cX10_core 112 = .ok (.istore 11, 2) := by decide +kernel
theorem dX10_core_114 : decode cX10_core 114 = .ok (.iload 11, 2) := by decide +kernel
theorem dX10_core_116 : decode cX10_core 116 = .ok (.aload_n 0, 1) := by decide +kernel
theorem dX10_core_117 : decode cX10_core 117 = .ok (.getfield 7, 3) := by decide +kernel
theorem dX10_core_120 : decode cX10_core 120 = .ok (.iconst 3, 1) := by decide +kernel
theorem dX10_core_121 : decode cX10_core 121 = .ok (.iaload, 1) := by decide +kernel
theorem dX10_core_122 : decode cX10_core 122 = .ok (.if_icmp .ge 29, 3) := by decide +kernel
theorem dX10_core_125 : decode cX10_core 125 = .ok (.iload 10, 2) := by decide +kernel
theorem dX10_core_127 : decode cX10_core 127 = .ok (.aload_n 0, 1) := by decide +kernel
theorem dX10_core_128 : decode cX10_core 128 = .ok (.getfield 41, 3) := by decide +kernel
theorem dX10_core_131 : decode cX10_core 131 = .ok (.iload 11, 2) := by decide +kernel
theorem dX10_core_133 : decode cX10_core 133 = .ok (.iaload, 1) := by decide +kernel
theorem dX10_core_134 : decode cX10_core 134 = .ok (.aload_n 0, 1) := by decide +kernel
theorem dX10_core_135 : decode cX10_core 135 = .ok (.getfield 38, 3) := by decide +kernel
theorem dX10_core_138 : decode cX10_core 138 = .ok (.iload 11, 2) := by decide +kernel
theorem dX10_core_140 : decode cX10_core 140 = .ok (.iaload, 1) := by decide +kernel
theorem dX10_core_141 : decode cX10_core 141 = .ok (.isub, 1) := by decide +kernel
theorem dX10_core_142 : decode cX10_core 142 = .ok (.iadd, 1) := by decide +kernel
theorem dX10_core_143 : decode cX10_core 143 = .ok (.istore 10, 2) := by decide +kernel
theorem dX10_core_145 : decode cX10_core 145 = .ok (.iinc 11 1, 3) := by decide +kernel
theorem dX10_core_148 : decode cX10_core 148 = .ok (.goto (-34), 3) := by decide +kernel
theorem dX10_core_151 : decode cX10_core 151 = .ok (.iload 10, 2) := by decide +kernel
theorem dX10_core_153 : decode cX10_core 153 = .ok (.iload 8, 2) := by decide +kernel
theorem dX10_core_155 : decode cX10_core 155 = .ok (.if_icmp .le 8, 3) := by decide +kernel
theorem dX10_core_158 : decode cX10_core 158 = .ok (.iload 10, 2) := by decide +kernel
theorem dX10_core_160 : decode cX10_core 160 = .ok (.goto 5, 3) := by decide +kernel
theorem dX10_core_163 : decode cX10_core 163 = .ok (.iload 8, 2) := by decide +kernel
theorem dX10_core_165 : decode cX10_core 165 = .ok (.istore 8, 2) := by decide +kernel
theorem dX10_core_167 : decode cX10_core 167 = .ok (.iinc 9 1, 3) := by decide +kernel
theorem dX10_core_170 : decode cX10_core 170 = .ok (.goto (-81), 3) := by decide +kernel
theorem dX10_core_173 : decode cX10_core 173 = .ok (.iload 8, 2) := by decide +kernel
theorem dX10_core_175 : decode cX10_core 175 = .ok (.iload 4, 2) := by decide +kernel
theorem dX10_core_177 : decode cX10_core 177 = .ok (.if_icmp .ge 10, 3) := by decide +kernel
theorem dX10_core_180 : decode cX10_core 180 = .ok (.iload 5, 2) := by decide +kernel
theorem dX10_core_182 : decode cX10_core 182 = .ok (.istore_n 3, 1) := by decide +kernel
theorem dX10_core_183 : decode cX10_core 183 = .ok (.iload 8, 2) := by decide +kernel
theorem dX10_core_185 : decode cX10_core 185 = .ok (.istore 4, 2) := by decide +kernel
theorem dX10_core_187 : decode cX10_core 187 = .ok (.iinc 5 1, 3) := by decide +kernel
theorem dX10_core_190 : decode cX10_core 190 = .ok (.goto (-149), 3) := by decide +kernel
theorem dX10_core_193 : decode cX10_core 193 = .ok (.iload_n 3, 1) := by decide +kernel
theorem dX10_core_194 : decode cX10_core 194 = .ok (.ireturn, 1) := by decide +kernel
theorem dX10_ofScholar_0 : decode cX10_ofScholar 0 = .ok (.iconst 0, 1) := by decide +kernel
theorem dX10_ofScholar_1 : decode cX10_ofScholar 1 = .ok (.istore_n 2, 1) := by decide +kernel
theorem dX10_ofScholar_2 : decode cX10_ofScholar 2 = .ok (.iconst 0, 1) := by decide +kernel
theorem dX10_ofScholar_3 : decode cX10_ofScholar 3 = .ok (.istore_n 3, 1) := by decide +kernel
theorem dX10_ofScholar_4 : decode cX10_ofScholar 4 = .ok (.iload_n 3, 1) := by decide +kernel
theorem dX10_ofScholar_5 : decode cX10_ofScholar 5 = .ok (.aload_n 0, 1) := by decide +kernel
theorem dX10_ofScholar_6 : decode cX10_ofScholar 6 = .ok (.getfield 7, 3) := by decide +kernel
theorem dX10_ofScholar_9 : decode cX10_ofScholar 9 = .ok (.iconst 4, 1) := by decide +kernel
theorem dX10_ofScholar_10 : decode cX10_ofScholar 10 = .ok (.iaload, 1) := by decide +kernel
theorem dX10_ofScholar_11 : decode cX10_ofScholar 11 = .ok (.if_icmp .ge 29, 3) := by decide +kernel
theorem dX10_ofScholar_14 : decode cX10_ofScholar 14 = .ok (.iload_n 2, 1) := by decide +kernel
theorem dX10_ofScholar_15 : decode cX10_ofScholar 15 = .ok (.aload_n 0, 1) := by decide +kernel
theorem dX10_ofScholar_16 : decode cX10_ofScholar 16 = .ok (.iload_n 3, 1) := by decide +kernel
theorem dX10_ofScholar_17 : decode cX10_ofScholar 17 = .ok (.iconst 0, 1) := by decide +kernel
theorem dX10_ofScholar_18 : decode cX10_ofScholar 18 = .ok (.invokevirtual 154, 3) := by decide +kernel
theorem dX10_ofScholar_21 : decode cX10_ofScholar 21 = .ok (.iload_n 1, 1) := by decide +kernel
theorem dX10_ofScholar_22 : decode cX10_ofScholar 22 = .ok (.if_icmp .ne 9, 3) := by decide +kernel
theorem dX10_ofScholar_25 : decode cX10_ofScholar 25 = .ok (.iconst 1, 1) := by decide +kernel
theorem dX10_ofScholar_26 : decode cX10_ofScholar 26 = .ok (.iload_n 3, 1) := by decide +kernel
theorem dX10_ofScholar_27 : decode cX10_ofScholar 27 = .ok (.ishl, 1) := by decide +kernel
theorem dX10_ofScholar_28 : decode cX10_ofScholar 28 = .ok (.goto 4, 3) := by decide +kernel
theorem dX10_ofScholar_31 : decode cX10_ofScholar 31 = .ok (.iconst 0, 1) := by decide +kernel
theorem dX10_ofScholar_32 : decode cX10_ofScholar 32 = .ok (.ior, 1) := by decide +kernel
theorem dX10_ofScholar_33 : decode cX10_ofScholar 33 = .ok (.istore_n 2, 1) := by decide +kernel
theorem dX10_ofScholar_34 : decode cX10_ofScholar 34 = .ok (.iinc 3 1, 3) := by decide +kernel
theorem dX10_ofScholar_37 : decode cX10_ofScholar 37 = .ok (.goto (-33), 3) := by decide +kernel
theorem dX10_ofScholar_40 : decode cX10_ofScholar 40 = .ok (.iload_n 2, 1) := by decide +kernel
theorem dX10_ofScholar_41 : decode cX10_ofScholar 41 = .ok (.ireturn, 1) := by decide +kernel
theorem dX10_parted_0 : decode cX10_parted 0 = .ok (.aload_n 0, 1) := by decide +kernel
theorem dX10_parted_1 : decode cX10_parted 1 = .ok (.aload_n 0, 1) := by decide +kernel
theorem dX10_parted_2 : decode cX10_parted 2 = .ok (.iconst 0, 1) := by decide +kernel
theorem dX10_parted_3 : decode cX10_parted 3 = .ok (.invokevirtual 195, 3) := by decide +kernel
theorem dX10_parted_6 : decode cX10_parted 6 = .ok (.invokevirtual 183, 3) := by decide +kernel
theorem dX10_parted_9 : decode cX10_parted 9 = .ok (.ifCond .ne 6, 3) := by decide +kernel
theorem dX10_parted_12 : decode cX10_parted 12 = .ok (.bipush (-5), 2) := by decide +kernel
theorem dX10_parted_14 : decode cX10_parted 14 = .ok (.ireturn, 1) := by decide +kernel
theorem dX10_parted_15 : decode cX10_parted 15 = .ok (.iconst 0, 1) := by decide +kernel
theorem dX10_parted_16 : decode cX10_parted 16 = .ok (.istore_n 1, 1) := by decide +kernel
theorem dX10_parted_17 : decode cX10_parted 17 = .ok (.iload_n 1, 1) := by decide +kernel
theorem dX10_parted_18 : decode cX10_parted 18 = .ok (.aload_n 0, 1) := by decide +kernel
theorem dX10_parted_19 : decode cX10_parted 19 = .ok (.getfield 7, 3) := by decide +kernel
theorem dX10_parted_22 : decode cX10_parted 22 = .ok (.iconst 3, 1) := by decide +kernel
theorem dX10_parted_23 : decode cX10_parted 23 = .ok (.iaload, 1) := by decide +kernel
theorem dX10_parted_24 : decode cX10_parted 24 = .ok (.if_icmp .ge 33, 3) := by decide +kernel
theorem dX10_parted_27 : decode cX10_parted 27 = .ok (.aload_n 0, 1) := by decide +kernel
theorem dX10_parted_28 : decode cX10_parted 28 = .ok (.getfield 44, 3) := by decide +kernel
theorem dX10_parted_31 : decode cX10_parted 31 = .ok (.iload_n 1, 1) := by decide +kernel
theorem dX10_parted_32 : decode cX10_parted 32 = .ok (.aload_n 0, 1) := by decide +kernel
theorem dX10_parted_33 : decode cX10_parted 33 = .ok (.getfield 38, 3) := by decide +kernel
theorem dX10_parted_36 : decode cX10_parted 36 = .ok (.iload_n 1, 1) := by decide +kernel
theorem dX10_parted_37 : decode cX10_parted 37 = .ok (.iaload, 1) := by decide +kernel
theorem dX10_parted_38 : decode cX10_parted 38 = .ok (.iastore, 1) := by decide +kernel
theorem dX10_parted_39 : decode cX10_parted 39 = .ok (.aload_n 0, 1) := by decide +kernel
theorem dX10_parted_40 : decode cX10_parted 40 = .ok (.getfield 47, 3) := by decide +kernel
theorem dX10_parted_43 : decode cX10_parted 43 = .ok (.iload_n 1, 1) := by decide +kernel
theorem dX10_parted_44 : decode cX10_parted 44 = .ok (.aload_n 0, 1) := by decide +kernel
theorem dX10_parted_45 : decode cX10_parted 45 = .ok (.getfield 41, 3) := by decide +kernel
theorem dX10_parted_48 : decode cX10_parted 48 = .ok (.iload_n 1, 1) := by decide +kernel
theorem dX10_parted_49 : decode cX10_parted 49 = .ok (.iaload, 1) := by decide +kernel
theorem dX10_parted_50 : decode cX10_parted 50 = .ok (.iastore, 1) := by decide +kernel
theorem dX10_parted_51 : decode cX10_parted 51 = .ok (.iinc 1 1, 3) := by decide +kernel
theorem dX10_parted_54 : decode cX10_parted 54 = .ok (.goto (-37), 3) := by decide +kernel
theorem dX10_parted_57 : decode cX10_parted 57 = .ok (.aload_n 0, 1) := by decide +kernel
theorem dX10_parted_58 : decode cX10_parted 58 = .ok (.aload_n 0, 1) := by decide +kernel
theorem dX10_parted_59 : decode cX10_parted 59 = .ok (.iconst 1, 1) := by decide +kernel
theorem dX10_parted_60 : decode cX10_parted 60 = .ok (.invokevirtual 195, 3) := by decide +kernel
theorem dX10_parted_63 : decode cX10_parted 63 = .ok (.invokevirtual 183, 3) := by decide +kernel
theorem dX10_parted_66 : decode cX10_parted 66 = .ok (.ifCond .ne 6, 3) := by decide +kernel
theorem dX10_parted_69 : decode cX10_parted 69 = .ok (.bipush (-5), 2) := by decide +kernel
theorem dX10_parted_71 : decode cX10_parted 71 = .ok (.ireturn, 1) := by decide +kernel
theorem dX10_parted_72 : decode cX10_parted 72 = .ok (.iconst (-1), 1) := by decide +kernel
theorem dX10_parted_73 : decode cX10_parted 73 = .ok (.istore_n 1, 1) := by decide +kernel
theorem dX10_parted_74 : decode cX10_parted 74 = .ok (.aload_n 0, 1) := by decide +kernel
theorem dX10_parted_75 : decode cX10_parted 75 = .ok (.getfield 7, 3) := by decide +kernel
theorem dX10_parted_78 : decode cX10_parted 78 = .ok (.iconst 3, 1) := by decide +kernel
theorem dX10_parted_79 : decode cX10_parted 79 = .ok (.iaload, 1) := by decide +kernel
theorem dX10_parted_80 : decode cX10_parted 80 = .ok (.iconst 1, 1) := by decide +kernel
theorem dX10_parted_81 : decode cX10_parted 81 = .ok (.isub, 1) := by decide +kernel
theorem dX10_parted_82 : decode cX10_parted 82 = .ok (.istore_n 2, 1) := by decide +kernel
theorem dX10_parted_83 : decode cX10_parted 83 = .ok (.iload_n 2, 1) := by decide +kernel
theorem dX10_parted_84 : decode cX10_parted 84 = .ok (.ifCond .lt 45, 3) := by decide +kernel
theorem dX10_parted_87 : decode cX10_parted 87 = .ok (.aload_n 0, 1) := by decide +kernel
theorem dX10_parted_88 : decode cX10_parted 88 = .ok (.getfield 44, 3) := by decide +kernel
theorem dX10_parted_91 : decode cX10_parted 91 = .ok (.iload_n 2, 1) := by decide +kernel
theorem dX10_parted_92 : decode cX10_parted 92 = .ok (.iaload, 1) := by decide +kernel
theorem dX10_parted_93 : decode cX10_parted 93 = .ok (.aload_n 0, 1) := by decide +kernel
theorem dX10_parted_94 : decode cX10_parted 94 = .ok (.getfield 41, 3) := by decide +kernel
theorem dX10_parted_97 : decode cX10_parted 97 = .ok (.iload_n 2, 1) := by decide +kernel
theorem dX10_parted_98 : decode cX10_parted 98 = .ok (.iaload, 1) := by decide +kernel
theorem dX10_parted_99 : decode cX10_parted 99 = .ok (.if_icmp .gt 18, 3) := by decide +kernel
theorem dX10_parted_102 : decode cX10_parted 102 = .ok (.aload_n 0, 1) := by decide +kernel
theorem dX10_parted_103 : decode cX10_parted 103 = .ok (.getfield 38, 3) := by decide +kernel
theorem dX10_parted_106 : decode cX10_parted 106 = .ok (.iload_n 2, 1) := by decide +kernel
theorem dX10_parted_107 : decode cX10_parted 107 = .ok (.iaload, 1) := by decide +kernel
theorem dX10_parted_108 : decode cX10_parted 108 = .ok (.aload_n 0, 1) := by decide +kernel
theorem dX10_parted_109 : decode cX10_parted 109 = .ok (.getfield 47, 3) := by decide +kernel
theorem dX10_parted_112 : decode cX10_parted 112 = .ok (.iload_n 2, 1) := by decide +kernel
theorem dX10_parted_113 : decode cX10_parted 113 = .ok (.iaload, 1) := by decide +kernel
theorem dX10_parted_114 : decode cX10_parted 114 = .ok (.if_icmp .le 7, 3) := by decide +kernel
theorem dX10_parted_117 : decode cX10_parted 117 = .ok (.iload_n 2, 1) := by decide +kernel
theorem dX10_parted_118 : decode cX10_parted 118 = .ok (.goto 4, 3) := by decide +kernel
theorem dX10_parted_121 : decode cX10_parted 121 = .ok (.iload_n 1, 1) := by decide +kernel
theorem dX10_parted_122 : decode cX10_parted 122 = .ok (.istore_n 1, 1) := by decide +kernel
theorem dX10_parted_123 : decode cX10_parted 123 = .ok (.iinc 2 (-1), 3) := by decide +kernel
theorem dX10_parted_126 : decode cX10_parted 126 = .ok (.goto (-43), 3) := by decide +kernel
theorem dX10_parted_129 : decode cX10_parted 129 = .ok (.iload_n 1, 1) := by decide +kernel
theorem dX10_parted_130 : decode cX10_parted 130 = .ok (.ireturn, 1) := by decide +kernel
theorem dX10_places_0 : decode cX10_places 0 = .ok (.iconst 0, 1) := by decide +kernel
theorem dX10_places_1 : decode cX10_places 1 = .ok (.istore_n 1, 1) := by decide +kernel
theorem dX10_places_2 : decode cX10_places 2 = .ok (.iconst 0, 1) := by decide +kernel
theorem dX10_places_3 : decode cX10_places 3 = .ok (.istore_n 2, 1) := by decide +kernel
theorem dX10_places_4 : decode cX10_places 4 = .ok (.iload_n 2, 1) := by decide +kernel
theorem dX10_places_5 : decode cX10_places 5 = .ok (.aload_n 0, 1) := by decide +kernel
theorem dX10_places_6 : decode cX10_places 6 = .ok (.getfield 7, 3) := by decide +kernel
theorem dX10_places_9 : decode cX10_places 9 = .ok (.iconst 5, 1) := by decide +kernel
theorem dX10_places_10 : decode cX10_places 10 = .ok (.iaload, 1) := by decide +kernel
theorem dX10_places_11 : decode cX10_places 11 = .ok (.if_icmp .ge 32, 3) := by decide +kernel
theorem dX10_places_14 : decode cX10_places 14 = .ok (.iload_n 1, 1) := by decide +kernel
theorem dX10_places_15 : decode cX10_places 15 = .ok (.aload_n 0, 1) := by decide +kernel
theorem dX10_places_16 : decode cX10_places 16 = .ok (.getfield 7, 3) := by decide +kernel
theorem dX10_places_19 : decode cX10_places 19 = .ok (.sipush 370, 3) := by decide +kernel
theorem dX10_places_22 : decode cX10_places 22 = .ok (.iconst 4, 1) := by decide +kernel
theorem dX10_places_23 : decode cX10_places 23 = .ok (.iload_n 2, 1) := by decide +kernel
theorem dX10_places_24 : decode cX10_places 24 = .ok (.imul, 1) := by decide +kernel
theorem dX10_places_25 : decode cX10_places 25 = .ok (.iadd, 1) := by decide +kernel
theorem dX10_places_26 : decode cX10_places 26 = .ok (.iaload, 1) := by decide +kernel
theorem dX10_places_27 : decode cX10_places 27 = .ok (.ifCond .ne 7, 3) := by decide +kernel
theorem dX10_places_30 : decode cX10_places 30 = .ok (.iconst 1, 1) := by decide +kernel
theorem dX10_places_31 : decode cX10_places 31 = .ok (.goto 4, 3) := by decide +kernel
theorem dX10_places_34 : decode cX10_places 34 = .ok (.iconst 0, 1) := by decide +kernel
theorem dX10_places_35 : decode cX10_places 35 = .ok (.iadd, 1) := by decide +kernel
theorem dX10_places_36 : decode cX10_places 36 = .ok (.istore_n 1, 1) := by decide +kernel
theorem dX10_places_37 : decode cX10_places 37 = .ok (.iinc 2 1, 3) := by decide +kernel
theorem dX10_places_40 : decode cX10_places 40 = .ok (.goto (-36), 3) := by decide +kernel
theorem dX10_places_43 : decode cX10_places 43 = .ok (.iload_n 1, 1) := by decide +kernel
theorem dX10_places_44 : decode cX10_places 44 = .ok (.ireturn, 1) := by decide +kernel
theorem dX10_sign_0 : decode cX10_sign 0 = .ok (.iload_n 1, 1) := by decide +kernel
theorem dX10_sign_1 : decode cX10_sign 1 = .ok (.i2l, 1) := by decide +kernel
theorem dX10_sign_2 : decode cX10_sign 2 = .ok (.lconst 0, 1) := by decide +kernel
theorem dX10_sign_3 : decode cX10_sign 3 = .ok (.ldc2_w 65, 3) := by decide +kernel
theorem dX10_sign_6 : decode cX10_sign 6 = .ok (.invokestatic 67, 3) := by decide +kernel
theorem dX10_sign_9 : decode cX10_sign 9 = .ok (.ifCond .eq 40, 3) := by decide +kernel
theorem dX10_sign_12 : decode cX10_sign 12 = .ok (.iload_n 2, 1) := by decide +kernel
theorem dX10_sign_13 : decode cX10_sign 13 = .ok (.i2l, 1) := by decide +kernel
theorem dX10_sign_14 : decode cX10_sign 14 = .ok (.lconst 0, 1) := by decide +kernel
theorem dX10_sign_15 : decode cX10_sign 15 = .ok (.ldc2_w 127, 3) := by decide +kernel
theorem dX10_sign_18 : decode cX10_sign 18 = .ok (.invokestatic 67, 3) := by decide +kernel
theorem dX10_sign_21 : decode cX10_sign 21 = .ok (.ifCond .eq 28, 3) := by decide +kernel
theorem dX10_sign_24 : decode cX10_sign 24 = .ok (.iload 4, 2) := by decide +kernel
theorem dX10_sign_26 : decode cX10_sign 26 = .ok (.i2l, 1) := by decide +kernel
theorem dX10_sign_27 : decode cX10_sign 27 = .ok (.lconst 0, 1) := by decide +kernel
theorem dX10_sign_28 : decode cX10_sign 28 = .ok (.ldc2_w 198, 3) := by decide +kernel
theorem dX10_sign_31 : decode cX10_sign 31 = .ok (.invokestatic 67, 3) := by decide +kernel
theorem dX10_sign_34 : decode cX10_sign 34 = .ok (.ifCond .eq 15, 3) := by decide +kernel
theorem dX10_sign_37 : decode cX10_sign 37 = .ok (.iload_n 3, 1) := by decide +kernel
theorem dX10_sign_38 : decode cX10_sign 38 = .ok (.i2l, 1) := by decide +kernel
theorem dX10_sign_39 : decode cX10_sign 39 = .ok (.lconst 0, 1) := by decide +kernel
theorem dX10_sign_40 : decode cX10_sign 40 = .ok (.iload 4, 2) := by decide +kernel
theorem dX10_sign_42 : decode cX10_sign 42 = .ok (.i2l, 1) := by decide +kernel
theorem dX10_sign_43 : decode cX10_sign 43 = .ok (.invokestatic 67, 3) := by decide +kernel
theorem dX10_sign_46 : decode cX10_sign 46 = .ok (.ifCond .ne 6, 3) := by decide +kernel
theorem dX10_sign_49 : decode cX10_sign 49 = .ok (.bipush (-2), 2) := by decide +kernel
theorem dX10_sign_51 : decode cX10_sign 51 = .ok (.ireturn, 1) := by decide +kernel
theorem dX10_sign_52 : decode cX10_sign 52 = .ok (.aload_n 0, 1) := by decide +kernel
theorem dX10_sign_53 : decode cX10_sign 53 = .ok (.getfield 7, 3) := by decide +kernel
theorem dX10_sign_56 : decode cX10_sign 56 = .ok (.iconst 5, 1) := by decide +kernel
theorem dX10_sign_57 : decode cX10_sign 57 = .ok (.iaload, 1) := by decide +kernel
theorem dX10_sign_58 : decode cX10_sign 58 = .ok (.bipush 10, 2) := by decide +kernel
theorem dX10_sign_60 : decode cX10_sign 60 = .ok (.if_icmp .eq 15, 3) := by decide +kernel
theorem dX10_sign_63 : decode cX10_sign 63 = .ok (.iload_n 1, 1) := by decide +kernel
theorem dX10_sign_64 : decode cX10_sign 64 = .ok (.ifCond .ne 14, 3) := by decide +kernel
theorem dX10_sign_67 : decode cX10_sign 67 = .ok (.aload_n 0, 1) := by decide +kernel
theorem dX10_sign_68 : decode cX10_sign 68 = .ok (.invokevirtual 200, 3) := by decide +kernel
theorem dX10_sign_71 : decode cX10_sign 71 = .ok (.iconst 5, 1) := by decide +kernel
theorem dX10_sign_72 : decode cX10_sign 72 = .ok (.if_icmp .ne 6, 3) := by decide +kernel
theorem dX10_sign_75 : decode cX10_sign 75 = .ok (.bipush (-4), 2) := by decide +kernel
theorem dX10_sign_77 : decode cX10_sign 77 = .ok (.ireturn, 1) := by decide +kernel
theorem dX10_sign_78 : decode cX10_sign 78 = .ok (.sipush 370, 3) := by decide +kernel
theorem dX10_sign_81 : decode cX10_sign 81 = .ok (.iconst 4, 1) := by decide +kernel
theorem dX10_sign_82 : decode cX10_sign 82 = .ok (.aload_n 0, 1) := by decide +kernel
theorem dX10_sign_83 : decode cX10_sign 83 = .ok (.getfield 7, 3) := by decide +kernel
theorem dX10_sign_86 : decode cX10_sign 86 = .ok (.iconst 5, 1) := by decide +kernel
theorem dX10_sign_87 : decode cX10_sign 87 = .ok (.iaload, 1) := by decide +kernel
theorem dX10_sign_88 : decode cX10_sign 88 = .ok (.imul, 1) := by decide +kernel
theorem dX10_sign_89 : decode cX10_sign 89 = .ok (.iadd, 1) := by decide +kernel
theorem dX10_sign_90 : decode cX10_sign 90 = .ok (.istore 5, 2) := by decide +kernel
theorem dX10_sign_92 : decode cX10_sign 92 = .ok (.aload_n 0, 1) := by decide +kernel
theorem dX10_sign_93 : decode cX10_sign 93 = .ok (.getfield 7, 3) := by decide +kernel
theorem dX10_sign_96 : decode cX10_sign 96 = .ok (.iload 5, 2) := by decide +kernel
theorem dX10_sign_98 : decode cX10_sign 98 = .ok (.iload_n 1, 1) := by decide +kernel
theorem dX10_sign_99 : decode cX10_sign 99 = .ok (.iastore, 1) := by decide +kernel
theorem dX10_sign_100 : decode cX10_sign 100 = .ok (.aload_n 0, 1) := by decide +kernel
theorem dX10_sign_101 : decode cX10_sign 101 = .ok (.getfield 7, 3) := by decide +kernel
theorem dX10_sign_104 : decode cX10_sign 104 = .ok (.iload 5, 2) := by decide +kernel
theorem dX10_sign_106 : decode cX10_sign 106 = .ok (.iconst 1, 1) := by decide +kernel
theorem dX10_sign_107 : decode cX10_sign 107 = .ok (.iadd, 1) := by decide +kernel
theorem dX10_sign_108 : decode cX10_sign 108 = .ok (.iload_n 2, 1) := by decide +kernel
theorem dX10_sign_109 : decode cX10_sign 109 = .ok (.iastore, 1) := by decide +kernel
theorem dX10_sign_110 : decode cX10_sign 110 = .ok (.aload_n 0, 1) := by decide +kernel
theorem dX10_sign_111 : decode cX10_sign 111 = .ok (.getfield 7, 3) := by decide +kernel
theorem dX10_sign_114 : decode cX10_sign 114 = .ok (.iload 5, 2) := by decide +kernel
theorem dX10_sign_116 : decode cX10_sign 116 = .ok (.iconst 2, 1) := by decide +kernel
theorem dX10_sign_117 : decode cX10_sign 117 = .ok (.iadd, 1) := by decide +kernel
theorem dX10_sign_118 : decode cX10_sign 118 = .ok (.iload_n 3, 1) := by decide +kernel
theorem dX10_sign_119 : decode cX10_sign 119 = .ok (.iastore, 1) := by decide +kernel
theorem dX10_sign_120 : decode cX10_sign 120 = .ok (.aload_n 0, 1) := by decide +kernel
theorem dX10_sign_121 : decode cX10_sign 121 = .ok (.getfield 7, 3) := by decide +kernel
theorem dX10_sign_124 : decode cX10_sign 124 = .ok (.iload 5, 2) := by decide +kernel
theorem dX10_sign_126 : decode cX10_sign 126 = .ok (.iconst 3, 1) := by decide +kernel
theorem dX10_sign_127 : decode cX10_sign 127 = .ok (.iadd, 1) := by decide +kernel
theorem dX10_sign_128 : decode cX10_sign 128 = .ok (.iload 4, 2) := by decide +kernel
theorem dX10_sign_130 : decode cX10_sign 130 = .ok (.iastore, 1) := by decide +kernel
theorem dX10_sign_131 : decode cX10_sign 131 = .ok (.aload_n 0, 1) := by decide +kernel
theorem dX10_sign_132 : decode cX10_sign 132 = .ok (.getfield 7, 3) := by decide +kernel
theorem dX10_sign_135 : decode cX10_sign 135 = .ok (.iconst 5, 1) := by decide +kernel
theorem dX10_sign_136 : decode cX10_sign 136 = .ok (.dup2, 1) := by decide +kernel
theorem dX10_sign_137 : decode cX10_sign 137 = .ok (.iaload, 1) := by decide +kernel
theorem dX10_sign_138 : decode cX10_sign 138 = .ok (.iconst 1, 1) := by decide +kernel
theorem dX10_sign_139 : decode cX10_sign 139 = .ok (.iadd, 1) := by decide +kernel
theorem dX10_sign_140 : decode cX10_sign 140 = .ok (.iastore, 1) := by decide +kernel
theorem dX10_sign_141 : decode cX10_sign 141 = .ok (.aload_n 0, 1) := by decide +kernel
theorem dX10_sign_142 : decode cX10_sign 142 = .ok (.getfield 7, 3) := by decide +kernel
theorem dX10_sign_145 : decode cX10_sign 145 = .ok (.iconst 5, 1) := by decide +kernel
theorem dX10_sign_146 : decode cX10_sign 146 = .ok (.iaload, 1) := by decide +kernel
theorem dX10_sign_147 : decode cX10_sign 147 = .ok (.iconst 1, 1) := by decide +kernel
theorem dX10_sign_148 : decode cX10_sign 148 = .ok (.isub, 1) := by decide +kernel
theorem dX10_sign_149 : decode cX10_sign 149 = .ok (.ireturn, 1) := by decide +kernel
theorem dX10_bearsYear_0 : decode cX10_bearsYear 0 = .ok (.iconst 1, 1) := by decide +kernel
theorem dX10_bearsYear_1 : decode cX10_bearsYear 1 = .ok (.istore_n 3, 1) := by decide +kernel
theorem dX10_bearsYear_2 : decode cX10_bearsYear 2 = .ok (.iconst 1, 1) := by decide +kernel
theorem dX10_bearsYear_3 : decode cX10_bearsYear 3 = .ok (.istore 4, 2) := by decide +kernel
theorem dX10_bearsYear_5 : decode cX10_bearsYear 5 = .ok (.aload_n 0, 1) := by decide +kernel
theorem dX10_bearsYear_6 : decode cX10_bearsYear 6 = .ok (.iconst 0, 1) := by decide +kernel
theorem dX10_bearsYear_7 : decode cX10_bearsYear 7 = .ok (.putfield 203, 3) := by decide +kernel
theorem dX10_bearsYear_10 : decode cX10_bearsYear 10 = .ok (.iconst 0, 1) := by decide +kernel
theorem dX10_bearsYear_11 : decode cX10_bearsYear 11 = .ok (.istore 5, 2) := by decide +kernel
theorem dX10_bearsYear_13 : decode cX10_bearsYear 13 = .ok (.iload 5, 2) := by decide +kernel
theorem dX10_bearsYear_15 : decode cX10_bearsYear 15 = .ok (.aload_n 0, 1) := by decide +kernel
theorem dX10_bearsYear_16 : decode cX10_bearsYear 16 = .ok (.getfield 7, 3) := by decide +kernel
theorem dX10_bearsYear_19 : decode cX10_bearsYear 19 = .ok (.iconst 5, 1) := by decide +kernel
theorem dX10_bearsYear_20 : decode cX10_bearsYear 20 = .ok (.iaload, 1) := by decide +kernel
theorem dX10_bearsYear_21 : decode cX10_bearsYear 21 = .ok (.if_icmp .ge 160, 3) := by decide +kernel
theorem dX10_bearsYear_24 : decode cX10_bearsYear 24 = .ok (.sipush 370, 3) := by decide +kernel
theorem dX10_bearsYear_27 : decode cX10_bearsYear 27 = .ok (.iconst 4, 1) := by decide +kernel
theorem dX10_bearsYear_28 : decode cX10_bearsYear 28 = .ok (.iload 5, 2) := by decide +kernel
theorem dX10_bearsYear_30 : decode cX10_bearsYear 30 = .ok (.imul, 1) := by decide +kernel
theorem dX10_bearsYear_31 : decode cX10_bearsYear 31 = .ok (.iadd, 1) := by decide +kernel
theorem dX10_bearsYear_32 : decode cX10_bearsYear 32 = .ok (.istore 6, 2) := by decide +kernel
theorem dX10_bearsYear_34 : decode cX10_bearsYear 34 = .ok (.iload_n 1, 1) := by decide +kernel
theorem dX10_bearsYear_35 : decode cX10_bearsYear 35 = .ok (.aload_n 0, 1) := by decide +kernel
theorem dX10_bearsYear_36 : decode cX10_bearsYear 36 = .ok (.getfield 7, 3) := by decide +kernel
theorem dX10_bearsYear_39 : decode cX10_bearsYear 39 = .ok (.iload 6, 2) := by decide +kernel
theorem dX10_bearsYear_41 : decode cX10_bearsYear 41 = .ok (.iconst 2, 1) := by decide +kernel
theorem dX10_bearsYear_42 : decode cX10_bearsYear 42 = .ok (.iadd, 1) := by decide +kernel
theorem dX10_bearsYear_43 : decode cX10_bearsYear 43 = .ok (.iaload, 1) := by decide +kernel
theorem dX10_bearsYear_44 : decode cX10_bearsYear 44 = .ok (.if_icmp .lt 20, 3) := by decide +kernel
theorem dX10_bearsYear_47 : decode cX10_bearsYear 47 = .ok (.iload_n 1, 1) := by decide +kernel
theorem dX10_bearsYear_48 : decode cX10_bearsYear 48 = .ok (.aload_n 0, 1) := by decide +kernel
theorem dX10_bearsYear_49 : decode cX10_bearsYear 49 = .ok (.getfield 7, 3) := by decide +kernel
theorem dX10_bearsYear_52 : decode cX10_bearsYear 52 = .ok (.iload 6, 2) := by decide +kernel
theorem dX10_bearsYear_54 : decode cX10_bearsYear 54 = .ok (.iconst 3, 1) := by decide +kernel
theorem dX10_bearsYear_55 : decode cX10_bearsYear 55 = .ok (.iadd, 1) := by decide +kernel
theorem dX10_bearsYear_56 : decode cX10_bearsYear 56 = .ok (.iaload, 1) := by decide +kernel
theorem dX10_bearsYear_57 : decode cX10_bearsYear 57 = .ok (.if_icmp .gt 7, 3) := by decide +kernel
theorem dX10_bearsYear_60 : decode cX10_bearsYear 60 = .ok (.iconst 1, 1) := by decide +kernel
theorem dX10_bearsYear_61 : decode cX10_bearsYear 61 = .ok (.goto 4, 3) := by decide +kernel
theorem dX10_bearsYear_64 : decode cX10_bearsYear 64 = .ok (.iconst 0, 1) := by decide +kernel
theorem dX10_bearsYear_65 : decode cX10_bearsYear 65 = .ok (.istore 7, 2) := by decide +kernel
theorem dX10_bearsYear_67 : decode cX10_bearsYear 67 = .ok (.aload_n 0, 1) := by decide +kernel
theorem dX10_bearsYear_68 : decode cX10_bearsYear 68 = .ok (.getfield 7, 3) := by decide +kernel
theorem dX10_bearsYear_71 : decode cX10_bearsYear 71 = .ok (.iload 6, 2) := by decide +kernel
theorem dX10_bearsYear_73 : decode cX10_bearsYear 73 = .ok (.iaload, 1) := by decide +kernel
theorem dX10_bearsYear_74 : decode cX10_bearsYear 74 = .ok (.istore 8, 2) := by decide +kernel
theorem dX10_bearsYear_76 : decode cX10_bearsYear 76 = .ok (.iload_n 3, 1) := by decide +kernel
theorem dX10_bearsYear_77 : decode cX10_bearsYear 77 = .ok (.ifCond .eq 52, 3) := by decide +kernel
theorem dX10_bearsYear_80 : decode cX10_bearsYear 80 = .ok (.iload 7, 2) := by decide +kernel
theorem dX10_bearsYear_82 : decode cX10_bearsYear 82 = .ok (.ifCond .eq 43, 3) := by decide +kernel
theorem dX10_bearsYear_85 : decode cX10_bearsYear 85 = .ok (.iload 8, 2) := by decide +kernel
theorem dX10_bearsYear_87 : decode cX10_bearsYear 87 = .ok (.ifCond .eq 38, 3) := by decide +kernel
theorem dX10_bearsYear_90 : decode cX10_bearsYear 90 = .ok (.iload 8, 2) := by decide +kernel
theorem dX10_bearsYear_92 : decode cX10_bearsYear 92 = .ok (.iconst 1, 1) := by decide +kernel
theorem dX10_bearsYear_93 : decode cX10_bearsYear 93 = .ok (.if_icmp .ne 19, 3) := by decide +kernel
theorem dX10_bearsYear_96 : decode cX10_bearsYear 96 = .ok (.iload_n 2, 1) := by decide +kernel
theorem dX10_bearsYear_97 : decode cX10_bearsYear 97 = .ok (.aload_n 0, 1) := by decide +kernel
theorem dX10_bearsYear_98 : decode cX10_bearsYear 98 = .ok (.getfield 7, 3) := by decide +kernel
theorem dX10_bearsYear_101 : decode cX10_bearsYear 101 = .ok (.iload 6, 2) := by decide +kernel
theorem dX10_bearsYear_103 : decode cX10_bearsYear 103 = .ok (.iconst 1, 1) := by decide +kernel
theorem dX10_bearsYear_104 : decode cX10_bearsYear 104 = .ok (.iadd, 1) := by decide +kernel
theorem dX10_bearsYear_105 : decode cX10_bearsYear 105 = .ok (.iaload, 1) := by decide +kernel
theorem dX10_bearsYear_106 : decode cX10_bearsYear 106 = .ok (.if_icmp .gt 23, 3) := by decide +kernel
theorem dX10_bearsYear_109 : decode cX10_bearsYear 109 = .ok (.goto 16, 3) := by decide +kernel
theorem dX10_bearsYear_112 : decode cX10_bearsYear 112 = .ok (.iload_n 2, 1) := by decide +kernel
theorem dX10_bearsYear_113 : decode cX10_bearsYear 113 = .ok (.aload_n 0, 1) := by decide +kernel
theorem dX10_bearsYear_114 : decode cX10_bearsYear 114 = .ok (.getfield 7, 3) := by decide +kernel
theorem dX10_bearsYear_117 : decode cX10_bearsYear 117 = .ok (.iload 6, 2) := by decide +kernel
theorem dX10_bearsYear_119 : decode cX10_bearsYear 119 = .ok (.iconst 1, 1) := by decide +kernel
theorem dX10_bearsYear_120 : decode cX10_bearsYear 120 = .ok (.iadd, 1) := by decide +kernel
theorem dX10_bearsYear_121 : decode cX10_bearsYear 121 = .ok (.iaload, 1) := by decide +kernel
theorem dX10_bearsYear_122 : decode cX10_bearsYear 122 = .ok (.if_icmp .lt 7, 3) := by decide +kernel
theorem dX10_bearsYear_125 : decode cX10_bearsYear 125 = .ok (.iconst 1, 1) := by decide +kernel
theorem dX10_bearsYear_126 : decode cX10_bearsYear 126 = .ok (.goto 4, 3) := by decide +kernel
theorem dX10_bearsYear_129 : decode cX10_bearsYear 129 = .ok (.iconst 0, 1) := by decide +kernel
theorem dX10_bearsYear_130 : decode cX10_bearsYear 130 = .ok (.istore_n 3, 1) := by decide +kernel
theorem dX10_bearsYear_131 : decode cX10_bearsYear 131 = .ok (.iload 8, 2) := by decide +kernel
theorem dX10_bearsYear_133 : decode cX10_bearsYear 133 = .ok (.ifCond .ne 42, 3) := by decide +kernel
theorem dX10_bearsYear_136 : decode cX10_bearsYear 136 = .ok (.aload_n 0, 1) := by decide +kernel
theorem dX10_bearsYear_137 : decode cX10_bearsYear 137 = .ok (.dup, 1) := by decide +kernel
theorem dX10_bearsYear_138 : decode cX10_bearsYear 138 = .ok (.getfield 203, 3) := by decide +kernel
theorem dX10_bearsYear_141 : decode cX10_bearsYear 141 = .ok (.iload 7, 2) := by decide +kernel
theorem dX10_bearsYear_143 : decode cX10_bearsYear 143 = .ok (.ifCond .eq 21, 3) := by decide +kernel
theorem dX10_bearsYear_146 : decode cX10_bearsYear 146 = .ok (.iload_n 2, 1) := by decide +kernel
theorem dX10_bearsYear_147 : decode cX10_bearsYear 147 = .ok (.aload_n 0, 1) := by decide +kernel
theorem dX10_bearsYear_148 : decode cX10_bearsYear 148 = .ok (.getfield 7, 3) := by decide +kernel
theorem dX10_bearsYear_151 : decode cX10_bearsYear 151 = .ok (.iload 6, 2) := by decide +kernel
theorem dX10_bearsYear_153 : decode cX10_bearsYear 153 = .ok (.iconst 1, 1) := by decide +kernel
theorem dX10_bearsYear_154 : decode cX10_bearsYear 154 = .ok (.iadd, 1) := by decide +kernel
theorem dX10_bearsYear_155 : decode cX10_bearsYear 155 = .ok (.iaload, 1) := by decide +kernel
theorem dX10_bearsYear_156 : decode cX10_bearsYear 156 = .ok (.if_icmp .ne 8, 3) := by decide +kernel
theorem dX10_bearsYear_159 : decode cX10_bearsYear 159 = .ok (.iload 4, 2) := by decide +kernel
theorem dX10_bearsYear_161 : decode cX10_bearsYear 161 = .ok (.goto 4, 3) := by decide +kernel
theorem dX10_bearsYear_164 : decode cX10_bearsYear 164 = .ok (.iconst 0, 1) := by decide +kernel
theorem dX10_bearsYear_165 : decode cX10_bearsYear 165 = .ok (.ior, 1) := by decide +kernel
theorem dX10_bearsYear_166 : decode cX10_bearsYear 166 = .ok (.putfield 203, 3) := by decide +kernel
theorem dX10_bearsYear_169 : decode cX10_bearsYear 169 = .ok (.iload 4, 2) := by decide +kernel
theorem dX10_bearsYear_171 : decode cX10_bearsYear 171 = .ok (.iconst 2, 1) := by decide +kernel
theorem dX10_bearsYear_172 : decode cX10_bearsYear 172 = .ok (.imul, 1) := by decide +kernel
theorem dX10_bearsYear_173 : decode cX10_bearsYear 173 = .ok (.istore 4, 2) := by decide +kernel
theorem dX10_bearsYear_175 : decode cX10_bearsYear 175 = .ok (.iinc 5 1, 3) := by decide +kernel
theorem dX10_bearsYear_178 : decode cX10_bearsYear 178 = .ok (.goto (-165), 3) := by decide +kernel
theorem dX10_bearsYear_181 : decode cX10_bearsYear 181 = .ok (.iload_n 3, 1) := by decide +kernel
theorem dX10_bearsYear_182 : decode cX10_bearsYear 182 = .ok (.ireturn, 1) := by decide +kernel
theorem dX10_wayAt_0 : decode cX10_wayAt 0 = .ok (.bipush 21, 2) := by decide +kernel
theorem dX10_wayAt_2 : decode cX10_wayAt 2 = .ok (.iload_n 1, 1) := by decide +kernel
theorem dX10_wayAt_3 : decode cX10_wayAt 3 = .ok (.imul, 1) := by decide +kernel
theorem dX10_wayAt_4 : decode cX10_wayAt 4 = .ok (.iload_n 2, 1) := by decide +kernel
theorem dX10_wayAt_5 : decode cX10_wayAt 5 = .ok (.iadd, 1) := by decide +kernel
theorem dX10_wayAt_6 : decode cX10_wayAt 6 = .ok (.bipush 32, 2) := by decide +kernel
theorem dX10_wayAt_8 : decode cX10_wayAt 8 = .ok (.imul, 1) := by decide +kernel
theorem dX10_wayAt_9 : decode cX10_wayAt 9 = .ok (.iload_n 3, 1) := by decide +kernel
theorem dX10_wayAt_10 : decode cX10_wayAt 10 = .ok (.iadd, 1) := by decide +kernel
theorem dX10_wayAt_11 : decode cX10_wayAt 11 = .ok (.ireturn, 1) := by decide +kernel
theorem dX10_onFrom_0 : decode cX10_onFrom 0 = .ok (.iload_n 1, 1) := by decide +kernel
theorem dX10_onFrom_1 : decode cX10_onFrom 1 = .ok (.bipush 39, 2) := by decide +kernel
theorem dX10_onFrom_3 : decode cX10_onFrom 3 = .ok (.if_icmp .ne 16, 3) := by decide +kernel
theorem dX10_onFrom_6 : decode cX10_onFrom 6 = .ok (.iload_n 3, 1) := by decide +kernel
theorem dX10_onFrom_7 : decode cX10_onFrom 7 = .ok (.iload 4, 2) := by decide +kernel
theorem dX10_onFrom_9 : decode cX10_onFrom 9 = .ok (.if_icmp .ne 7, 3) := by decide +kernel
theorem dX10_onFrom_12 : decode cX10_onFrom 12 = .ok (.iconst 0, 1) := by decide +kernel
theorem dX10_onFrom_13 : decode cX10_onFrom 13 = .ok (.goto 5, 3) := by decide +kernel
theorem dX10_onFrom_16 : decode cX10_onFrom 16 = .ok (.ldc 107, 2) := by decide +kernel
theorem dX10_onFrom_18 : decode cX10_onFrom 18 = .ok (.ireturn, 1) := by decide +kernel
theorem dX10_onFrom_19 : decode cX10_onFrom 19 = .ok (.ldc 107, 2) := by decide +kernel
theorem dX10_onFrom_21 : decode cX10_onFrom 21 = .ok (.istore 5, 2) := by decide +kernel
theorem dX10_onFrom_23 : decode cX10_onFrom 23 = .ok (.iconst 0, 1) := by decide +kernel
theorem dX10_onFrom_24 : decode cX10_onFrom 24 = .ok (.istore 6, 2) := by decide +kernel
theorem dX10_onFrom_26 : decode cX10_onFrom 26 = .ok (.iload 6, 2) := by decide +kernel
theorem dX10_onFrom_28 : decode cX10_onFrom 28 = .ok (.bipush 21, 2) := by decide +kernel
theorem dX10_onFrom_30 : decode cX10_onFrom 30 = .ok (.if_icmp .ge 81, 3) := by decide +kernel
theorem dX10_onFrom_33 : decode cX10_onFrom 33 = .ok (.iload 6, 2) := by decide +kernel
theorem dX10_onFrom_35 : decode cX10_onFrom 35 = .ok (.iload_n 2, 1) := by decide +kernel
theorem dX10_onFrom_36 : decode cX10_onFrom 36 = .ok (.if_icmp .le 10, 3) := by decide +kernel
theorem dX10_onFrom_39 : decode cX10_onFrom 39 = .ok (.iload 6, 2) := by decide +kernel
theorem dX10_onFrom_41 : decode cX10_onFrom 41 = .ok (.iload_n 2, 1) := by decide +kernel
theorem dX10_onFrom_42 : decode cX10_onFrom 42 = .ok (.isub, 1) := by decide +kernel
theorem dX10_onFrom_43 : decode cX10_onFrom 43 = .ok (.goto 7, 3) := by decide +kernel
theorem dX10_onFrom_46 : decode cX10_onFrom 46 = .ok (.iload_n 2, 1) := by decide +kernel
theorem dX10_onFrom_47 : decode cX10_onFrom 47 = .ok (.iload 6, 2) := by decide +kernel
theorem dX10_onFrom_49 : decode cX10_onFrom 49 = .ok (.isub, 1) := by decide +kernel
theorem dX10_onFrom_50 : decode cX10_onFrom 50 = .ok (.istore 7, 2) := by decide +kernel
theorem dX10_onFrom_52 : decode cX10_onFrom 52 = .ok (.iload 7, 2) := by decide +kernel
theorem dX10_onFrom_54 : decode cX10_onFrom 54 = .ok (.aload_n 0, 1) := by decide +kernel
theorem dX10_onFrom_55 : decode cX10_onFrom 55 = .ok (.getfield 7, 3) := by decide +kernel
theorem dX10_onFrom_58 : decode cX10_onFrom 58 = .ok (.bipush 7, 2) := by decide +kernel
theorem dX10_onFrom_60 : decode cX10_onFrom 60 = .ok (.iaload, 1) := by decide +kernel
theorem dX10_onFrom_61 : decode cX10_onFrom 61 = .ok (.if_icmp .gt 24, 3) := by decide +kernel
theorem dX10_onFrom_64 : decode cX10_onFrom 64 = .ok (.iload 7, 2) := by decide +kernel
theorem dX10_onFrom_66 : decode cX10_onFrom 66 = .ok (.aload_n 0, 1) := by decide +kernel
theorem dX10_onFrom_67 : decode cX10_onFrom 67 = .ok (.getfield 50, 3) := by decide +kernel
theorem dX10_onFrom_70 : decode cX10_onFrom 70 = .ok (.aload_n 0, 1) := by decide +kernel
theorem dX10_onFrom_71 : decode cX10_onFrom 71 = .ok (.iload_n 1, 1) := by decide +kernel
theorem dX10_onFrom_72 : decode cX10_onFrom 72 = .ok (.iconst 1, 1) := by decide +kernel
theorem dX10_onFrom_73 : decode cX10_onFrom 73 = .ok (.iadd, 1) := by decide +kernel
theorem dX10_onFrom_74 : decode cX10_onFrom 74 = .ok (.iload 6, 2) := by decide +kernel
theorem dX10_onFrom_76 : decode cX10_onFrom 76 = .ok (.iload_n 3, 1) := by decide +kernel
theorem dX10_onFrom_77 : decode cX10_onFrom 77 = .ok (.invokevirtual 206, 3) := by decide +kernel
theorem dX10_onFrom_80 : decode cX10_onFrom 80 = .ok (.iaload, 1) := by decide +kernel
theorem dX10_onFrom_81 : decode cX10_onFrom 81 = .ok (.iadd, 1) := by decide +kernel
theorem dX10_onFrom_82 : decode cX10_onFrom 82 = .ok (.goto 5, 3) := by decide +kernel
theorem dX10_onFrom_85 : decode cX10_onFrom 85 = .ok (.ldc 107, 2) := by decide +kernel
theorem dX10_onFrom_87 : decode cX10_onFrom 87 = .ok (.istore 8, 2) := by decide +kernel
theorem dX10_onFrom_89 : decode cX10_onFrom 89 = .ok (.iload 8, 2) := by decide +kernel
theorem dX10_onFrom_91 : decode cX10_onFrom 91 = .ok (.iload 5, 2) := by decide +kernel
theorem dX10_onFrom_93 : decode cX10_onFrom 93 = .ok (.if_icmp .ge 8, 3) := by decide +kernel
theorem dX10_onFrom_96 : decode cX10_onFrom 96 = .ok (.iload 8, 2) := by decide +kernel
theorem dX10_onFrom_98 : decode cX10_onFrom 98 = .ok (.goto 5, 3) := by decide +kernel
theorem dX10_onFrom_101 : decode cX10_onFrom 101 = .ok (.iload 5, 2) := by decide +kernel
theorem dX10_onFrom_103 : decode cX10_onFrom 103 = .ok (.istore 5, 2) := by decide +kernel
theorem dX10_onFrom_105 : decode cX10_onFrom 105 = .ok (.iinc 6 1, 3) := by decide +kernel
theorem dX10_onFrom_108 : decode cX10_onFrom 108 = .ok (.goto (-82), 3) := by decide +kernel
theorem dX10_onFrom_111 : decode cX10_onFrom 111 = .ok (.iload 5, 2) := by decide +kernel
theorem dX10_onFrom_113 : decode cX10_onFrom 113 = .ok (.ireturn, 1) := by decide +kernel
theorem dX10_travels_0 : decode cX10_travels 0 = .ok (.iconst 1, 1) := by decide +kernel
theorem dX10_travels_1 : decode cX10_travels 1 = .ok (.aload_n 0, 1) := by decide +kernel
theorem dX10_travels_2 : decode cX10_travels 2 = .ok (.invokevirtual 200, 3) := by decide +kernel
theorem dX10_travels_5 : decode cX10_travels 5 = .ok (.ishl, 1) := by decide +kernel
theorem dX10_travels_6 : decode cX10_travels 6 = .ok (.iconst 1, 1) := by decide +kernel
theorem dX10_travels_7 : decode cX10_travels 7 = .ok (.isub, 1) := by decide +kernel
theorem dX10_travels_8 : decode cX10_travels 8 = .ok (.istore_n 1, 1) := by decide +kernel
theorem dX10_travels_9 : decode cX10_travels 9 = .ok (.bipush 39, 2) := by decide +kernel
theorem dX10_travels_11 : decode cX10_travels 11 = .ok (.istore_n 2, 1) := by decide +kernel
theorem dX10_travels_12 : decode cX10_travels 12 = .ok (.iload_n 2, 1) := by decide +kernel
theorem dX10_travels_13 : decode cX10_travels 13 = .ok (.ifCond .lt 87, 3) := by decide +kernel
theorem dX10_travels_16 : decode cX10_travels 16 = .ok (.iconst 0, 1) := by decide +kernel
theorem dX10_travels_17 : decode cX10_travels 17 = .ok (.istore_n 3, 1) := by decide +kernel
theorem dX10_travels_18 : decode cX10_travels 18 = .ok (.iload_n 3, 1) := by decide +kernel
theorem dX10_travels_19 : decode cX10_travels 19 = .ok (.bipush 21, 2) := by decide +kernel
theorem dX10_travels_21 : decode cX10_travels 21 = .ok (.if_icmp .ge 73, 3) := by decide +kernel
theorem dX10_travels_24 : decode cX10_travels 24 = .ok (.aload_n 0, 1) := by decide +kernel
theorem dX10_travels_25 : decode cX10_travels 25 = .ok (.iload_n 2, 1) := by decide +kernel
theorem dX10_travels_26 : decode cX10_travels 26 = .ok (.iload_n 3, 1) := by decide +kernel
theorem dX10_travels_27 : decode cX10_travels 27 = .ok (.invokevirtual 210, 3) := by decide +kernel
theorem dX10_travels_30 : decode cX10_travels 30 = .ok (.istore 4, 2) := by decide +kernel
theorem dX10_travels_32 : decode cX10_travels 32 = .ok (.aload_n 0, 1) := by decide +kernel
theorem dX10_travels_33 : decode cX10_travels 33 = .ok (.getfield 203, 3) := by decide +kernel
theorem dX10_travels_36 : decode cX10_travels 36 = .ok (.istore 5, 2) := by decide +kernel
theorem dX10_travels_38 : decode cX10_travels 38 = .ok (.iconst 0, 1) := by decide +kernel
theorem dX10_travels_39 : decode cX10_travels 39 = .ok (.istore 6, 2) := by decide +kernel
theorem dX10_travels_41 : decode cX10_travels 41 = .ok (.iload 6, 2) := by decide +kernel
theorem dX10_travels_43 : decode cX10_travels 43 = .ok (.iload_n 1, 1) := by decide +kernel
theorem dX10_travels_44 : decode cX10_travels 44 = .ok (.if_icmp .gt 44, 3) := by decide +kernel
theorem dX10_travels_47 : decode cX10_travels 47 = .ok (.aload_n 0, 1) := by decide +kernel
theorem dX10_travels_48 : decode cX10_travels 48 = .ok (.getfield 50, 3) := by decide +kernel
theorem dX10_travels_51 : decode cX10_travels 51 = .ok (.aload_n 0, 1) := by decide +kernel
theorem dX10_travels_52 : decode cX10_travels 52 = .ok (.iload_n 2, 1) := by decide +kernel
theorem dX10_travels_53 : decode cX10_travels 53 = .ok (.iload_n 3, 1) := by decide +kernel
theorem dX10_travels_54 : decode cX10_travels 54 = .ok (.iload 6, 2) := by decide +kernel
theorem dX10_travels_56 : decode cX10_travels 56 = .ok (.invokevirtual 206, 3) := by decide +kernel
theorem dX10_travels_59 : decode cX10_travels 59 = .ok (.iload 4, 2) := by decide +kernel
theorem dX10_travels_61 : decode cX10_travels 61 = .ok (.ifCond .eq 18, 3) := by decide +kernel
theorem dX10_travels_64 : decode cX10_travels 64 = .ok (.aload_n 0, 1) := by decide +kernel
theorem dX10_travels_65 : decode cX10_travels 65 = .ok (.iload_n 2, 1) := by decide +kernel
theorem dX10_travels_66 : decode cX10_travels 66 = .ok (.iload_n 3, 1) := by decide +kernel
theorem dX10_travels_67 : decode cX10_travels 67 = .ok (.iload 6, 2) := by decide +kernel
theorem dX10_travels_69 : decode cX10_travels 69 = .ok (.iload 5, 2) := by decide +kernel
theorem dX10_travels_71 : decode cX10_travels 71 = .ok (.ior, 1) := by decide +kernel
theorem dX10_travels_72 : decode cX10_travels 72 = .ok (.iload_n 1, 1) := by decide +kernel
theorem dX10_travels_73 : decode cX10_travels 73 = .ok (.invokevirtual 213, 3) := by decide +kernel
theorem dX10_travels_76 : decode cX10_travels 76 = .ok (.goto 5, 3) := by decide +kernel
theorem dX10_travels_79 : decode cX10_travels 79 = .ok (.ldc 107, 2) := by decide +kernel
theorem dX10_travels_81 : decode cX10_travels 81 = .ok (.iastore, 1) := by decide +kernel
theorem dX10_travels_82 : decode cX10_travels 82 = .ok (.iinc 6 1, 3) := by decide +kernel
theorem dX10_travels_85 : decode cX10_travels 85 = .ok (.goto (-44), 3) := by decide +kernel
theorem dX10_travels_88 : decode cX10_travels 88 = .ok (.iinc 3 1, 3) := by decide +kernel
theorem dX10_travels_91 : decode cX10_travels 91 = .ok (.goto (-73), 3) := by decide +kernel
theorem dX10_travels_94 : decode cX10_travels 94 = .ok (.iinc 2 (-1), 3) := by decide +kernel
theorem dX10_travels_97 : decode cX10_travels 97 = .ok (.goto (-85), 3) := by decide +kernel
theorem dX10_travels_100 : decode cX10_travels 100 = .ok (.ldc 107, 2) := by decide +kernel
theorem dX10_travels_102 : decode cX10_travels 102 = .ok (.istore_n 2, 1) := by decide +kernel
theorem dX10_travels_103 : decode cX10_travels 103 = .ok (.iconst 0, 1) := by decide +kernel
theorem dX10_travels_104 : decode cX10_travels 104 = .ok (.istore_n 3, 1) := by decide +kernel
theorem dX10_travels_105 : decode cX10_travels 105 = .ok (.iload_n 3, 1) := by decide +kernel
theorem dX10_travels_106 : decode cX10_travels 106 = .ok (.bipush 21, 2) := by decide +kernel
theorem dX10_travels_108 : decode cX10_travels 108 = .ok (.if_icmp .ge 36, 3) := by decide +kernel
theorem dX10_travels_111 : decode cX10_travels 111 = .ok (.aload_n 0, 1) := by decide +kernel
theorem dX10_travels_112 : decode cX10_travels 112 = .ok (.getfield 50, 3) := by decide +kernel
theorem dX10_travels_115 : decode cX10_travels 115 = .ok (.aload_n 0, 1) := by decide +kernel
theorem dX10_travels_116 : decode cX10_travels 116 = .ok (.iconst 0, 1) := by decide +kernel
theorem dX10_travels_117 : decode cX10_travels 117 = .ok (.iload_n 3, 1) := by decide +kernel
theorem dX10_travels_118 : decode cX10_travels 118 = .ok (.iconst 0, 1) := by decide +kernel
theorem dX10_travels_119 : decode cX10_travels 119 = .ok (.invokevirtual 206, 3) := by decide +kernel
theorem dX10_travels_122 : decode cX10_travels 122 = .ok (.iaload, 1) := by decide +kernel
theorem dX10_travels_123 : decode cX10_travels 123 = .ok (.istore 4, 2) := by decide +kernel
theorem dX10_travels_125 : decode cX10_travels 125 = .ok (.iload 4, 2) := by decide +kernel
theorem dX10_travels_127 : decode cX10_travels 127 = .ok (.iload_n 2, 1) := by decide +kernel
theorem dX10_travels_128 : decode cX10_travels 128 = .ok (.if_icmp .ge 8, 3) := by decide +kernel
theorem dX10_travels_131 : decode cX10_travels 131 = .ok (.iload 4, 2) := by decide +kernel
theorem dX10_travels_133 : decode cX10_travels 133 = .ok (.goto 4, 3) := by decide +kernel
theorem dX10_travels_136 : decode cX10_travels 136 = .ok (.iload_n 2, 1) := by decide +kernel
theorem dX10_travels_137 : decode cX10_travels 137 = .ok (.istore_n 2, 1) := by decide +kernel
theorem dX10_travels_138 : decode cX10_travels 138 = .ok (.iinc 3 1, 3) := by decide +kernel
theorem dX10_travels_141 : decode cX10_travels 141 = .ok (.goto (-36), 3) := by decide +kernel
theorem dX10_travels_144 : decode cX10_travels 144 = .ok (.iload_n 2, 1) := by decide +kernel
theorem dX10_travels_145 : decode cX10_travels 145 = .ok (.ireturn, 1) := by decide +kernel
theorem dX10_stand_0 : decode cX10_stand 0 = .ok (.iload_n 1, 1) := by decide +kernel
theorem dX10_stand_1 : decode cX10_stand 1 = .ok (.iconst (-1), 1) := by decide +kernel
theorem dX10_stand_2 : decode cX10_stand 2 = .ok (.if_icmp .eq 18, 3) := by decide +kernel
theorem dX10_stand_5 : decode cX10_stand 5 = .ok (.iload_n 1, 1) := by decide +kernel
theorem dX10_stand_6 : decode cX10_stand 6 = .ok (.i2l, 1) := by decide +kernel
theorem dX10_stand_7 : decode cX10_stand 7 = .ok (.lconst 0, 1) := by decide +kernel
theorem dX10_stand_8 : decode cX10_stand 8 = .ok (.ldc2_w 198, 3) := by decide +kernel
theorem dX10_stand_11 : decode cX10_stand 11 = .ok (.invokestatic 67, 3) := by decide +kernel
theorem dX10_stand_14 : decode cX10_stand 14 = .ok (.ifCond .ne 6, 3) := by decide +kernel
theorem dX10_stand_17 : decode cX10_stand 17 = .ok (.bipush (-10), 2) := by decide +kernel
theorem dX10_stand_19 : decode cX10_stand 19 = .ok (.ireturn, 1) := by decide +kernel
theorem dX10_stand_20 : decode cX10_stand 20 = .ok (.aload_n 0, 1) := by decide +kernel
theorem dX10_stand_21 : decode cX10_stand 21 = .ok (.invokevirtual 217, 3) := by decide +kernel
theorem dX10_stand_24 : decode cX10_stand 24 = .ok (.istore_n 2, 1) := by decide +kernel
theorem dX10_stand_25 : decode cX10_stand 25 = .ok (.iload_n 2, 1) := by decide +kernel
theorem dX10_stand_26 : decode cX10_stand 26 = .ok (.ldc 107, 2) := by decide +kernel
theorem dX10_stand_28 : decode cX10_stand 28 = .ok (.if_icmp .lt 6, 3) := by decide +kernel
theorem dX10_stand_31 : decode cX10_stand 31 = .ok (.bipush (-5), 2) := by decide +kernel
theorem dX10_stand_33 : decode cX10_stand 33 = .ok (.ireturn, 1) := by decide +kernel
theorem dX10_stand_34 : decode cX10_stand 34 = .ok (.iload_n 1, 1) := by decide +kernel
theorem dX10_stand_35 : decode cX10_stand 35 = .ok (.iconst (-1), 1) := by decide +kernel
theorem dX10_stand_36 : decode cX10_stand 36 = .ok (.if_icmp .ne 5, 3) := by decide +kernel
theorem dX10_stand_39 : decode cX10_stand 39 = .ok (.iload_n 2, 1) := by decide +kernel
theorem dX10_stand_40 : decode cX10_stand 40 = .ok (.ireturn, 1) := by decide +kernel
theorem dX10_stand_41 : decode cX10_stand 41 = .ok (.iconst (-1), 1) := by decide +kernel
theorem dX10_stand_42 : decode cX10_stand 42 = .ok (.istore_n 3, 1) := by decide +kernel
theorem dX10_stand_43 : decode cX10_stand 43 = .ok (.iconst 0, 1) := by decide +kernel
theorem dX10_stand_44 : decode cX10_stand 44 = .ok (.istore 4, 2) := by decide +kernel
theorem dX10_stand_46 : decode cX10_stand 46 = .ok (.iconst 0, 1) := by decide +kernel
theorem dX10_stand_47 : decode cX10_stand 47 = .ok (.istore 5, 2) := by decide +kernel
theorem dX10_stand_49 : decode cX10_stand 49 = .ok (.iload 5, 2) := by decide +kernel
theorem dX10_stand_51 : decode cX10_stand 51 = .ok (.iload_n 1, 1) := by decide +kernel
theorem dX10_stand_52 : decode cX10_stand 52 = .ok (.if_icmp .gt 158, 3) := by decide +kernel
theorem dX10_stand_55 : decode cX10_stand 55 = .ok (.bipush 20, 2) := by decide +kernel
theorem dX10_stand_57 : decode cX10_stand 57 = .ok (.istore 6, 2) := by decide +kernel
theorem dX10_stand_59 : decode cX10_stand 59 = .ok (.iconst 0, 1) := by decide +kernel
theorem dX10_stand_60 : decode cX10_stand 60 = .ok (.istore 7, 2) := by decide +kernel
theorem dX10_stand_62 : decode cX10_stand 62 = .ok (.bipush 20, 2) := by decide +kernel
theorem dX10_stand_64 : decode cX10_stand 64 = .ok (.istore 8, 2) := by decide +kernel
theorem dX10_stand_66 : decode cX10_stand 66 = .ok (.iload 8, 2) := by decide +kernel
theorem dX10_stand_68 : decode cX10_stand 68 = .ok (.ifCond .lt 111, 3) := by decide +kernel
theorem dX10_stand_71 : decode cX10_stand 71 = .ok (.iload_n 3, 1) := by decide +kernel
theorem dX10_stand_72 : decode cX10_stand 72 = .ok (.iconst (-1), 1) := by decide +kernel
theorem dX10_stand_73 : decode cX10_stand 73 = .ok (.if_icmp .ne 7, 3) := by decide +kernel
theorem dX10_stand_76 : decode cX10_stand 76 = .ok (.iconst 0, 1) := by decide +kernel
theorem dX10_stand_77 : decode cX10_stand 77 = .ok (.goto 20, 3) := by decide +kernel
theorem dX10_stand_80 : decode cX10_stand 80 = .ok (.iload 8, 2) := by decide +kernel
theorem dX10_stand_82 : decode cX10_stand 82 = .ok (.iload_n 3, 1) := by decide +kernel
theorem dX10_stand_83 : decode cX10_stand 83 = .ok (.if_icmp .le 10, 3) := by decide +kernel
theorem dX10_stand_86 : decode cX10_stand 86 = .ok (.iload 8, 2) := by decide +kernel
theorem dX10_stand_88 : decode cX10_stand 88 = .ok (.iload_n 3, 1) := by decide +kernel
theorem dX10_stand_89 : decode cX10_stand 89 = .ok (.isub, 1) := by decide +kernel
theorem dX10_stand_90 : decode cX10_stand 90 = .ok (.goto 7, 3) := by decide +kernel
theorem dX10_stand_93 : decode cX10_stand 93 = .ok (.iload_n 3, 1) := by decide +kernel
theorem dX10_stand_94 : decode cX10_stand 94 = .ok (.iload 8, 2) := by decide +kernel
theorem dX10_stand_96 : decode cX10_stand 96 = .ok (.isub, 1) := by decide +kernel
theorem dX10_stand_97 : decode cX10_stand 97 = .ok (.istore 9, 2) := by decide +kernel
theorem dX10_stand_99 : decode cX10_stand 99 = .ok (.iload_n 3, 1) := by decide +kernel
theorem dX10_stand_100 : decode cX10_stand 100 = .ok (.iconst (-1), 1) := by decide +kernel
theorem dX10_stand_101 : decode cX10_stand 101 = .ok (.if_icmp .eq 15, 3) := by decide +kernel
theorem dX10_stand_104 : decode cX10_stand 104 = .ok (.iload 9, 2) := by decide +kernel
theorem dX10_stand_106 : decode cX10_stand 106 = .ok (.aload_n 0, 1) := by decide +kernel
theorem dX10_stand_107 : decode cX10_stand 107 = .ok (.getfield 7, 3) := by decide +kernel
theorem dX10_stand_110 : decode cX10_stand 110 = .ok (.bipush 7, 2) := by decide +kernel
theorem dX10_stand_112 : decode cX10_stand 112 = .ok (.iaload, 1) := by decide +kernel
theorem dX10_stand_113 : decode cX10_stand 113 = .ok (.if_icmp .gt 29, 3) := by decide +kernel
theorem dX10_stand_116 : decode cX10_stand 116 = .ok (.iload 9, 2) := by decide +kernel
theorem dX10_stand_118 : decode cX10_stand 118 = .ok (.aload_n 0, 1) := by decide +kernel
theorem dX10_stand_119 : decode cX10_stand 119 = .ok (.getfield 50, 3) := by decide +kernel
theorem dX10_stand_122 : decode cX10_stand 122 = .ok (.aload_n 0, 1) := by decide +kernel
theorem dX10_stand_123 : decode cX10_stand 123 = .ok (.iload 5, 2) := by decide +kernel
theorem dX10_stand_125 : decode cX10_stand 125 = .ok (.iload 8, 2) := by decide +kernel
theorem dX10_stand_127 : decode cX10_stand 127 = .ok (.iload 4, 2) := by decide +kernel
theorem dX10_stand_129 : decode cX10_stand 129 = .ok (.invokevirtual 206, 3) := by decide +kernel
theorem dX10_stand_132 : decode cX10_stand 132 = .ok (.iaload, 1) := by decide +kernel
theorem dX10_stand_133 : decode cX10_stand 133 = .ok (.iadd, 1) := by decide +kernel
theorem dX10_stand_134 : decode cX10_stand 134 = .ok (.iload_n 2, 1) := by decide +kernel
theorem dX10_stand_135 : decode cX10_stand 135 = .ok (.if_icmp .ne 7, 3) := by decide +kernel
theorem dX10_stand_138 : decode cX10_stand 138 = .ok (.iconst 1, 1) := by decide +kernel
theorem dX10_stand_139 : decode cX10_stand 139 = .ok (.goto 4, 3) := by decide +kernel
theorem dX10_stand_142 : decode cX10_stand 142 = .ok (.iconst 0, 1) := by decide +kernel
theorem dX10_stand_143 : decode cX10_stand 143 = .ok (.istore 10, 2) := by decide +kernel
theorem dX10_stand_145 : decode cX10_stand 145 = .ok (.iload 10, 2) := by decide +kernel
theorem dX10_stand_147 : decode cX10_stand 147 = .ok (.ifCond .eq 8, 3) := by decide +kernel
theorem dX10_stand_150 : decode cX10_stand 150 = .ok (.iload 8, 2) := by decide +kernel
theorem dX10_stand_152 : decode cX10_stand 152 = .ok (.goto 5, 3) := by decide +kernel
theorem dX10_stand_155 : decode cX10_stand 155 = .ok (.iload 6, 2) := by decide +kernel
theorem dX10_stand_157 : decode cX10_stand 157 = .ok (.istore 6, 2) := by decide +kernel
theorem dX10_stand_159 : decode cX10_stand 159 = .ok (.iload 10, 2) := by decide +kernel
theorem dX10_stand_161 : decode cX10_stand 161 = .ok (.ifCond .eq 8, 3) := by decide +kernel
theorem dX10_stand_164 : decode cX10_stand 164 = .ok (.iload 9, 2) := by decide +kernel
theorem dX10_stand_166 : decode cX10_stand 166 = .ok (.goto 5, 3) := by decide +kernel
theorem dX10_stand_169 : decode cX10_stand 169 = .ok (.iload 7, 2) := by decide +kernel
theorem dX10_stand_171 : decode cX10_stand 171 = .ok (.istore 7, 2) := by decide +kernel
theorem dX10_stand_173 : decode cX10_stand 173 = .ok (.iinc 8 (-1), 3) := by decide +kernel
theorem dX10_stand_176 : decode cX10_stand 176 = .ok (.goto (-110), 3) := by decide +kernel
theorem dX10_stand_179 : decode cX10_stand 179 = .ok (.iload 6, 2) := by decide +kernel
theorem dX10_stand_181 : decode cX10_stand 181 = .ok (.istore_n 3, 1) := by decide +kernel
theorem dX10_stand_182 : decode cX10_stand 182 = .ok (.iload_n 2, 1) := by decide +kernel
theorem dX10_stand_183 : decode cX10_stand 183 = .ok (.iload 7, 2) := by decide +kernel
theorem dX10_stand_185 : decode cX10_stand 185 = .ok (.isub, 1) := by decide +kernel
theorem dX10_stand_186 : decode cX10_stand 186 = .ok (.istore_n 2, 1) := by decide +kernel
theorem dX10_stand_187 : decode cX10_stand 187 = .ok (.aload_n 0, 1) := by decide +kernel
theorem dX10_stand_188 : decode cX10_stand 188 = .ok (.iload 5, 2) := by decide +kernel
theorem dX10_stand_190 : decode cX10_stand 190 = .ok (.iload_n 3, 1) := by decide +kernel
theorem dX10_stand_191 : decode cX10_stand 191 = .ok (.invokevirtual 210, 3) := by decide +kernel
theorem dX10_stand_194 : decode cX10_stand 194 = .ok (.pop, 1) := by decide +kernel
theorem dX10_stand_195 : decode cX10_stand 195 = .ok (.iload 4, 2) := by decide +kernel
theorem dX10_stand_197 : decode cX10_stand 197 = .ok (.aload_n 0, 1) := by decide +kernel
theorem dX10_stand_198 : decode cX10_stand 198 = .ok (.getfield 203, 3) := by decide +kernel
theorem dX10_stand_201 : decode cX10_stand 201 = .ok (.ior, 1) := by decide +kernel
theorem dX10_stand_202 : decode cX10_stand 202 = .ok (.istore 4, 2) := by decide +kernel
theorem dX10_stand_204 : decode cX10_stand 204 = .ok (.iinc 5 1, 3) := by decide +kernel
theorem dX10_stand_207 : decode cX10_stand 207 = .ok (.goto (-158), 3) := by decide +kernel
theorem dX10_stand_210 : decode cX10_stand 210 = .ok (.iload_n 3, 1) := by decide +kernel
theorem dX10_stand_211 : decode cX10_stand 211 = .ok (.ireturn, 1) := by decide +kernel
theorem dX10_area_0 : decode cX10_area 0 = .ok (.iload_n 1, 1) := by decide +kernel
theorem dX10_area_1 : decode cX10_area 1 = .ok (.i2l, 1) := by decide +kernel
theorem dX10_area_2 : decode cX10_area 2 = .ok (.lconst 0, 1) := by decide +kernel
theorem dX10_area_3 : decode cX10_area 3 = .ok (.ldc2_w 220, 3) := by decide +kernel
theorem dX10_area_6 : decode cX10_area 6 = .ok (.invokestatic 67, 3) := by decide +kernel
theorem dX10_area_9 : decode cX10_area 9 = .ok (.ifCond .eq 28, 3) := by decide +kernel
theorem dX10_area_12 : decode cX10_area 12 = .ok (.iload_n 2, 1) := by decide +kernel
theorem dX10_area_13 : decode cX10_area 13 = .ok (.i2l, 1) := by decide +kernel
theorem dX10_area_14 : decode cX10_area 14 = .ok (.lconst 0, 1) := by decide +kernel
theorem dX10_area_15 : decode cX10_area 15 = .ok (.ldc2_w 129, 3) := by decide +kernel
theorem dX10_area_18 : decode cX10_area 18 = .ok (.invokestatic 67, 3) := by decide +kernel
theorem dX10_area_21 : decode cX10_area 21 = .ok (.ifCond .eq 16, 3) := by decide +kernel
theorem dX10_area_24 : decode cX10_area 24 = .ok (.aload_n 0, 1) := by decide +kernel
theorem dX10_area_25 : decode cX10_area 25 = .ok (.sipush 410, 3) := by decide +kernel
theorem dX10_area_28 : decode cX10_area 28 = .ok (.iload_n 1, 1) := by decide +kernel
theorem dX10_area_29 : decode cX10_area 29 = .ok (.iadd, 1) := by decide +kernel
theorem dX10_area_30 : decode cX10_area 30 = .ok (.iload_n 2, 1) := by decide +kernel
theorem dX10_area_31 : decode cX10_area 31 = .ok (.invokevirtual 82, 3) := by decide +kernel
theorem dX10_area_34 : decode cX10_area 34 = .ok (.goto 5, 3) := by decide +kernel
theorem dX10_area_37 : decode cX10_area 37 = .ok (.bipush (-2), 2) := by decide +kernel
theorem dX10_area_39 : decode cX10_area 39 = .ok (.ireturn, 1) := by decide +kernel
theorem dX10_volume_0 : decode cX10_volume 0 = .ok (.iconst 0, 1) := by decide +kernel
theorem dX10_volume_1 : decode cX10_volume 1 = .ok (.istore_n 3, 1) := by decide +kernel
theorem dX10_volume_2 : decode cX10_volume 2 = .ok (.iload_n 2, 1) := by decide +kernel
theorem dX10_volume_3 : decode cX10_volume 3 = .ok (.istore 4, 2) := by decide +kernel
theorem dX10_volume_5 : decode cX10_volume 5 = .ok (.iload 4, 2) := by decide +kernel
theorem dX10_volume_7 : decode cX10_volume 7 = .ok (.iload_n 1, 1) := by decide +kernel
theorem dX10_volume_8 : decode cX10_volume 8 = .ok (.if_icmp .ge 23, 3) := by decide +kernel
theorem dX10_volume_11 : decode cX10_volume 11 = .ok (.iload_n 3, 1) := by decide +kernel
theorem dX10_volume_12 : decode cX10_volume 12 = .ok (.aload_n 0, 1) := by decide +kernel
theorem dX10_volume_13 : decode cX10_volume 13 = .ok (.getfield 7, 3) := by decide +kernel
theorem dX10_volume_16 : decode cX10_volume 16 = .ok (.sipush 410, 3) := by decide +kernel
theorem dX10_volume_19 : decode cX10_volume 19 = .ok (.iload 4, 2) := by decide +kernel
theorem dX10_volume_21 : decode cX10_volume 21 = .ok (.iadd, 1) := by decide +kernel
theorem dX10_volume_22 : decode cX10_volume 22 = .ok (.iaload, 1) := by decide +kernel
theorem dX10_volume_23 : decode cX10_volume 23 = .ok (.iadd, 1) := by decide +kernel
theorem dX10_volume_24 : decode cX10_volume 24 = .ok (.istore_n 3, 1) := by decide +kernel
theorem dX10_volume_25 : decode cX10_volume 25 = .ok (.iinc 4 1, 3) := by decide +kernel
theorem dX10_volume_28 : decode cX10_volume 28 = .ok (.goto (-23), 3) := by decide +kernel
theorem dX10_volume_31 : decode cX10_volume 31 = .ok (.iload_n 3, 1) := by decide +kernel
theorem dX10_volume_32 : decode cX10_volume 32 = .ok (.ireturn, 1) := by decide +kernel
theorem dX10_drains_0 : decode cX10_drains 0 = .ok (.aload_n 0, 1) := by decide +kernel
theorem dX10_drains_1 : decode cX10_drains 1 = .ok (.iload_n 1, 1) := by decide +kernel
theorem dX10_drains_2 : decode cX10_drains 2 = .ok (.iload_n 2, 1) := by decide +kernel
theorem dX10_drains_3 : decode cX10_drains 3 = .ok (.invokevirtual 222, 3) := by decide +kernel
theorem dX10_drains_6 : decode cX10_drains 6 = .ok (.istore_n 3, 1) := by decide +kernel
theorem dX10_drains_7 : decode cX10_drains 7 = .ok (.aload_n 0, 1) := by decide +kernel
theorem dX10_drains_8 : decode cX10_drains 8 = .ok (.iconst 0, 1) := by decide +kernel
theorem dX10_drains_9 : decode cX10_drains 9 = .ok (.putfield 225, 3) := by decide +kernel
theorem dX10_drains_12 : decode cX10_drains 12 = .ok (.aload_n 0, 1) := by decide +kernel
theorem dX10_drains_13 : decode cX10_drains 13 = .ok (.iconst 0, 1) := by decide +kernel
theorem dX10_drains_14 : decode cX10_drains 14 = .ok (.putfield 228, 3) := by decide +kernel
theorem dX10_drains_17 : decode cX10_drains 17 = .ok (.iload_n 2, 1) := by decide +kernel
theorem dX10_drains_18 : decode cX10_drains 18 = .ok (.istore 4, 2) := by decide +kernel
theorem dX10_drains_20 : decode cX10_drains 20 = .ok (.iload 4, 2) := by decide +kernel
theorem dX10_drains_22 : decode cX10_drains 22 = .ok (.iload_n 1, 1) := by decide +kernel
theorem dX10_drains_23 : decode cX10_drains 23 = .ok (.if_icmp .ge 27, 3) := by decide +kernel
theorem dX10_drains_26 : decode cX10_drains 26 = .ok (.aload_n 0, 1) := by decide +kernel
theorem dX10_drains_27 : decode cX10_drains 27 = .ok (.getfield 53, 3) := by decide +kernel
theorem dX10_drains_30 : decode cX10_drains 30 = .ok (.iload 4, 2) := by decide +kernel
theorem dX10_drains_32 : decode cX10_drains 32 = .ok (.aload_n 0, 1) := by decide +kernel
theorem dX10_drains_33 : decode cX10_drains 33 = .ok (.getfield 7, 3) := by decide +kernel
theorem dX10_drains_36 : decode cX10_drains 36 = .ok (.sipush 410, 3) := by decide +kernel
theorem dX10_drains_39 : decode cX10_drains 39 = .ok (.iload 4, 2) := by decide +kernel
theorem dX10_drains_41 : decode cX10_drains 41 = .ok (.iadd, 1) := by decide +kernel
theorem dX10_drains_42 : decode cX10_drains 42 = .ok (.iaload, 1) := by decide +kernel
theorem dX10_drains_43 : decode cX10_drains 43 = .ok (.iastore, 1) := by decide +kernel
theorem dX10_drains_44 : decode cX10_drains 44 = .ok (.iinc 4 1, 3) := by decide +kernel
theorem dX10_drains_47 : decode cX10_drains 47 = .ok (.goto (-27), 3) := by decide +kernel
theorem dX10_drains_50 : decode cX10_drains 50 = .ok (.iload_n 1, 1) := by decide +kernel
theorem dX10_drains_51 : decode cX10_drains 51 = .ok (.iconst 1, 1) := by decide +kernel
theorem dX10_drains_52 : decode cX10_drains 52 = .ok (.isub, 1) := by decide +kernel
theorem dX10_drains_53 : decode cX10_drains 53 = .ok (.istore 4, 2) := by decide +kernel
theorem dX10_drains_55 : decode cX10_drains 55 = .ok (.iload_n 3, 1) := by decide +kernel
theorem dX10_drains_56 : decode cX10_drains 56 = .ok (.ifCond .le 160, 3) := by decide +kernel
theorem dX10_drains_59 : decode cX10_drains 59 = .ok (.aload_n 0, 1) := by decide +kernel
theorem dX10_drains_60 : decode cX10_drains 60 = .ok (.getfield 225, 3) := by decide +kernel
theorem dX10_drains_63 : decode cX10_drains 63 = .ok (.sipush 1000, 3) := by decide +kernel
theorem dX10_drains_66 : decode cX10_drains 66 = .ok (.if_icmp .ge 150, 3) := by decide +kernel
theorem dX10_drains_69 : decode cX10_drains 69 = .ok (.aload_n 0, 1) := by decide +kernel
theorem dX10_drains_70 : decode cX10_drains 70 = .ok (.getfield 53, 3) := by decide +kernel
theorem dX10_drains_73 : decode cX10_drains 73 = .ok (.iload 4, 2) := by decide +kernel
theorem dX10_drains_75 : decode cX10_drains 75 = .ok (.iaload, 1) := by decide +kernel
theorem dX10_drains_76 : decode cX10_drains 76 = .ok (.ifCond .ne 9, 3) := by decide +kernel
theorem dX10_drains_79 : decode cX10_drains 79 = .ok (.iinc 4 (-1), 3) := by decide +kernel
theorem dX10_drains_82 : decode cX10_drains 82 = .ok (.goto (-13), 3) := by decide +kernel
theorem dX10_drains_85 : decode cX10_drains 85 = .ok (.aload_n 0, 1) := by decide +kernel
theorem dX10_drains_86 : decode cX10_drains 86 = .ok (.getfield 7, 3) := by decide +kernel
theorem dX10_drains_89 : decode cX10_drains 89 = .ok (.bipush 8, 2) := by decide +kernel
theorem dX10_drains_91 : decode cX10_drains 91 = .ok (.iaload, 1) := by decide +kernel
theorem dX10_drains_92 : decode cX10_drains 92 = .ok (.iload 4, 2) := by decide +kernel
theorem dX10_drains_94 : decode cX10_drains 94 = .ok (.iload_n 2, 1) := by decide +kernel
theorem dX10_drains_95 : decode cX10_drains 95 = .ok (.isub, 1) := by decide +kernel
theorem dX10_drains_96 : decode cX10_drains 96 = .ok (.iconst 1, 1) := by decide +kernel
theorem dX10_drains_97 : decode cX10_drains 97 = .ok (.iadd, 1) := by decide +kernel
theorem dX10_drains_98 : decode cX10_drains 98 = .ok (.imul, 1) := by decide +kernel
theorem dX10_drains_99 : decode cX10_drains 99 = .ok (.istore 5, 2) := by decide +kernel
theorem dX10_drains_101 : decode cX10_drains 101 = .ok (.iload 5, 2) := by decide +kernel
theorem dX10_drains_103 : decode cX10_drains 103 = .ok (.iload_n 3, 1) := by decide +kernel
theorem dX10_drains_104 : decode cX10_drains 104 = .ok (.if_icmp .ge 8, 3) := by decide +kernel
theorem dX10_drains_107 : decode cX10_drains 107 = .ok (.iload 5, 2) := by decide +kernel
theorem dX10_drains_109 : decode cX10_drains 109 = .ok (.goto 4, 3) := by decide +kernel
theorem dX10_drains_112 : decode cX10_drains 112 = .ok (.iload_n 3, 1) := by decide +kernel
theorem dX10_drains_113 : decode cX10_drains 113 = .ok (.istore 5, 2) := by decide +kernel
theorem dX10_drains_115 : decode cX10_drains 115 = .ok (.aload_n 0, 1) := by decide +kernel
theorem dX10_drains_116 : decode cX10_drains 116 = .ok (.iload 5, 2) := by decide +kernel
theorem dX10_drains_118 : decode cX10_drains 118 = .ok (.aload_n 0, 1) := by decide +kernel
theorem dX10_drains_119 : decode cX10_drains 119 = .ok (.getfield 228, 3) := by decide +kernel
theorem dX10_drains_122 : decode cX10_drains 122 = .ok (.if_icmp .le 8, 3) := by decide +kernel
theorem dX10_drains_125 : decode cX10_drains 125 = .ok (.iload 5, 2) := by decide +kernel
theorem dX10_drains_127 : decode cX10_drains 127 = .ok (.goto 7, 3) := by decide +kernel
theorem dX10_drains_130 : decode cX10_drains 130 = .ok (.aload_n 0, 1) := by decide +kernel
theorem dX10_drains_131 : decode cX10_drains 131 = .ok (.getfield 228, 3) := by decide +kernel
theorem dX10_drains_134 : decode cX10_drains 134 = .ok (.putfield 228, 3) := by decide +kernel
theorem dX10_drains_137 : decode cX10_drains 137 = .ok (.iload_n 3, 1) := by decide +kernel
theorem dX10_drains_138 : decode cX10_drains 138 = .ok (.iload 5, 2) := by decide +kernel
theorem dX10_drains_140 : decode cX10_drains 140 = .ok (.isub, 1) := by decide +kernel
theorem dX10_drains_141 : decode cX10_drains 141 = .ok (.istore_n 3, 1) := by decide +kernel
theorem dX10_drains_142 : decode cX10_drains 142 = .ok (.iload 4, 2) := by decide +kernel
theorem dX10_drains_144 : decode cX10_drains 144 = .ok (.istore 6, 2) := by decide +kernel
theorem dX10_drains_146 : decode cX10_drains 146 = .ok (.iload 6, 2) := by decide +kernel
theorem dX10_drains_148 : decode cX10_drains 148 = .ok (.iload_n 2, 1) := by decide +kernel
theorem dX10_drains_149 : decode cX10_drains 149 = .ok (.if_icmp .lt 54, 3) := by decide +kernel
theorem dX10_drains_152 : decode cX10_drains 152 = .ok (.aload_n 0, 1) := by decide +kernel
theorem dX10_drains_153 : decode cX10_drains 153 = .ok (.getfield 53, 3) := by decide +kernel
theorem dX10_drains_156 : decode cX10_drains 156 = .ok (.iload 6, 2) := by decide +kernel
theorem dX10_drains_158 : decode cX10_drains 158 = .ok (.iaload, 1) := by decide +kernel
theorem dX10_drains_159 : decode cX10_drains 159 = .ok (.iload 5, 2) := by decide +kernel
theorem dX10_drains_161 : decode cX10_drains 161 = .ok (.if_icmp .ge 13, 3) := by decide +kernel
theorem dX10_drains_164 : decode cX10_drains 164 = .ok (.aload_n 0, 1) := by decide +kernel
theorem dX10_drains_165 : decode cX10_drains 165 = .ok (.getfield 53, 3) := by decide +kernel
theorem dX10_drains_168 : decode cX10_drains 168 = .ok (.iload 6, 2) := by decide +kernel
theorem dX10_drains_170 : decode cX10_drains 170 = .ok (.iaload, 1) := by decide +kernel
theorem dX10_drains_171 : decode cX10_drains 171 = .ok (.goto 5, 3) := by decide +kernel
theorem dX10_drains_174 : decode cX10_drains 174 = .ok (.iload 5, 2) := by decide +kernel
theorem dX10_drains_176 : decode cX10_drains 176 = .ok (.istore 7, 2) := by decide +kernel
theorem dX10_drains_178 : decode cX10_drains 178 = .ok (.aload_n 0, 1) := by decide +kernel
theorem dX10_drains_179 : decode cX10_drains 179 = .ok (.getfield 53, 3) := by decide +kernel
theorem dX10_drains_182 : decode cX10_drains 182 = .ok (.iload 6, 2) := by decide +kernel
theorem dX10_drains_184 : decode cX10_drains 184 = .ok (.dup2, 1) := by decide +kernel
theorem dX10_drains_185 : decode cX10_drains 185 = .ok (.iaload, 1) := by decide +kernel
theorem dX10_drains_186 : decode cX10_drains 186 = .ok (.iload 7, 2) := by decide +kernel
theorem dX10_drains_188 : decode cX10_drains 188 = .ok (.isub, 1) := by decide +kernel
theorem dX10_drains_189 : decode cX10_drains 189 = .ok (.iastore, 1) := by decide +kernel
theorem dX10_drains_190 : decode cX10_drains 190 = .ok (.iload 5, 2) := by decide +kernel
theorem dX10_drains_192 : decode cX10_drains 192 = .ok (.iload 7, 2) := by decide +kernel
theorem dX10_drains_194 : decode cX10_drains 194 = .ok (.isub, 1) := by decide +kernel
theorem dX10_drains_195 : decode cX10_drains 195 = .ok (.istore 5, 2) := by decide +kernel
theorem dX10_drains_197 : decode cX10_drains 197 = .ok (.iinc 6 (-1), 3) := by decide +kernel
theorem dX10_drains_200 : decode cX10_drains 200 = .ok (.goto (-54), 3) := by decide +kernel
theorem dX10_drains_203 : decode cX10_drains 203 = .ok (.aload_n 0, 1) := by decide +kernel
theorem dX10_drains_204 : decode cX10_drains 204 = .ok (.dup, 1) := by decide +kernel
theorem dX10_drains_205 : decode cX10_drains 205 = .ok (.getfield 225, 3) := by decide +kernel
theorem dX10_drains_208 : decode cX10_drains 208 = .ok (.iconst 1, 1) := by decide +kernel
theorem dX10_drains_209 : decode cX10_drains 209 = .ok (.iadd, 1) := by decide +kernel
theorem dX10_drains_210 : decode cX10_drains 210 = .ok (.putfield 225, 3) := by decide +kernel
theorem dX10_drains_213 : decode cX10_drains 213 = .ok (.goto (-158), 3) := by decide +kernel
theorem dX10_drains_216 : decode cX10_drains 216 = .ok (.return_, 1) := by decide +kernel
theorem dX10_isLake_0 : decode cX10_isLake 0 = .ok (.iload_n 0, 1) := by decide +kernel
theorem dX10_isLake_1 : decode cX10_isLake 1 = .ok (.i2l, 1) := by decide +kernel
theorem dX10_isLake_2 : decode cX10_isLake 2 = .ok (.lconst 0, 1) := by decide +kernel
theorem dX10_isLake_3 : decode cX10_isLake 3 = .ok (.ldc2_w 127, 3) := by decide +kernel
theorem dX10_isLake_6 : decode cX10_isLake 6 = .ok (.invokestatic 67, 3) := by decide +kernel
theorem dX10_isLake_9 : decode cX10_isLake 9 = .ok (.ifCond .eq 20, 3) := by decide +kernel
theorem dX10_isLake_12 : decode cX10_isLake 12 = .ok (.iload_n 1, 1) := by decide +kernel
theorem dX10_isLake_13 : decode cX10_isLake 13 = .ok (.i2l, 1) := by decide +kernel
theorem dX10_isLake_14 : decode cX10_isLake 14 = .ok (.lconst 0, 1) := by decide +kernel
theorem dX10_isLake_15 : decode cX10_isLake 15 = .ok (.iload_n 0, 1) := by decide +kernel
theorem dX10_isLake_16 : decode cX10_isLake 16 = .ok (.iconst 1, 1) := by decide +kernel
theorem dX10_isLake_17 : decode cX10_isLake 17 = .ok (.isub, 1) := by decide +kernel
theorem dX10_isLake_18 : decode cX10_isLake 18 = .ok (.i2l, 1) := by decide +kernel
theorem dX10_isLake_19 : decode cX10_isLake 19 = .ok (.invokestatic 67, 3) := by decide +kernel
theorem dX10_isLake_22 : decode cX10_isLake 22 = .ok (.ifCond .eq 7, 3) := by decide +kernel
theorem dX10_isLake_25 : decode cX10_isLake 25 = .ok (.iconst 1, 1) := by decide +kernel
theorem dX10_isLake_26 : decode cX10_isLake 26 = .ok (.goto 4, 3) := by decide +kernel
theorem dX10_isLake_29 : decode cX10_isLake 29 = .ok (.iconst 0, 1) := by decide +kernel
theorem dX10_isLake_30 : decode cX10_isLake 30 = .ok (.ireturn, 1) := by decide +kernel
theorem dX10_lake_0 : decode cX10_lake 0 = .ok (.iload_n 1, 1) := by decide +kernel
theorem dX10_lake_1 : decode cX10_lake 1 = .ok (.iload_n 2, 1) := by decide +kernel
theorem dX10_lake_2 : decode cX10_lake 2 = .ok (.invokestatic 231, 3) := by decide +kernel
theorem dX10_lake_5 : decode cX10_lake 5 = .ok (.ifCond .eq 15, 3) := by decide +kernel
theorem dX10_lake_8 : decode cX10_lake 8 = .ok (.iload_n 3, 1) := by decide +kernel
theorem dX10_lake_9 : decode cX10_lake 9 = .ok (.i2l, 1) := by decide +kernel
theorem dX10_lake_10 : decode cX10_lake 10 = .ok (.lconst 0, 1) := by decide +kernel
theorem dX10_lake_11 : decode cX10_lake 11 = .ok (.ldc2_w 65, 3) := by decide +kernel
theorem dX10_lake_14 : decode cX10_lake 14 = .ok (.invokestatic 67, 3) := by decide +kernel
theorem dX10_lake_17 : decode cX10_lake 17 = .ok (.ifCond .ne 6, 3) := by decide +kernel
theorem dX10_lake_20 : decode cX10_lake 20 = .ok (.bipush (-2), 2) := by decide +kernel
theorem dX10_lake_22 : decode cX10_lake 22 = .ok (.ireturn, 1) := by decide +kernel
theorem dX10_lake_23 : decode cX10_lake 23 = .ok (.aload_n 0, 1) := by decide +kernel
theorem dX10_lake_24 : decode cX10_lake 24 = .ok (.iload_n 1, 1) := by decide +kernel
theorem dX10_lake_25 : decode cX10_lake 25 = .ok (.iload_n 2, 1) := by decide +kernel
theorem dX10_lake_26 : decode cX10_lake 26 = .ok (.invokevirtual 234, 3) := by decide +kernel
theorem dX10_lake_29 : decode cX10_lake 29 = .ok (.iload_n 3, 1) := by decide +kernel
theorem dX10_lake_30 : decode cX10_lake 30 = .ok (.ifCond .ne 12, 3) := by decide +kernel
theorem dX10_lake_33 : decode cX10_lake 33 = .ok (.aload_n 0, 1) := by decide +kernel
theorem dX10_lake_34 : decode cX10_lake 34 = .ok (.iload_n 1, 1) := by decide +kernel
theorem dX10_lake_35 : decode cX10_lake 35 = .ok (.iload_n 2, 1) := by decide +kernel
theorem dX10_lake_36 : decode cX10_lake 36 = .ok (.invokevirtual 222, 3) := by decide +kernel
theorem dX10_lake_39 : decode cX10_lake 39 = .ok (.goto 19, 3) := by decide +kernel
theorem dX10_lake_42 : decode cX10_lake 42 = .ok (.iload_n 3, 1) := by decide +kernel
theorem dX10_lake_43 : decode cX10_lake 43 = .ok (.iconst 1, 1) := by decide +kernel
theorem dX10_lake_44 : decode cX10_lake 44 = .ok (.if_icmp .ne 10, 3) := by decide +kernel
theorem dX10_lake_47 : decode cX10_lake 47 = .ok (.aload_n 0, 1) := by decide +kernel
theorem dX10_lake_48 : decode cX10_lake 48 = .ok (.getfield 225, 3) := by decide +kernel
theorem dX10_lake_51 : decode cX10_lake 51 = .ok (.goto 7, 3) := by decide +kernel
theorem dX10_lake_54 : decode cX10_lake 54 = .ok (.aload_n 0, 1) := by decide +kernel
theorem dX10_lake_55 : decode cX10_lake 55 = .ok (.getfield 228, 3) := by decide +kernel
theorem dX10_lake_58 : decode cX10_lake 58 = .ok (.ireturn, 1) := by decide +kernel
theorem dX10_shore_0 : decode cX10_shore 0 = .ok (.iload_n 1, 1) := by decide +kernel
theorem dX10_shore_1 : decode cX10_shore 1 = .ok (.iload_n 2, 1) := by decide +kernel
theorem dX10_shore_2 : decode cX10_shore 2 = .ok (.invokestatic 231, 3) := by decide +kernel
theorem dX10_shore_5 : decode cX10_shore 5 = .ok (.ifCond .eq 26, 3) := by decide +kernel
theorem dX10_shore_8 : decode cX10_shore 8 = .ok (.iload_n 3, 1) := by decide +kernel
theorem dX10_shore_9 : decode cX10_shore 9 = .ok (.i2l, 1) := by decide +kernel
theorem dX10_shore_10 : decode cX10_shore 10 = .ok (.lconst 0, 1) := by decide +kernel
theorem dX10_shore_11 : decode cX10_shore 11 = .ok (.ldc2_w 127, 3) := by decide +kernel
theorem dX10_shore_14 : decode cX10_shore 14 = .ok (.invokestatic 67, 3) := by decide +kernel
theorem dX10_shore_17 : decode cX10_shore 17 = .ok (.ifCond .eq 14, 3) := by decide +kernel
theorem dX10_shore_20 : decode cX10_shore 20 = .ok (.iload 4, 2) := by decide +kernel
theorem dX10_shore_22 : decode cX10_shore 22 = .ok (.i2l, 1) := by decide +kernel
theorem dX10_shore_23 : decode cX10_shore 23 = .ok (.lconst 0, 1) := by decide +kernel
theorem dX10_shore_24 : decode cX10_shore 24 = .ok (.lconst 1, 1) := by decide +kernel
theorem dX10_shore_25 : decode cX10_shore 25 = .ok (.invokestatic 67, 3) := by decide +kernel
theorem dX10_shore_28 : decode cX10_shore 28 = .ok (.ifCond .ne 6, 3) := by decide +kernel
theorem dX10_shore_31 : decode cX10_shore 31 = .ok (.bipush (-2), 2) := by decide +kernel
theorem dX10_shore_33 : decode cX10_shore 33 = .ok (.ireturn, 1) := by decide +kernel
theorem dX10_shore_34 : decode cX10_shore 34 = .ok (.iload_n 1, 1) := by decide +kernel
theorem dX10_shore_35 : decode cX10_shore 35 = .ok (.iload_n 3, 1) := by decide +kernel
theorem dX10_shore_36 : decode cX10_shore 36 = .ok (.isub, 1) := by decide +kernel
theorem dX10_shore_37 : decode cX10_shore 37 = .ok (.iload_n 2, 1) := by decide +kernel
theorem dX10_shore_38 : decode cX10_shore 38 = .ok (.if_icmp .le 9, 3) := by decide +kernel
theorem dX10_shore_41 : decode cX10_shore 41 = .ok (.iload_n 1, 1) := by decide +kernel
theorem dX10_shore_42 : decode cX10_shore 42 = .ok (.iload_n 3, 1) := by decide +kernel
theorem dX10_shore_43 : decode cX10_shore 43 = .ok (.isub, 1) := by decide +kernel
theorem dX10_shore_44 : decode cX10_shore 44 = .ok (.goto 6, 3) := by decide +kernel
theorem dX10_shore_47 : decode cX10_shore 47 = .ok (.iload_n 2, 1) := by decide +kernel
theorem dX10_shore_48 : decode cX10_shore 48 = .ok (.iconst 1, 1) := by decide +kernel
theorem dX10_shore_49 : decode cX10_shore 49 = .ok (.iadd, 1) := by decide +kernel
theorem dX10_shore_50 : decode cX10_shore 50 = .ok (.istore 5, 2) := by decide +kernel
theorem dX10_shore_52 : decode cX10_shore 52 = .ok (.iload_n 1, 1) := by decide +kernel
theorem dX10_shore_53 : decode cX10_shore 53 = .ok (.iload_n 3, 1) := by decide +kernel
theorem dX10_shore_54 : decode cX10_shore 54 = .ok (.iadd, 1) := by decide +kernel
theorem dX10_shore_55 : decode cX10_shore 55 = .ok (.bipush 20, 2) := by decide +kernel
theorem dX10_shore_57 : decode cX10_shore 57 = .ok (.if_icmp .ge 9, 3) := by decide +kernel
theorem dX10_shore_60 : decode cX10_shore 60 = .ok (.iload_n 1, 1) := by decide +kernel
theorem dX10_shore_61 : decode cX10_shore 61 = .ok (.iload_n 3, 1) := by decide +kernel
theorem dX10_shore_62 : decode cX10_shore 62 = .ok (.iadd, 1) := by decide +kernel
theorem dX10_shore_63 : decode cX10_shore 63 = .ok (.goto 5, 3) := by decide +kernel
theorem dX10_shore_66 : decode cX10_shore 66 = .ok (.bipush 20, 2) := by decide +kernel
theorem dX10_shore_68 : decode cX10_shore 68 = .ok (.istore 6, 2) := by decide +kernel
theorem dX10_shore_70 : decode cX10_shore 70 = .ok (.aload_n 0, 1) := by decide +kernel
theorem dX10_shore_71 : decode cX10_shore 71 = .ok (.iload 4, 2) := by decide +kernel
theorem dX10_shore_73 : decode cX10_shore 73 = .ok (.ifCond .ne 8, 3) := by decide +kernel
theorem dX10_shore_76 : decode cX10_shore 76 = .ok (.iload 5, 2) := by decide +kernel
theorem dX10_shore_78 : decode cX10_shore 78 = .ok (.goto 5, 3) := by decide +kernel
theorem dX10_shore_81 : decode cX10_shore 81 = .ok (.iload 6, 2) := by decide +kernel
theorem dX10_shore_83 : decode cX10_shore 83 = .ok (.iload_n 2, 1) := by decide +kernel
theorem dX10_shore_84 : decode cX10_shore 84 = .ok (.invokevirtual 222, 3) := by decide +kernel
theorem dX10_shore_87 : decode cX10_shore 87 = .ok (.ireturn, 1) := by decide +kernel
theorem dX10_zone_0 : decode cX10_zone 0 = .ok (.iload_n 1, 1) := by decide +kernel
theorem dX10_zone_1 : decode cX10_zone 1 = .ok (.i2l, 1) := by decide +kernel
theorem dX10_zone_2 : decode cX10_zone 2 = .ok (.lconst 0, 1) := by decide +kernel
theorem dX10_zone_3 : decode cX10_zone 3 = .ok (.ldc2_w 127, 3) := by decide +kernel
theorem dX10_zone_6 : decode cX10_zone 6 = .ok (.invokestatic 67, 3) := by decide +kernel
theorem dX10_zone_9 : decode cX10_zone 9 = .ok (.ifCond .eq 28, 3) := by decide +kernel
theorem dX10_zone_12 : decode cX10_zone 12 = .ok (.iload_n 2, 1) := by decide +kernel
theorem dX10_zone_13 : decode cX10_zone 13 = .ok (.i2l, 1) := by decide +kernel
theorem dX10_zone_14 : decode cX10_zone 14 = .ok (.lconst 0, 1) := by decide +kernel
theorem dX10_zone_15 : decode cX10_zone 15 = .ok (.ldc2_w 237, 3) := by decide +kernel
theorem dX10_zone_18 : decode cX10_zone 18 = .ok (.invokestatic 67, 3) := by decide +kernel
theorem dX10_zone_21 : decode cX10_zone 21 = .ok (.ifCond .eq 16, 3) := by decide +kernel
theorem dX10_zone_24 : decode cX10_zone 24 = .ok (.aload_n 0, 1) := by decide +kernel
theorem dX10_zone_25 : decode cX10_zone 25 = .ok (.sipush 430, 3) := by decide +kernel
theorem dX10_zone_28 : decode cX10_zone 28 = .ok (.iload_n 1, 1) := by decide +kernel
theorem dX10_zone_29 : decode cX10_zone 29 = .ok (.iadd, 1) := by decide +kernel
theorem dX10_zone_30 : decode cX10_zone 30 = .ok (.iload_n 2, 1) := by decide +kernel
theorem dX10_zone_31 : decode cX10_zone 31 = .ok (.invokevirtual 82, 3) := by decide +kernel
theorem dX10_zone_34 : decode cX10_zone 34 = .ok (.goto 5, 3) := by decide +kernel
theorem dX10_zone_37 : decode cX10_zone 37 = .ok (.bipush (-2), 2) := by decide +kernel
theorem dX10_zone_39 : decode cX10_zone 39 = .ok (.ireturn, 1) := by decide +kernel
theorem dX10_stands_0 : decode cX10_stands 0 = .ok (.iconst 0, 1) := by decide +kernel
theorem dX10_stands_1 : decode cX10_stands 1 = .ok (.istore_n 3, 1) := by decide +kernel
theorem dX10_stands_2 : decode cX10_stands 2 = .ok (.iconst (-1), 1) := by decide +kernel
theorem dX10_stands_3 : decode cX10_stands 3 = .ok (.istore 4, 2) := by decide +kernel
theorem dX10_stands_5 : decode cX10_stands 5 = .ok (.iconst 0, 1) := by decide +kernel
theorem dX10_stands_6 : decode cX10_stands 6 = .ok (.istore 5, 2) := by decide +kernel
theorem dX10_stands_8 : decode cX10_stands 8 = .ok (.iload 5, 2) := by decide +kernel
theorem dX10_stands_10 : decode cX10_stands 10 = .ok (.bipush 21, 2) := by decide +kernel
theorem dX10_stands_12 : decode cX10_stands 12 = .ok (.if_icmp .ge 61, 3) := by decide +kernel
theorem dX10_stands_15 : decode cX10_stands 15 = .ok (.iload_n 1, 1) := by decide +kernel
theorem dX10_stands_16 : decode cX10_stands 16 = .ok (.aload_n 0, 1) := by decide +kernel
theorem dX10_stands_17 : decode cX10_stands 17 = .ok (.getfield 7, 3) := by decide +kernel
theorem dX10_stands_20 : decode cX10_stands 20 = .ok (.sipush 430, 3) := by decide +kernel
theorem dX10_stands_23 : decode cX10_stands 23 = .ok (.iload 5, 2) := by decide +kernel
theorem dX10_stands_25 : decode cX10_stands 25 = .ok (.iadd, 1) := by decide +kernel
theorem dX10_stands_26 : decode cX10_stands 26 = .ok (.iaload, 1) := by decide +kernel
theorem dX10_stands_27 : decode cX10_stands 27 = .ok (.isub, 1) := by decide +kernel
theorem dX10_stands_28 : decode cX10_stands 28 = .ok (.istore 6, 2) := by decide +kernel
theorem dX10_stands_30 : decode cX10_stands 30 = .ok (.iload_n 3, 1) := by decide +kernel
theorem dX10_stands_31 : decode cX10_stands 31 = .ok (.iload_n 2, 1) := by decide +kernel
theorem dX10_stands_32 : decode cX10_stands 32 = .ok (.iload 6, 2) := by decide +kernel
theorem dX10_stands_34 : decode cX10_stands 34 = .ok (.ifCond .le 16, 3) := by decide +kernel
theorem dX10_stands_37 : decode cX10_stands 37 = .ok (.aload_n 0, 1) := by decide +kernel
theorem dX10_stands_38 : decode cX10_stands 38 = .ok (.getfield 7, 3) := by decide +kernel
theorem dX10_stands_41 : decode cX10_stands 41 = .ok (.bipush 9, 2) := by decide +kernel
theorem dX10_stands_43 : decode cX10_stands 43 = .ok (.iaload, 1) := by decide +kernel
theorem dX10_stands_44 : decode cX10_stands 44 = .ok (.iload 6, 2) := by decide +kernel
theorem dX10_stands_46 : decode cX10_stands 46 = .ok (.imul, 1) := by decide +kernel
theorem dX10_stands_47 : decode cX10_stands 47 = .ok (.goto 4, 3) := by decide +kernel
theorem dX10_stands_50 : decode cX10_stands 50 = .ok (.iconst 0, 1) := by decide +kernel
theorem dX10_stands_51 : decode cX10_stands 51 = .ok (.isub, 1) := by decide +kernel
theorem dX10_stands_52 : decode cX10_stands 52 = .ok (.iadd, 1) := by decide +kernel
theorem dX10_stands_53 : decode cX10_stands 53 = .ok (.istore_n 3, 1) := by decide +kernel
theorem dX10_stands_54 : decode cX10_stands 54 = .ok (.iload_n 3, 1) := by decide +kernel
theorem dX10_stands_55 : decode cX10_stands 55 = .ok (.ifCond .lt 8, 3) := by decide +kernel
theorem dX10_stands_58 : decode cX10_stands 58 = .ok (.iload 5, 2) := by decide +kernel
theorem dX10_stands_60 : decode cX10_stands 60 = .ok (.goto 5, 3) := by decide +kernel
theorem dX10_stands_63 : decode cX10_stands 63 = .ok (.iload 4, 2) := by decide +kernel
theorem dX10_stands_65 : decode cX10_stands 65 = .ok (.istore 4, 2) := by decide +kernel
theorem dX10_stands_67 : decode cX10_stands 67 = .ok (.iinc 5 1, 3) := by decide +kernel
theorem dX10_stands_70 : decode cX10_stands 70 = .ok (.goto (-62), 3) := by decide +kernel
theorem dX10_stands_73 : decode cX10_stands 73 = .ok (.iload 4, 2) := by decide +kernel
theorem dX10_stands_75 : decode cX10_stands 75 = .ok (.ireturn, 1) := by decide +kernel
theorem dX10_isWarm_0 : decode cX10_isWarm 0 = .ok (.iload_n 0, 1) := by decide +kernel
theorem dX10_isWarm_1 : decode cX10_isWarm 1 = .ok (.i2l, 1) := by decide +kernel
theorem dX10_isWarm_2 : decode cX10_isWarm 2 = .ok (.lconst 0, 1) := by decide +kernel
theorem dX10_isWarm_3 : decode cX10_isWarm 3 = .ok (.ldc2_w 237, 3) := by decide +kernel
theorem dX10_isWarm_6 : decode cX10_isWarm 6 = .ok (.invokestatic 67, 3) := by decide +kernel
theorem dX10_isWarm_9 : decode cX10_isWarm 9 = .ok (.ireturn, 1) := by decide +kernel
theorem dX10_ice_0 : decode cX10_ice 0 = .ok (.iload_n 1, 1) := by decide +kernel
theorem dX10_ice_1 : decode cX10_ice 1 = .ok (.invokestatic 239, 3) := by decide +kernel
theorem dX10_ice_4 : decode cX10_ice 4 = .ok (.ifCond .eq 19, 3) := by decide +kernel
theorem dX10_ice_7 : decode cX10_ice 7 = .ok (.iload_n 2, 1) := by decide +kernel
theorem dX10_ice_8 : decode cX10_ice 8 = .ok (.invokestatic 239, 3) := by decide +kernel
theorem dX10_ice_11 : decode cX10_ice 11 = .ok (.ifCond .eq 12, 3) := by decide +kernel
theorem dX10_ice_14 : decode cX10_ice 14 = .ok (.aload_n 0, 1) := by decide +kernel
theorem dX10_ice_15 : decode cX10_ice 15 = .ok (.iload_n 1, 1) := by decide +kernel
theorem dX10_ice_16 : decode cX10_ice 16 = .ok (.iload_n 2, 1) := by decide +kernel
theorem dX10_ice_17 : decode cX10_ice 17 = .ok (.invokevirtual 242, 3) := by decide +kernel
theorem dX10_ice_20 : decode cX10_ice 20 = .ok (.goto 5, 3) := by decide +kernel
theorem dX10_ice_23 : decode cX10_ice 23 = .ok (.bipush (-10), 2) := by decide +kernel
theorem dX10_ice_25 : decode cX10_ice 25 = .ok (.ireturn, 1) := by decide +kernel
theorem dX10_warm_0 : decode cX10_warm 0 = .ok (.iload_n 1, 1) := by decide +kernel
theorem dX10_warm_1 : decode cX10_warm 1 = .ok (.i2l, 1) := by decide +kernel
theorem dX10_warm_2 : decode cX10_warm 2 = .ok (.lconst 0, 1) := by decide +kernel
theorem dX10_warm_3 : decode cX10_warm 3 = .ok (.ldc2_w 127, 3) := by decide +kernel
theorem dX10_warm_6 : decode cX10_warm 6 = .ok (.invokestatic 67, 3) := by decide +kernel
theorem dX10_warm_9 : decode cX10_warm 9 = .ok (.ifCond .eq 20, 3) := by decide +kernel
theorem dX10_warm_12 : decode cX10_warm 12 = .ok (.iload_n 2, 1) := by decide +kernel
theorem dX10_warm_13 : decode cX10_warm 13 = .ok (.invokestatic 239, 3) := by decide +kernel
theorem dX10_warm_16 : decode cX10_warm 16 = .ok (.ifCond .eq 13, 3) := by decide +kernel
theorem dX10_warm_19 : decode cX10_warm 19 = .ok (.iload_n 3, 1) := by decide +kernel
theorem dX10_warm_20 : decode cX10_warm 20 = .ok (.i2l, 1) := by decide +kernel
theorem dX10_warm_21 : decode cX10_warm 21 = .ok (.lconst 0, 1) := by decide +kernel
theorem dX10_warm_22 : decode cX10_warm 22 = .ok (.lconst 1, 1) := by decide +kernel
theorem dX10_warm_23 : decode cX10_warm 23 = .ok (.invokestatic 67, 3) := by decide +kernel
theorem dX10_warm_26 : decode cX10_warm 26 = .ok (.ifCond .ne 6, 3) := by decide +kernel
theorem dX10_warm_29 : decode cX10_warm 29 = .ok (.bipush (-2), 2) := by decide +kernel
theorem dX10_warm_31 : decode cX10_warm 31 = .ok (.ireturn, 1) := by decide +kernel
theorem dX10_warm_32 : decode cX10_warm 32 = .ok (.iconst (-1), 1) := by decide +kernel
theorem dX10_warm_33 : decode cX10_warm 33 = .ok (.istore 4, 2) := by decide +kernel
theorem dX10_warm_35 : decode cX10_warm 35 = .ok (.iconst 0, 1) := by decide +kernel
theorem dX10_warm_36 : decode cX10_warm 36 = .ok (.istore 5, 2) := by decide +kernel
theorem dX10_warm_38 : decode cX10_warm 38 = .ok (.iload 5, 2) := by decide +kernel
theorem dX10_warm_40 : decode cX10_warm 40 = .ok (.bipush 61, 2) := by decide +kernel
theorem dX10_warm_42 : decode cX10_warm 42 = .ok (.if_icmp .ge 40, 3) := by decide +kernel
theorem dX10_warm_45 : decode cX10_warm 45 = .ok (.aload_n 0, 1) := by decide +kernel
theorem dX10_warm_46 : decode cX10_warm 46 = .ok (.iload 5, 2) := by decide +kernel
theorem dX10_warm_48 : decode cX10_warm 48 = .ok (.iload_n 2, 1) := by decide +kernel
theorem dX10_warm_49 : decode cX10_warm 49 = .ok (.invokevirtual 242, 3) := by decide +kernel
theorem dX10_warm_52 : decode cX10_warm 52 = .ok (.iload_n 1, 1) := by decide +kernel
theorem dX10_warm_53 : decode cX10_warm 53 = .ok (.if_icmp .ne 19, 3) := by decide +kernel
theorem dX10_warm_56 : decode cX10_warm 56 = .ok (.iload_n 3, 1) := by decide +kernel
theorem dX10_warm_57 : decode cX10_warm 57 = .ok (.iconst 1, 1) := by decide +kernel
theorem dX10_warm_58 : decode cX10_warm 58 = .ok (.if_icmp .eq 9, 3) := by decide +kernel
theorem dX10_warm_61 : decode cX10_warm 61 = .ok (.iload 4, 2) := by decide +kernel
theorem dX10_warm_63 : decode cX10_warm 63 = .ok (.iconst (-1), 1) := by decide +kernel
theorem dX10_warm_64 : decode cX10_warm 64 = .ok (.if_icmp .ne 8, 3) := by decide +kernel
theorem dX10_warm_67 : decode cX10_warm 67 = .ok (.iload 5, 2) := by decide +kernel
theorem dX10_warm_69 : decode cX10_warm 69 = .ok (.goto 5, 3) := by decide +kernel
theorem dX10_warm_72 : decode cX10_warm 72 = .ok (.iload 4, 2) := by decide +kernel
theorem dX10_warm_74 : decode cX10_warm 74 = .ok (.istore 4, 2) := by decide +kernel
theorem dX10_warm_76 : decode cX10_warm 76 = .ok (.iinc 5 1, 3) := by decide +kernel
theorem dX10_warm_79 : decode cX10_warm 79 = .ok (.goto (-41), 3) := by decide +kernel
theorem dX10_warm_82 : decode cX10_warm 82 = .ok (.iload 4, 2) := by decide +kernel
theorem dX10_warm_84 : decode cX10_warm 84 = .ok (.ireturn, 1) := by decide +kernel
theorem dX10_type_0 : decode cX10_type 0 = .ok (.iload_n 3, 1) := by decide +kernel
theorem dX10_type_1 : decode cX10_type 1 = .ok (.i2l, 1) := by decide +kernel
theorem dX10_type_2 : decode cX10_type 2 = .ok (.lconst 1, 1) := by decide +kernel
theorem dX10_type_3 : decode cX10_type 3 = .ok (.ldc2_w 245, 3) := by decide +kernel
theorem dX10_type_6 : decode cX10_type 6 = .ok (.invokestatic 67, 3) := by decide +kernel
theorem dX10_type_9 : decode cX10_type 9 = .ok (.ifCond .ne 6, 3) := by decide +kernel
theorem dX10_type_12 : decode cX10_type 12 = .ok (.bipush (-2), 2) := by decide +kernel
theorem dX10_type_14 : decode cX10_type 14 = .ok (.ireturn, 1) := by decide +kernel
theorem dX10_type_15 : decode cX10_type 15 = .ok (.aload_n 0, 1) := by decide +kernel
theorem dX10_type_16 : decode cX10_type 16 = .ok (.getfield 247, 3) := by decide +kernel
theorem dX10_type_19 : decode cX10_type 19 = .ok (.iload_n 3, 1) := by decide +kernel
theorem dX10_type_20 : decode cX10_type 20 = .ok (.iadd, 1) := by decide +kernel
theorem dX10_type_21 : decode cX10_type 21 = .ok (.sipush 240, 3) := by decide +kernel
theorem dX10_type_24 : decode cX10_type 24 = .ok (.if_icmp .le 6, 3) := by decide +kernel
theorem dX10_type_27 : decode cX10_type 27 = .ok (.bipush (-4), 2) := by decide +kernel
theorem dX10_type_29 : decode cX10_type 29 = .ok (.ireturn, 1) := by decide +kernel
theorem dX10_type_30 : decode cX10_type 30 = .ok (.iload_n 3, 1) := by decide +kernel
theorem dX10_type_31 : decode cX10_type 31 = .ok (.iconst 1, 1) := by decide +kernel
theorem dX10_type_32 : decode cX10_type 32 = .ok (.isub, 1) := by decide +kernel
theorem dX10_type_33 : decode cX10_type 33 = .ok (.istore 4, 2) := by decide +kernel
theorem dX10_type_35 : decode cX10_type 35 = .ok (.iload 4, 2) := by decide +kernel
theorem dX10_type_37 : decode cX10_type 37 = .ok (.ifCond .lt 40, 3) := by decide +kernel
theorem dX10_type_40 : decode cX10_type 40 = .ok (.aload_n 0, 1) := by decide +kernel
theorem dX10_type_41 : decode cX10_type 41 = .ok (.getfield 56, 3) := by decide +kernel
theorem dX10_type_44 : decode cX10_type 44 = .ok (.aload_n 0, 1) := by decide +kernel
theorem dX10_type_45 : decode cX10_type 45 = .ok (.getfield 247, 3) := by decide +kernel
theorem dX10_type_48 : decode cX10_type 48 = .ok (.lload_n 1, 1) := by decide +kernel
theorem dX10_type_49 : decode cX10_type 49 = .ok (.bipush 8, 2) := by decide +kernel
theorem dX10_type_51 : decode cX10_type 51 = .ok (.iload 4, 2) := by decide +kernel
theorem dX10_type_53 : decode cX10_type 53 = .ok (.imul, 1) := by decide +kernel
theorem dX10_type_54 : decode cX10_type 54 = .ok (.lshr, 1) := by decide +kernel
theorem dX10_type_55 : decode cX10_type 55 = .ok (.ldc2_w 250, 3) := by decide +kernel
theorem dX10_type_58 : decode cX10_type 58 = .ok (.land, 1) := by decide +kernel
theorem dX10_type_59 : decode cX10_type 59 = .ok (.l2i, 1) := by decide +kernel
theorem dX10_type_60 : decode cX10_type 60 = .ok (.iastore, 1) := by decide +kernel
theorem dX10_type_61 : decode cX10_type 61 = .ok (.aload_n 0, 1) := by decide +kernel
theorem dX10_type_62 : decode cX10_type 62 = .ok (.dup, 1) := by decide +kernel
theorem dX10_type_63 : decode cX10_type 63 = .ok (.getfield 247, 3) := by decide +kernel
theorem dX10_type_66 : decode cX10_type 66 = .ok (.iconst 1, 1) := by decide +kernel
theorem dX10_type_67 : decode cX10_type 67 = .ok (.iadd, 1) := by decide +kernel
theorem dX10_type_68 : decode cX10_type 68 = .ok (.putfield 247, 3) := by decide +kernel
theorem dX10_type_71 : decode cX10_type 71 = .ok (.iinc 4 (-1), 3) := by decide +kernel
theorem dX10_type_74 : decode cX10_type 74 = .ok (.goto (-39), 3) := by decide +kernel
theorem dX10_type_77 : decode cX10_type 77 = .ok (.aload_n 0, 1) := by decide +kernel
theorem dX10_type_78 : decode cX10_type 78 = .ok (.getfield 247, 3) := by decide +kernel
theorem dX10_type_81 : decode cX10_type 81 = .ok (.ireturn, 1) := by decide +kernel
theorem dX10_clear_0 : decode cX10_clear 0 = .ok (.aload_n 0, 1) := by decide +kernel
theorem dX10_clear_1 : decode cX10_clear 1 = .ok (.getfield 247, 3) := by decide +kernel
theorem dX10_clear_4 : decode cX10_clear 4 = .ok (.istore_n 1, 1) := by decide +kernel
theorem dX10_clear_5 : decode cX10_clear 5 = .ok (.aload_n 0, 1) := by decide +kernel
theorem dX10_clear_6 : decode cX10_clear 6 = .ok (.iconst 0, 1) := by decide +kernel
theorem dX10_clear_7 : decode cX10_clear 7 = .ok (.putfield 247, 3) := by decide +kernel
theorem dX10_clear_10 : decode cX10_clear 10 = .ok (.iload_n 1, 1) := by decide +kernel
theorem dX10_clear_11 : decode cX10_clear 11 = .ok (.ireturn, 1) := by decide +kernel
theorem dX10_isAt_0 : decode cX10_isAt 0 = .ok (.aload_n 0, 1) := by decide +kernel
theorem dX10_isAt_1 : decode cX10_isAt 1 = .ok (.getfield 252, 3) := by decide +kernel
theorem dX10_isAt_4 : decode cX10_isAt 4 = .ok (.aload_n 0, 1) := by decide +kernel
theorem dX10_isAt_5 : decode cX10_isAt 5 = .ok (.getfield 247, 3) := by decide +kernel
theorem dX10_isAt_8 : decode cX10_isAt 8 = .ok (.if_icmp .ge 27, 3) := by decide +kernel
theorem dX10_isAt_11 : decode cX10_isAt 11 = .ok (.aload_n 0, 1) := by decide +kernel
theorem dX10_isAt_12 : decode cX10_isAt 12 = .ok (.getfield 56, 3) := by decide +kernel
theorem dX10_isAt_15 : decode cX10_isAt 15 = .ok (.aload_n 0, 1) := by decide +kernel
theorem dX10_isAt_16 : decode cX10_isAt 16 = .ok (.getfield 252, 3) := by decide +kernel
theorem dX10_isAt_19 : decode cX10_isAt 19 = .ok (.iaload, 1) := by decide +kernel
theorem dX10_isAt_20 : decode cX10_isAt 20 = .ok (.i2l, 1) := by decide +kernel
theorem dX10_isAt_21 : decode cX10_isAt 21 = .ok (.iload_n 1, 1) := by decide +kernel
theorem dX10_isAt_22 : decode cX10_isAt 22 = .ok (.i2l, 1) := by decide +kernel
theorem dX10_isAt_23 : decode cX10_isAt 23 = .ok (.iload_n 2, 1) := by decide +kernel
theorem dX10_isAt_24 : decode cX10_isAt 24 = .ok (.i2l, 1) := by decide +kernel
theorem dX10_isAt_25 : decode cX10_isAt 25 = .ok (.invokestatic 67, 3) := by decide +kernel
theorem dX10_isAt_28 : decode cX10_isAt 28 = .ok (.ifCond .eq 7, 3) := by decide +kernel
theorem dX10_isAt_31 : decode cX10_isAt 31 = .ok (.iconst 1, 1) := by decide +kernel
theorem dX10_isAt_32 : decode cX10_isAt 32 = .ok (.goto 4, 3) := by decide +kernel
theorem dX10_isAt_35 : decode cX10_isAt 35 = .ok (.iconst 0, 1) := by decide +kernel
theorem dX10_isAt_36 : decode cX10_isAt 36 = .ok (.ireturn, 1) := by decide +kernel
theorem dX10_wordOf_0 : decode cX10_wordOf 0 = .ok (.lload_n 0, 1) := by decide +kernel
theorem dX10_wordOf_1 : decode cX10_wordOf 1 = .ok (.ldc2_w 255, 3) := by decide +kernel
theorem dX10_wordOf_4 : decode cX10_wordOf 4 = .ok (.lcmp, 1) := by decide +kernel
theorem dX10_wordOf_5 : decode cX10_wordOf 5 = .ok (.ifCond .ne 8, 3) := by decide +kernel
theorem dX10_wordOf_8 : decode cX10_wordOf 8 = .ok (.bipush 10, 2) := by decide +kernel
theorem dX10_wordOf_10 : decode cX10_wordOf 10 = .ok (.goto 69, 3) := by decide +kernel
theorem dX10_wordOf_13 : decode cX10_wordOf 13 = .ok (.lload_n 0, 1) := by decide +kernel
theorem dX10_wordOf_14 : decode cX10_wordOf 14 = .ok (.ldc2_w 257, 3) := by decide +kernel
theorem dX10_wordOf_17 : decode cX10_wordOf 17 = .ok (.lcmp, 1) := by decide +kernel
theorem dX10_wordOf_18 : decode cX10_wordOf 18 = .ok (.ifCond .ne 8, 3) := by decide +kernel
theorem dX10_wordOf_21 : decode cX10_wordOf 21 = .ok (.bipush 11, 2) := by decide +kernel
theorem dX10_wordOf_23 : decode cX10_wordOf 23 = .ok (.goto 56, 3) := by decide +kernel
theorem dX10_wordOf_26 : decode cX10_wordOf 26 = .ok (.lload_n 0, 1) := by decide +kernel
theorem dX10_wordOf_27 : decode cX10_wordOf 27 = .ok (.ldc2_w 259, 3) := by decide +kernel
theorem dX10_wordOf_30 : decode cX10_wordOf 30 = .ok (.lcmp, 1) := by decide +kernel
theorem dX10_wordOf_31 : decode cX10_wordOf 31 = .ok (.ifCond .ne 8, 3) := by decide +kernel
theorem dX10_wordOf_34 : decode cX10_wordOf 34 = .ok (.bipush 12, 2) := by decide +kernel
theorem dX10_wordOf_36 : decode cX10_wordOf 36 = .ok (.goto 43, 3) := by decide +kernel
theorem dX10_wordOf_39 : decode cX10_wordOf 39 = .ok (.lload_n 0, 1) := by decide +kernel
theorem dX10_wordOf_40 : decode cX10_wordOf 40 = .ok (.ldc2_w 261, 3) := by decide +kernel
theorem dX10_wordOf_43 : decode cX10_wordOf 43 = .ok (.lcmp, 1) := by decide +kernel
theorem dX10_wordOf_44 : decode cX10_wordOf 44 = .ok (.ifCond .ne 8, 3) := by decide +kernel
theorem dX10_wordOf_47 : decode cX10_wordOf 47 = .ok (.bipush 13, 2) := by decide +kernel
theorem dX10_wordOf_49 : decode cX10_wordOf 49 = .ok (.goto 30, 3) := by decide +kernel
theorem dX10_wordOf_52 : decode cX10_wordOf 52 = .ok (.lload_n 0, 1) := by decide +kernel
theorem dX10_wordOf_53 : decode cX10_wordOf 53 = .ok (.ldc2_w 263, 3) := by decide +kernel
theorem dX10_wordOf_56 : decode cX10_wordOf 56 = .ok (.lcmp, 1) := by decide +kernel
theorem dX10_wordOf_57 : decode cX10_wordOf 57 = .ok (.ifCond .ne 8, 3) := by decide +kernel
theorem dX10_wordOf_60 : decode cX10_wordOf 60 = .ok (.bipush 14, 2) := by decide +kernel
theorem dX10_wordOf_62 : decode cX10_wordOf 62 = .ok (.goto 17, 3) := by decide +kernel
theorem dX10_wordOf_65 : decode cX10_wordOf 65 = .ok (.lload_n 0, 1) := by decide +kernel
theorem dX10_wordOf_66 : decode cX10_wordOf 66 = .ok (.ldc2_w 265, 3) := by decide +kernel
theorem dX10_wordOf_69 : decode cX10_wordOf 69 = .ok (.lcmp, 1) := by decide +kernel
theorem dX10_wordOf_70 : decode cX10_wordOf 70 = .ok (.ifCond .ne 8, 3) := by decide +kernel
theorem dX10_wordOf_73 : decode cX10_wordOf 73 = .ok (.bipush 15, 2) := by decide +kernel
theorem dX10_wordOf_75 : decode cX10_wordOf 75 = .ok (.goto 4, 3) := by decide +kernel
theorem dX10_wordOf_78 : decode cX10_wordOf 78 = .ok (.iconst 1, 1) := by decide +kernel
theorem dX10_wordOf_79 : decode cX10_wordOf 79 = .ok (.istore_n 2, 1) := by decide +kernel
theorem dX10_wordOf_80 : decode cX10_wordOf 80 = .ok (.lload_n 0, 1) := by decide +kernel
theorem dX10_wordOf_81 : decode cX10_wordOf 81 = .ok (.ldc2_w 267, 3) := by decide +kernel
theorem dX10_wordOf_84 : decode cX10_wordOf 84 = .ok (.lcmp, 1) := by decide +kernel
theorem dX10_wordOf_85 : decode cX10_wordOf 85 = .ok (.ifCond .ne 8, 3) := by decide +kernel
theorem dX10_wordOf_88 : decode cX10_wordOf 88 = .ok (.bipush 16, 2) := by decide +kernel
theorem dX10_wordOf_90 : decode cX10_wordOf 90 = .ok (.goto 69, 3) := by decide +kernel
theorem dX10_wordOf_93 : decode cX10_wordOf 93 = .ok (.lload_n 0, 1) := by decide +kernel
theorem dX10_wordOf_94 : decode cX10_wordOf 94 = .ok (.ldc2_w 269, 3) := by decide +kernel
theorem dX10_wordOf_97 : decode cX10_wordOf 97 = .ok (.lcmp, 1) := by decide +kernel
theorem dX10_wordOf_98 : decode cX10_wordOf 98 = .ok (.ifCond .ne 8, 3) := by decide +kernel
theorem dX10_wordOf_101 : decode cX10_wordOf 101 = .ok (.bipush 17, 2) := by decide +kernel
theorem dX10_wordOf_103 : decode cX10_wordOf 103 = .ok (.goto 56, 3) := by decide +kernel
theorem dX10_wordOf_106 : decode cX10_wordOf 106 = .ok (.lload_n 0, 1) := by decide +kernel
theorem dX10_wordOf_107 : decode cX10_wordOf 107 = .ok (.ldc2_w 271, 3) := by decide +kernel
theorem dX10_wordOf_110 : decode cX10_wordOf 110 = .ok (.lcmp, 1) := by decide +kernel
theorem dX10_wordOf_111 : decode cX10_wordOf 111 = .ok (.ifCond .ne 8, 3) := by decide +kernel
theorem dX10_wordOf_114 : decode cX10_wordOf 114 = .ok (.bipush 18, 2) := by decide +kernel
theorem dX10_wordOf_116 : decode cX10_wordOf 116 = .ok (.goto 43, 3) := by decide +kernel
theorem dX10_wordOf_119 : decode cX10_wordOf 119 = .ok (.lload_n 0, 1) := by decide +kernel
theorem dX10_wordOf_120 : decode cX10_wordOf 120 = .ok (.ldc2_w 273, 3) := by decide +kernel
theorem dX10_wordOf_123 : decode cX10_wordOf 123 = .ok (.lcmp, 1) := by decide +kernel
theorem dX10_wordOf_124 : decode cX10_wordOf 124 = .ok (.ifCond .ne 8, 3) := by decide +kernel
theorem dX10_wordOf_127 : decode cX10_wordOf 127 = .ok (.bipush 19, 2) := by decide +kernel
theorem dX10_wordOf_129 : decode cX10_wordOf 129 = .ok (.goto 30, 3) := by decide +kernel
theorem dX10_wordOf_132 : decode cX10_wordOf 132 = .ok (.lload_n 0, 1) := by decide +kernel
theorem dX10_wordOf_133 : decode cX10_wordOf 133 = .ok (.ldc2_w 275, 3) := by decide +kernel
theorem dX10_wordOf_136 : decode cX10_wordOf 136 = .ok (.lcmp, 1) := by decide +kernel
theorem dX10_wordOf_137 : decode cX10_wordOf 137 = .ok (.ifCond .ne 8, 3) := by decide +kernel
theorem dX10_wordOf_140 : decode cX10_wordOf 140 = .ok (.bipush 20, 2) := by decide +kernel
theorem dX10_wordOf_142 : decode cX10_wordOf 142 = .ok (.goto 17, 3) := by decide +kernel
theorem dX10_wordOf_145 : decode cX10_wordOf 145 = .ok (.lload_n 0, 1) := by decide +kernel
theorem dX10_wordOf_146 : decode cX10_wordOf 146 = .ok (.ldc2_w 277, 3) := by decide +kernel
theorem dX10_wordOf_149 : decode cX10_wordOf 149 = .ok (.lcmp, 1) := by decide +kernel
theorem dX10_wordOf_150 : decode cX10_wordOf 150 = .ok (.ifCond .ne 8, 3) := by decide +kernel
theorem dX10_wordOf_153 : decode cX10_wordOf 153 = .ok (.bipush 21, 2) := by decide +kernel
theorem dX10_wordOf_155 : decode cX10_wordOf 155 = .ok (.goto 4, 3) := by decide +kernel
theorem dX10_wordOf_158 : decode cX10_wordOf 158 = .ok (.iconst 1, 1) := by decide +kernel
theorem dX10_wordOf_159 : decode cX10_wordOf 159 = .ok (.istore_n 3, 1) := by decide +kernel
theorem dX10_wordOf_160 : decode cX10_wordOf 160 = .ok (.iload_n 2, 1) := by decide +kernel
theorem dX10_wordOf_161 : decode cX10_wordOf 161 = .ok (.iconst 1, 1) := by decide +kernel
theorem dX10_wordOf_162 : decode cX10_wordOf 162 = .ok (.if_icmp .eq 7, 3) := by decide +kernel
theorem dX10_wordOf_165 : decode cX10_wordOf 165 = .ok (.iload_n 2, 1) := by decide +kernel
theorem dX10_wordOf_166 : decode cX10_wordOf 166 = .ok (.goto 4, 3) := by decide +kernel
theorem dX10_wordOf_169 : decode cX10_wordOf 169 = .ok (.iload_n 3, 1) := by decide +kernel
theorem dX10_wordOf_170 : decode cX10_wordOf 170 = .ok (.ireturn, 1) := by decide +kernel
theorem dX10_scans_0 : decode cX10_scans 0 = .ok (.aload_n 0, 1) := by decide +kernel
theorem dX10_scans_1 : decode cX10_scans 1 = .ok (.bipush 32, 2) := by decide +kernel
theorem dX10_scans_3 : decode cX10_scans 3 = .ok (.bipush 32, 2) := by decide +kernel
theorem dX10_scans_5 : decode cX10_scans 5 = .ok (.invokevirtual 279, 3) := by decide +kernel
theorem dX10_scans_8 : decode cX10_scans 8 = .ok (.ifCond .eq 16, 3) := by decide +kernel
theorem dX10_scans_11 : decode cX10_scans 11 = .ok (.aload_n 0, 1) := by decide +kernel
theorem dX10_scans_12 : decode cX10_scans 12 = .ok (.dup, 1) := by decide +kernel
theorem dX10_scans_13 : decode cX10_scans 13 = .ok (.getfield 252, 3) := by decide +kernel
theorem dX10_scans_16 : decode cX10_scans 16 = .ok (.iconst 1, 1) := by decide +kernel
theorem dX10_scans_17 : decode cX10_scans 17 = .ok (.iadd, 1) := by decide +kernel
theorem dX10_scans_18 : decode cX10_scans 18 = .ok (.putfield 252, 3) := by decide +kernel
theorem dX10_scans_21 : decode cX10_scans 21 = .ok (.goto (-21), 3) := by decide +kernel
theorem dX10_scans_24 : decode cX10_scans 24 = .ok (.aload_n 0, 1) := by decide +kernel
theorem dX10_scans_25 : decode cX10_scans 25 = .ok (.aload_n 0, 1) := by decide +kernel
theorem dX10_scans_26 : decode cX10_scans 26 = .ok (.getfield 252, 3) := by decide +kernel
theorem dX10_scans_29 : decode cX10_scans 29 = .ok (.putfield 282, 3) := by decide +kernel
theorem dX10_scans_32 : decode cX10_scans 32 = .ok (.aload_n 0, 1) := by decide +kernel
theorem dX10_scans_33 : decode cX10_scans 33 = .ok (.getfield 252, 3) := by decide +kernel
theorem dX10_scans_36 : decode cX10_scans 36 = .ok (.aload_n 0, 1) := by decide +kernel
theorem dX10_scans_37 : decode cX10_scans 37 = .ok (.getfield 247, 3) := by decide +kernel
theorem dX10_scans_40 : decode cX10_scans 40 = .ok (.if_icmp .ne 9, 3) := by decide +kernel
theorem dX10_scans_43 : decode cX10_scans 43 = .ok (.aload_n 0, 1) := by decide +kernel
theorem dX10_scans_44 : decode cX10_scans 44 = .ok (.iconst 0, 1) := by decide +kernel
theorem dX10_scans_45 : decode cX10_scans 45 = .ok (.putfield 285, 3) := by decide +kernel
theorem dX10_scans_48 : decode cX10_scans 48 = .ok (.return_, 1) := by decide +kernel
theorem dX10_scans_49 : decode cX10_scans 49 = .ok (.aload_n 0, 1) := by decide +kernel
theorem dX10_scans_50 : decode cX10_scans 50 = .ok (.bipush 97, 2) := by decide +kernel
theorem dX10_scans_52 : decode cX10_scans 52 = .ok (.bipush 122, 2) := by decide +kernel
theorem dX10_scans_54 : decode cX10_scans 54 = .ok (.invokevirtual 279, 3) := by decide +kernel
theorem dX10_scans_57 : decode cX10_scans 57 = .ok (.ifCond .eq 97, 3) := by decide +kernel
theorem dX10_scans_60 : decode cX10_scans 60 = .ok (.lconst 0, 1) := by decide +kernel
theorem dX10_scans_61 : decode cX10_scans 61 = .ok (.lstore_n 1, 1) := by decide +kernel
theorem dX10_scans_62 : decode cX10_scans 62 = .ok (.aload_n 0, 1) := by decide +kernel
theorem dX10_scans_63 : decode cX10_scans 63 = .ok (.bipush 97, 2) := by decide +kernel
theorem dX10_scans_65 : decode cX10_scans 65 = .ok (.bipush 122, 2) := by decide +kernel
theorem dX10_scans_67 : decode cX10_scans 67 = .ok (.invokevirtual 279, 3) := by decide +kernel
theorem dX10_scans_70 : decode cX10_scans 70 = .ok (.ifCond .eq 57, 3) := by decide +kernel
theorem dX10_scans_73 : decode cX10_scans 73 = .ok (.aload_n 0, 1) := by decide +kernel
theorem dX10_scans_74 : decode cX10_scans 74 = .ok (.getfield 252, 3) := by decide +kernel
theorem dX10_scans_77 : decode cX10_scans 77 = .ok (.aload_n 0, 1) := by decide +kernel
theorem dX10_scans_78 : decode cX10_scans 78 = .ok (.getfield 282, 3) := by decide +kernel
theorem dX10_scans_81 : decode cX10_scans 81 = .ok (.isub, 1) := by decide +kernel
theorem dX10_scans_82 : decode cX10_scans 82 = .ok (.bipush 7, 2) := by decide +kernel
theorem dX10_scans_84 : decode cX10_scans 84 = .ok (.if_icmp .le 7, 3) := by decide +kernel
theorem dX10_scans_87 : decode cX10_scans 87 = .ok (.lconst 0, 1) := by decide +kernel
theorem dX10_scans_88 : decode cX10_scans 88 = .ok (.goto 25, 3) := by decide +kernel
theorem dX10_scans_91 : decode cX10_scans 91 = .ok (.ldc2_w 288, 3) := by decide +kernel
theorem dX10_scans_94 : decode cX10_scans 94 = .ok (.lload_n 1, 1) := by decide +kernel
theorem dX10_scans_95 : decode cX10_scans 95 = .ok (.lmul, 1) := by decide +kernel
theorem dX10_scans_96 : decode cX10_scans 96 = .ok (.aload_n 0, 1) := by decide +kernel
theorem dX10_scans_97 : decode cX10_scans 97 = .ok (.getfield 56, 3) := by decide +kernel
theorem dX10_scans_100 : decode cX10_scans 100 = .ok (.aload_n 0, 1) := by decide +kernel
theorem dX10_scans_101 : decode cX10_scans 101 = .ok (.getfield 252, 3) := by decide +kernel
theorem dX10_scans_104 : decode cX10_scans 104 = .ok (.iaload, 1) := by decide +kernel
theorem dX10_scans_105 : decode cX10_scans 105 = .ok (.i2l, 1) := by decide +kernel
theorem dX10_scans_106 : decode cX10_scans 106 = .ok (.ladd, 1) := by decide +kernel
theorem dX10_scans_107 : decode cX10_scans 107 = .ok (.ldc2_w 290, 3) := by decide +kernel
theorem dX10_scans_110 : decode cX10_scans 110 = .ok (.lsub, 1) := by decide +kernel
theorem dX10_scans_111 : decode cX10_scans 111 = .ok (.lconst 1, 1) := by decide +kernel
theorem dX10_scans_112 : decode cX10_scans 112 = .ok (.ladd, 1) := by decide +kernel
theorem dX10_scans_113 : decode cX10_scans 113 = .ok (.lstore_n 1, 1) := by decide +kernel
theorem dX10_scans_114 : decode cX10_scans 114 = .ok (.aload_n 0, 1) := by decide +kernel
theorem dX10_scans_115 : decode cX10_scans 115 = .ok (.dup, 1) := by decide +kernel
theorem dX10_scans_116 : decode cX10_scans 116 = .ok (.getfield 252, 3) := by decide +kernel
theorem dX10_scans_119 : decode cX10_scans 119 = .ok (.iconst 1, 1) := by decide +kernel
theorem dX10_scans_120 : decode cX10_scans 120 = .ok (.iadd, 1) := by decide +kernel
theorem dX10_scans_121 : decode cX10_scans 121 = .ok (.putfield 252, 3) := by decide +kernel
theorem dX10_scans_124 : decode cX10_scans 124 = .ok (.goto (-62), 3) := by decide +kernel
theorem dX10_scans_127 : decode cX10_scans 127 = .ok (.aload_n 0, 1) := by decide +kernel
theorem dX10_scans_128 : decode cX10_scans 128 = .ok (.aload_n 0, 1) := by decide +kernel
theorem dX10_scans_129 : decode cX10_scans 129 = .ok (.getfield 252, 3) := by decide +kernel
theorem dX10_scans_132 : decode cX10_scans 132 = .ok (.aload_n 0, 1) := by decide +kernel
theorem dX10_scans_133 : decode cX10_scans 133 = .ok (.getfield 282, 3) := by decide +kernel
theorem dX10_scans_136 : decode cX10_scans 136 = .ok (.isub, 1) := by decide +kernel
theorem dX10_scans_137 : decode cX10_scans 137 = .ok (.bipush 7, 2) := by decide +kernel
theorem dX10_scans_139 : decode cX10_scans 139 = .ok (.if_icmp .le 7, 3) := by decide +kernel
theorem dX10_scans_142 : decode cX10_scans 142 = .ok (.iconst 1, 1) := by decide +kernel
theorem dX10_scans_143 : decode cX10_scans 143 = .ok (.goto 7, 3) := by decide +kernel
theorem dX10_scans_146 : decode cX10_scans 146 = .ok (.lload_n 1, 1) := by decide +kernel
theorem dX10_scans_147 : decode cX10_scans 147 = .ok (.invokestatic 292, 3) := by decide +kernel
theorem dX10_scans_150 : decode cX10_scans 150 = .ok (.putfield 285, 3) := by decide +kernel
theorem dX10_scans_153 : decode cX10_scans 153 = .ok (.return_, 1) := by decide +kernel
theorem dX10_scans_154 : decode cX10_scans 154 = .ok (.aload_n 0, 1) := by decide +kernel
theorem dX10_scans_155 : decode cX10_scans 155 = .ok (.bipush 48, 2) := by decide +kernel
theorem dX10_scans_157 : decode cX10_scans 157 = .ok (.bipush 57, 2) := by decide +kernel
theorem dX10_scans_159 : decode cX10_scans 159 = .ok (.invokevirtual 279, 3) := by decide +kernel
theorem dX10_scans_162 : decode cX10_scans 162 = .ok (.ifCond .eq 99, 3) := by decide +kernel
theorem dX10_scans_165 : decode cX10_scans 165 = .ok (.aload_n 0, 1) := by decide +kernel
theorem dX10_scans_166 : decode cX10_scans 166 = .ok (.iconst 0, 1) := by decide +kernel
theorem dX10_scans_167 : decode cX10_scans 167 = .ok (.putfield 296, 3) := by decide +kernel
theorem dX10_scans_170 : decode cX10_scans 170 = .ok (.aload_n 0, 1) := by decide +kernel
theorem dX10_scans_171 : decode cX10_scans 171 = .ok (.bipush 48, 2) := by decide +kernel
theorem dX10_scans_173 : decode cX10_scans 173 = .ok (.bipush 57, 2) := by decide +kernel
theorem dX10_scans_175 : decode cX10_scans 175 = .ok (.invokevirtual 279, 3) := by decide +kernel
theorem dX10_scans_178 : decode cX10_scans 178 = .ok (.ifCond .eq 60, 3) := by decide +kernel
theorem dX10_scans_181 : decode cX10_scans 181 = .ok (.aload_n 0, 1) := by decide +kernel
theorem dX10_scans_182 : decode cX10_scans 182 = .ok (.aload_n 0, 1) := by decide +kernel
theorem dX10_scans_183 : decode cX10_scans 183 = .ok (.getfield 252, 3) := by decide +kernel
theorem dX10_scans_186 : decode cX10_scans 186 = .ok (.aload_n 0, 1) := by decide +kernel
theorem dX10_scans_187 : decode cX10_scans 187 = .ok (.getfield 282, 3) := by decide +kernel
theorem dX10_scans_190 : decode cX10_scans 190 = .ok (.isub, 1) := by decide +kernel
theorem dX10_scans_191 : decode cX10_scans 191 = .ok (.iconst 4, 1) := by decide +kernel
theorem dX10_scans_192 : decode cX10_scans 192 = .ok (.if_icmp .ge 26, 3) := by decide +kernel
theorem dX10_scans_195 : decode cX10_scans 195 = .ok (.bipush 10, 2) := by decide +kernel
theorem dX10_scans_197 : decode cX10_scans 197 = .ok (.aload_n 0, 1) := by decide +kernel
theorem dX10_scans_198 : decode cX10_scans 198 = .ok (.getfield 296, 3) := by decide +kernel
theorem dX10_scans_201 : decode cX10_scans 201 = .ok (.imul, 1) := by decide +kernel
theorem dX10_scans_202 : decode cX10_scans 202 = .ok (.aload_n 0, 1) := by decide +kernel
theorem dX10_scans_203 : decode cX10_scans 203 = .ok (.getfield 56, 3) := by decide +kernel
theorem dX10_scans_206 : decode cX10_scans 206 = .ok (.aload_n 0, 1) := by decide +kernel
theorem dX10_scans_207 : decode cX10_scans 207 = .ok (.getfield 252, 3) := by decide +kernel
theorem dX10_scans_210 : decode cX10_scans 210 = .ok (.iaload, 1) := by decide +kernel
theorem dX10_scans_211 : decode cX10_scans 211 = .ok (.iadd, 1) := by decide +kernel
theorem dX10_scans_212 : decode cX10_scans 212 = .ok (.bipush 48, 2) := by decide +kernel
theorem dX10_scans_214 : decode cX10_scans 214 = .ok (.isub, 1) := by decide +kernel
theorem dX10_scans_215 : decode cX10_scans 215 = .ok (.goto 7, 3) := by decide +kernel
theorem dX10_scans_218 : decode cX10_scans 218 = .ok (.aload_n 0, 1) := by decide +kernel
theorem dX10_scans_219 : decode cX10_scans 219 = .ok (.getfield 296, 3) := by decide +kernel
theorem dX10_scans_222 : decode cX10_scans 222 = .ok (.putfield 296, 3) := by decide +kernel
theorem dX10_scans_225 : decode cX10_scans 225 = .ok (.aload_n 0, 1) := by decide +kernel
theorem dX10_scans_226 : decode cX10_scans 226 = .ok (.dup, 1) := by decide +kernel
theorem dX10_scans_227 : decode cX10_scans 227 = .ok (.getfield 252, 3) := by decide +kernel
theorem dX10_scans_230 : decode cX10_scans 230 = .ok (.iconst 1, 1) := by decide +kernel
theorem dX10_scans_231 : decode cX10_scans 231 = .ok (.iadd, 1) := by decide +kernel
theorem dX10_scans_232 : decode cX10_scans 232 = .ok (.putfield 252, 3) := by decide +kernel
theorem dX10_scans_235 : decode cX10_scans 235 = .ok (.goto (-65), 3) := by decide +kernel
theorem dX10_scans_238 : decode cX10_scans 238 = .ok (.aload_n 0, 1) := by decide +kernel
theorem dX10_scans_239 : decode cX10_scans 239 = .ok (.aload_n 0, 1) := by decide +kernel
theorem dX10_scans_240 : decode cX10_scans 240 = .ok (.getfield 252, 3) := by decide +kernel
theorem dX10_scans_243 : decode cX10_scans 243 = .ok (.aload_n 0, 1) := by decide +kernel
theorem dX10_scans_244 : decode cX10_scans 244 = .ok (.getfield 282, 3) := by decide +kernel
theorem dX10_scans_247 : decode cX10_scans 247 = .ok (.isub, 1) := by decide +kernel
theorem dX10_scans_248 : decode cX10_scans 248 = .ok (.iconst 4, 1) := by decide +kernel
theorem dX10_scans_249 : decode cX10_scans 249 = .ok (.if_icmp .le 7, 3) := by decide +kernel
theorem dX10_scans_252 : decode cX10_scans 252 = .ok (.iconst 1, 1) := by decide +kernel
theorem dX10_scans_253 : decode cX10_scans 253 = .ok (.goto 4, 3) := by decide +kernel
theorem dX10_scans_256 : decode cX10_scans 256 = .ok (.iconst 2, 1) := by decide +kernel
theorem dX10_scans_257 : decode cX10_scans 257 = .ok (.putfield 285, 3) := by decide +kernel
theorem dX10_scans_260 : decode cX10_scans 260 = .ok (.return_, 1) := by decide +kernel
theorem dX10_scans_261 : decode cX10_scans 261 = .ok (.aload_n 0, 1) := by decide +kernel
theorem dX10_scans_262 : decode cX10_scans 262 = .ok (.aload_n 0, 1) := by decide +kernel
theorem dX10_scans_263 : decode cX10_scans 263 = .ok (.bipush 59, 2) := by decide +kernel
theorem dX10_scans_265 : decode cX10_scans 265 = .ok (.bipush 59, 2) := by decide +kernel
theorem dX10_scans_267 : decode cX10_scans 267 = .ok (.invokevirtual 279, 3) := by decide +kernel
theorem dX10_scans_270 : decode cX10_scans 270 = .ok (.ifCond .eq 7, 3) := by decide +kernel
theorem dX10_scans_273 : decode cX10_scans 273 = .ok (.iconst 3, 1) := by decide +kernel
theorem dX10_scans_274 : decode cX10_scans 274 = .ok (.goto 4, 3) := by decide +kernel
theorem dX10_scans_277 : decode cX10_scans 277 = .ok (.iconst 1, 1) := by decide +kernel
theorem dX10_scans_278 : decode cX10_scans 278 = .ok (.putfield 285, 3) := by decide +kernel
theorem dX10_scans_281 : decode cX10_scans 281 = .ok (.aload_n 0, 1) := by decide +kernel
theorem dX10_scans_282 : decode cX10_scans 282 = .ok (.dup, 1) := by decide +kernel
theorem dX10_scans_283 : decode cX10_scans 283 = .ok (.getfield 252, 3) := by decide +kernel
theorem dX10_scans_286 : decode cX10_scans 286 = .ok (.iconst 1, 1) := by decide +kernel
theorem dX10_scans_287 : decode cX10_scans 287 = .ok (.iadd, 1) := by decide +kernel
theorem dX10_scans_288 : decode cX10_scans 288 = .ok (.putfield 252, 3) := by decide +kernel
theorem dX10_scans_291 : decode cX10_scans 291 = .ok (.return_, 1) := by decide +kernel
theorem dX10_numbers_0 : decode cX10_numbers 0 = .ok (.iload_n 0, 1) := by decide +kernel
theorem dX10_numbers_1 : decode cX10_numbers 1 = .ok (.bipush 13, 2) := by decide +kernel
theorem dX10_numbers_3 : decode cX10_numbers 3 = .ok (.if_icmp .ne 7, 3) := by decide +kernel
theorem dX10_numbers_6 : decode cX10_numbers 6 = .ok (.iconst 0, 1) := by decide +kernel
theorem dX10_numbers_7 : decode cX10_numbers 7 = .ok (.goto 24, 3) := by decide +kernel
theorem dX10_numbers_10 : decode cX10_numbers 10 = .ok (.iload_n 0, 1) := by decide +kernel
theorem dX10_numbers_11 : decode cX10_numbers 11 = .ok (.bipush 13, 2) := by decide +kernel
theorem dX10_numbers_13 : decode cX10_numbers 13 = .ok (.if_icmp .ge 7, 3) := by decide +kernel
theorem dX10_numbers_16 : decode cX10_numbers 16 = .ok (.iconst 2, 1) := by decide +kernel
theorem dX10_numbers_17 : decode cX10_numbers 17 = .ok (.goto 14, 3) := by decide +kernel
theorem dX10_numbers_20 : decode cX10_numbers 20 = .ok (.iload_n 0, 1) := by decide +kernel
theorem dX10_numbers_21 : decode cX10_numbers 21 = .ok (.bipush 15, 2) := by decide +kernel
theorem dX10_numbers_23 : decode cX10_numbers 23 = .ok (.if_icmp .ne 7, 3) := by decide +kernel
theorem dX10_numbers_26 : decode cX10_numbers 26 = .ok (.iconst 4, 1) := by decide +kernel
theorem dX10_numbers_27 : decode cX10_numbers 27 = .ok (.goto 4, 3) := by decide +kernel
theorem dX10_numbers_30 : decode cX10_numbers 30 = .ok (.iconst 3, 1) := by decide +kernel
theorem dX10_numbers_31 : decode cX10_numbers 31 = .ok (.ireturn, 1) := by decide +kernel
theorem dX10_reads_0 : decode cX10_reads 0 = .ok (.aload_n 0, 1) := by decide +kernel
theorem dX10_reads_1 : decode cX10_reads 1 = .ok (.iconst 0, 1) := by decide +kernel
theorem dX10_reads_2 : decode cX10_reads 2 = .ok (.putfield 252, 3) := by decide +kernel
theorem dX10_reads_5 : decode cX10_reads 5 = .ok (.aload_n 0, 1) := by decide +kernel
theorem dX10_reads_6 : decode cX10_reads 6 = .ok (.iconst 0, 1) := by decide +kernel
theorem dX10_reads_7 : decode cX10_reads 7 = .ok (.putfield 299, 3) := by decide +kernel
theorem dX10_reads_10 : decode cX10_reads 10 = .ok (.aload_n 0, 1) := by decide +kernel
theorem dX10_reads_11 : decode cX10_reads 11 = .ok (.invokevirtual 302, 3) := by decide +kernel
theorem dX10_reads_14 : decode cX10_reads 14 = .ok (.aload_n 0, 1) := by decide +kernel
theorem dX10_reads_15 : decode cX10_reads 15 = .ok (.getfield 285, 3) := by decide +kernel
theorem dX10_reads_18 : decode cX10_reads 18 = .ok (.ifCond .eq 104, 3) := by decide +kernel
theorem dX10_reads_21 : decode cX10_reads 21 = .ok (.aload_n 0, 1) := by decide +kernel
theorem dX10_reads_22 : decode cX10_reads 22 = .ok (.getfield 285, 3) := by decide +kernel
theorem dX10_reads_25 : decode cX10_reads 25 = .ok (.istore_n 1, 1) := by decide +kernel
theorem dX10_reads_26 : decode cX10_reads 26 = .ok (.iload_n 1, 1) := by decide +kernel
theorem dX10_reads_27 : decode cX10_reads 27 = .ok (.bipush 10, 2) := by decide +kernel
theorem dX10_reads_29 : decode cX10_reads 29 = .ok (.if_icmp .ge 5, 3) := by decide +kernel
theorem dX10_reads_32 : decode cX10_reads 32 = .ok (.iconst 0, 1) := by decide +kernel
theorem dX10_reads_33 : decode cX10_reads 33 = .ok (.ireturn, 1) := by decide +kernel
theorem dX10_reads_34 : decode cX10_reads 34 = .ok (.aload_n 0, 1) := by decide +kernel
theorem dX10_reads_35 : decode cX10_reads 35 = .ok (.invokevirtual 302, 3) := by decide +kernel
theorem dX10_reads_38 : decode cX10_reads 38 = .ok (.iconst 0, 1) := by decide +kernel
theorem dX10_reads_39 : decode cX10_reads 39 = .ok (.istore_n 2, 1) := by decide +kernel
theorem dX10_reads_40 : decode cX10_reads 40 = .ok (.iload_n 2, 1) := by decide +kernel
theorem dX10_reads_41 : decode cX10_reads 41 = .ok (.iload_n 1, 1) := by decide +kernel
theorem dX10_reads_42 : decode cX10_reads 42 = .ok (.invokestatic 305, 3) := by decide +kernel
theorem dX10_reads_45 : decode cX10_reads 45 = .ok (.if_icmp .ge 40, 3) := by decide +kernel
theorem dX10_reads_48 : decode cX10_reads 48 = .ok (.aload_n 0, 1) := by decide +kernel
theorem dX10_reads_49 : decode cX10_reads 49 = .ok (.getfield 285, 3) := by decide +kernel
theorem dX10_reads_52 : decode cX10_reads 52 = .ok (.iconst 2, 1) := by decide +kernel
theorem dX10_reads_53 : decode cX10_reads 53 = .ok (.if_icmp .eq 5, 3) := by decide +kernel
theorem dX10_reads_56 : decode cX10_reads 56 = .ok (.iconst 0, 1) := by decide +kernel
theorem dX10_reads_57 : decode cX10_reads 57 = .ok (.ireturn, 1) := by decide +kernel
theorem dX10_reads_58 : decode cX10_reads 58 = .ok (.aload_n 0, 1) := by decide +kernel
theorem dX10_reads_59 : decode cX10_reads 59 = .ok (.getfield 62, 3) := by decide +kernel
theorem dX10_reads_62 : decode cX10_reads 62 = .ok (.iconst 4, 1) := by decide +kernel
theorem dX10_reads_63 : decode cX10_reads 63 = .ok (.aload_n 0, 1) := by decide +kernel
theorem dX10_reads_64 : decode cX10_reads 64 = .ok (.getfield 299, 3) := by decide +kernel
theorem dX10_reads_67 : decode cX10_reads 67 = .ok (.imul, 1) := by decide +kernel
theorem dX10_reads_68 : decode cX10_reads 68 = .ok (.iload_n 2, 1) := by decide +kernel
theorem dX10_reads_69 : decode cX10_reads 69 = .ok (.iadd, 1) := by decide +kernel
theorem dX10_reads_70 : decode cX10_reads 70 = .ok (.aload_n 0, 1) := by decide +kernel
theorem dX10_reads_71 : decode cX10_reads 71 = .ok (.getfield 296, 3) := by decide +kernel
theorem dX10_reads_74 : decode cX10_reads 74 = .ok (.iastore, 1) := by decide +kernel
theorem dX10_reads_75 : decode cX10_reads 75 = .ok (.aload_n 0, 1) := by decide +kernel
theorem dX10_reads_76 : decode cX10_reads 76 = .ok (.invokevirtual 302, 3) := by decide +kernel
theorem dX10_reads_79 : decode cX10_reads 79 = .ok (.iinc 2 1, 3) := by decide +kernel
theorem dX10_reads_82 : decode cX10_reads 82 = .ok (.goto (-42), 3) := by decide +kernel
theorem dX10_reads_85 : decode cX10_reads 85 = .ok (.aload_n 0, 1) := by decide +kernel
theorem dX10_reads_86 : decode cX10_reads 86 = .ok (.getfield 285, 3) := by decide +kernel
theorem dX10_reads_89 : decode cX10_reads 89 = .ok (.iconst 3, 1) := by decide +kernel
theorem dX10_reads_90 : decode cX10_reads 90 = .ok (.if_icmp .eq 5, 3) := by decide +kernel
theorem dX10_reads_93 : decode cX10_reads 93 = .ok (.iconst 0, 1) := by decide +kernel
theorem dX10_reads_94 : decode cX10_reads 94 = .ok (.ireturn, 1) := by decide +kernel
theorem dX10_reads_95 : decode cX10_reads 95 = .ok (.aload_n 0, 1) := by decide +kernel
theorem dX10_reads_96 : decode cX10_reads 96 = .ok (.getfield 59, 3) := by decide +kernel
theorem dX10_reads_99 : decode cX10_reads 99 = .ok (.aload_n 0, 1) := by decide +kernel
theorem dX10_reads_100 : decode cX10_reads 100 = .ok (.getfield 299, 3) := by decide +kernel
theorem dX10_reads_103 : decode cX10_reads 103 = .ok (.iload_n 1, 1) := by decide +kernel
theorem dX10_reads_104 : decode cX10_reads 104 = .ok (.iastore, 1) := by decide +kernel
theorem dX10_reads_105 : decode cX10_reads 105 = .ok (.aload_n 0, 1) := by decide +kernel
theorem dX10_reads_106 : decode cX10_reads 106 = .ok (.dup, 1) := by decide +kernel
theorem dX10_reads_107 : decode cX10_reads 107 = .ok (.getfield 299, 3) := by decide +kernel
theorem dX10_reads_110 : decode cX10_reads 110 = .ok (.iconst 1, 1) := by decide +kernel
theorem dX10_reads_111 : decode cX10_reads 111 = .ok (.iadd, 1) := by decide +kernel
theorem dX10_reads_112 : decode cX10_reads 112 = .ok (.putfield 299, 3) := by decide +kernel
theorem dX10_reads_115 : decode cX10_reads 115 = .ok (.aload_n 0, 1) := by decide +kernel
theorem dX10_reads_116 : decode cX10_reads 116 = .ok (.invokevirtual 302, 3) := by decide +kernel
theorem dX10_reads_119 : decode cX10_reads 119 = .ok (.goto (-105), 3) := by decide +kernel
theorem dX10_reads_122 : decode cX10_reads 122 = .ok (.iconst 1, 1) := by decide +kernel
theorem dX10_reads_123 : decode cX10_reads 123 = .ok (.ireturn, 1) := by decide +kernel
theorem dX10_fault_0 : decode cX10_fault 0 = .ok (.aload_n 0, 1) := by decide +kernel
theorem dX10_fault_1 : decode cX10_fault 1 = .ok (.invokevirtual 308, 3) := by decide +kernel
theorem dX10_fault_4 : decode cX10_fault 4 = .ok (.ifCond .eq 7, 3) := by decide +kernel
theorem dX10_fault_7 : decode cX10_fault 7 = .ok (.iconst (-1), 1) := by decide +kernel
theorem dX10_fault_8 : decode cX10_fault 8 = .ok (.goto 7, 3) := by decide +kernel
theorem dX10_fault_11 : decode cX10_fault 11 = .ok (.aload_n 0, 1) := by decide +kernel
theorem dX10_fault_12 : decode cX10_fault 12 = .ok (.getfield 282, 3) := by decide +kernel
theorem dX10_fault_15 : decode cX10_fault 15 = .ok (.ireturn, 1) := by decide +kernel
theorem dX10_tellsItem_0 : decode cX10_tellsItem 0 = .ok (.aload_n 0, 1) := by decide +kernel
theorem dX10_tellsItem_1 : decode cX10_tellsItem 1 = .ok (.getfield 62, 3) := by decide +kernel
theorem dX10_tellsItem_4 : decode cX10_tellsItem 4 = .ok (.iconst 4, 1) := by decide +kernel
theorem dX10_tellsItem_5 : decode cX10_tellsItem 5 = .ok (.iload_n 1, 1) := by decide +kernel
theorem dX10_tellsItem_6 : decode cX10_tellsItem 6 = .ok (.imul, 1) := by decide +kernel
theorem dX10_tellsItem_7 : decode cX10_tellsItem 7 = .ok (.iaload, 1) := by decide +kernel
theorem dX10_tellsItem_8 : decode cX10_tellsItem 8 = .ok (.istore_n 2, 1) := by decide +kernel
theorem dX10_tellsItem_9 : decode cX10_tellsItem 9 = .ok (.aload_n 0, 1) := by decide +kernel
theorem dX10_tellsItem_10 : decode cX10_tellsItem 10 = .ok (.getfield 62, 3) := by decide +kernel
theorem dX10_tellsItem_13 : decode cX10_tellsItem 13 = .ok (.iconst 4, 1) := by decide +kernel
theorem dX10_tellsItem_14 : decode cX10_tellsItem 14 = .ok (.iload_n 1, 1) := by decide +kernel
theorem dX10_tellsItem_15 : decode cX10_tellsItem 15 = .ok (.imul, 1) := by decide +kernel
theorem dX10_tellsItem_16 : decode cX10_tellsItem 16 = .ok (.iconst 1, 1) := by decide +kernel
theorem dX10_tellsItem_17 : decode cX10_tellsItem 17 = .ok (.iadd, 1) := by decide +kernel
theorem dX10_tellsItem_18 : decode cX10_tellsItem 18 = .ok (.iaload, 1) := by decide +kernel
theorem dX10_tellsItem_19 : decode cX10_tellsItem 19 = .ok (.istore_n 3, 1) := by decide +kernel
theorem dX10_tellsItem_20 : decode cX10_tellsItem 20 = .ok (.aload_n 0, 1) := by decide +kernel
theorem dX10_tellsItem_21 : decode cX10_tellsItem 21 = .ok (.getfield 62, 3) := by decide +kernel
theorem dX10_tellsItem_24 : decode cX10_tellsItem 24 = .ok (.iconst 4, 1) := by decide +kernel
theorem dX10_tellsItem_25 : decode cX10_tellsItem 25 = .ok (.iload_n 1, 1) := by decide +kernel
theorem dX10_tellsItem_26 : decode cX10_tellsItem 26 = .ok (.imul, 1) := by decide +kernel
theorem dX10_tellsItem_27 : decode cX10_tellsItem 27 = .ok (.iconst 2, 1) := by decide +kernel
theorem dX10_tellsItem_28 : decode cX10_tellsItem 28 = .ok (.iadd, 1) := by decide +kernel
theorem dX10_tellsItem_29 : decode cX10_tellsItem 29 = .ok (.iaload, 1) := by decide +kernel
theorem dX10_tellsItem_30 : decode cX10_tellsItem 30 = .ok (.istore 4, 2) := by decide +kernel
theorem dX10_tellsItem_32 : decode cX10_tellsItem 32 = .ok (.aload_n 0, 1) := by decide +kernel
theorem dX10_tellsItem_33 : decode cX10_tellsItem 33 = .ok (.getfield 59, 3) := by decide +kernel
theorem dX10_tellsItem_36 : decode cX10_tellsItem 36 = .ok (.iload_n 1, 1) := by decide +kernel
theorem dX10_tellsItem_37 : decode cX10_tellsItem 37 = .ok (.iaload, 1) := by decide +kernel
theorem dX10_tellsItem_38 : decode cX10_tellsItem 38 = .ok (.istore 5, 2) := by decide +kernel
theorem dX10_tellsItem_40 : decode cX10_tellsItem 40 = .ok (.iload 5, 2) := by decide +kernel
theorem dX10_tellsItem_42 : decode cX10_tellsItem 42 = .ok (.tableswitch 102 10 21 #[62, 69, 76, 83, 102, 102, 102, 102, 102, 88, 88, 88], 62) := by decide +kernel
theorem dX10_tellsItem_104 : decode cX10_tellsItem 104 = .ok (.aload_n 0, 1) := by decide +kernel
theorem dX10_tellsItem_105 : decode cX10_tellsItem 105 = .ok (.iload_n 2, 1) := by decide +kernel
theorem dX10_tellsItem_106 : decode cX10_tellsItem 106 = .ok (.iload_n 3, 1) := by decide +kernel
theorem dX10_tellsItem_107 : decode cX10_tellsItem 107 = .ok (.invokevirtual 312, 3) := by decide +kernel
theorem dX10_tellsItem_110 : decode cX10_tellsItem 110 = .ok (.ireturn, 1) := by decide +kernel
theorem dX10_tellsItem_111 : decode cX10_tellsItem 111 = .ok (.aload_n 0, 1) := by decide +kernel
theorem dX10_tellsItem_112 : decode cX10_tellsItem 112 = .ok (.iload_n 2, 1) := by decide +kernel
theorem dX10_tellsItem_113 : decode cX10_tellsItem 113 = .ok (.iload_n 3, 1) := by decide +kernel
theorem dX10_tellsItem_114 : decode cX10_tellsItem 114 = .ok (.invokevirtual 315, 3) := by decide +kernel
theorem dX10_tellsItem_117 : decode cX10_tellsItem 117 = .ok (.ireturn, 1) := by decide +kernel
theorem dX10_tellsItem_118 : decode cX10_tellsItem 118 = .ok (.aload_n 0, 1) := by decide +kernel
theorem dX10_tellsItem_119 : decode cX10_tellsItem 119 = .ok (.iload_n 2, 1) := by decide +kernel
theorem dX10_tellsItem_120 : decode cX10_tellsItem 120 = .ok (.iload_n 3, 1) := by decide +kernel
theorem dX10_tellsItem_121 : decode cX10_tellsItem 121 = .ok (.invokevirtual 318, 3) := by decide +kernel
theorem dX10_tellsItem_124 : decode cX10_tellsItem 124 = .ok (.ireturn, 1) := by decide +kernel
theorem dX10_tellsItem_125 : decode cX10_tellsItem 125 = .ok (.aload_n 0, 1) := by decide +kernel
theorem dX10_tellsItem_126 : decode cX10_tellsItem 126 = .ok (.invokevirtual 321, 3) := by decide +kernel
theorem dX10_tellsItem_129 : decode cX10_tellsItem 129 = .ok (.ireturn, 1) := by decide +kernel
theorem dX10_tellsItem_130 : decode cX10_tellsItem 130 = .ok (.aload_n 0, 1) := by decide +kernel
theorem dX10_tellsItem_131 : decode cX10_tellsItem 131 = .ok (.iload 5, 2) := by decide +kernel
theorem dX10_tellsItem_133 : decode cX10_tellsItem 133 = .ok (.bipush 19, 2) := by decide +kernel
theorem dX10_tellsItem_135 : decode cX10_tellsItem 135 = .ok (.isub, 1) := by decide +kernel
theorem dX10_tellsItem_136 : decode cX10_tellsItem 136 = .ok (.iload_n 2, 1) := by decide +kernel
theorem dX10_tellsItem_137 : decode cX10_tellsItem 137 = .ok (.iload_n 3, 1) := by decide +kernel
theorem dX10_tellsItem_138 : decode cX10_tellsItem 138 = .ok (.iload 4, 2) := by decide +kernel
theorem dX10_tellsItem_140 : decode cX10_tellsItem 140 = .ok (.invokevirtual 324, 3) := by decide +kernel
theorem dX10_tellsItem_143 : decode cX10_tellsItem 143 = .ok (.ireturn, 1) := by decide +kernel
theorem dX10_tellsItem_144 : decode cX10_tellsItem 144 = .ok (.aload_n 0, 1) := by decide +kernel
theorem dX10_tellsItem_145 : decode cX10_tellsItem 145 = .ok (.iload_n 2, 1) := by decide +kernel
theorem dX10_tellsItem_146 : decode cX10_tellsItem 146 = .ok (.iload 5, 2) := by decide +kernel
theorem dX10_tellsItem_148 : decode cX10_tellsItem 148 = .ok (.bipush 14, 2) := by decide +kernel
theorem dX10_tellsItem_150 : decode cX10_tellsItem 150 = .ok (.isub, 1) := by decide +kernel
theorem dX10_tellsItem_151 : decode cX10_tellsItem 151 = .ok (.iload_n 3, 1) := by decide +kernel
theorem dX10_tellsItem_152 : decode cX10_tellsItem 152 = .ok (.iload 4, 2) := by decide +kernel
theorem dX10_tellsItem_154 : decode cX10_tellsItem 154 = .ok (.iload 5, 2) := by decide +kernel
theorem dX10_tellsItem_156 : decode cX10_tellsItem 156 = .ok (.bipush 15, 2) := by decide +kernel
theorem dX10_tellsItem_158 : decode cX10_tellsItem 158 = .ok (.if_icmp .ne 16, 3) := by decide +kernel
theorem dX10_tellsItem_161 : decode cX10_tellsItem 161 = .ok (.aload_n 0, 1) := by decide +kernel
theorem dX10_tellsItem_162 : decode cX10_tellsItem 162 = .ok (.getfield 62, 3) := by decide +kernel
theorem dX10_tellsItem_165 : decode cX10_tellsItem 165 = .ok (.iconst 4, 1) := by decide +kernel
theorem dX10_tellsItem_166 : decode cX10_tellsItem 166 = .ok (.iload_n 1, 1) := by decide +kernel
theorem dX10_tellsItem_167 : decode cX10_tellsItem 167 = .ok (.imul, 1) := by decide +kernel
theorem dX10_tellsItem_168 : decode cX10_tellsItem 168 = .ok (.iconst 3, 1) := by decide +kernel
theorem dX10_tellsItem_169 : decode cX10_tellsItem 169 = .ok (.iadd, 1) := by decide +kernel
theorem dX10_tellsItem_170 : decode cX10_tellsItem 170 = .ok (.iaload, 1) := by decide +kernel
theorem dX10_tellsItem_171 : decode cX10_tellsItem 171 = .ok (.goto 4, 3) := by decide +kernel
theorem dX10_tellsItem_174 : decode cX10_tellsItem 174 = .ok (.iconst 0, 1) := by decide +kernel
theorem dX10_tellsItem_175 : decode cX10_tellsItem 175 = .ok (.invokevirtual 327, 3) := by decide +kernel
theorem dX10_tellsItem_178 : decode cX10_tellsItem 178 = .ok (.ireturn, 1) := by decide +kernel
theorem dX10_read_0 : decode cX10_read 0 = .ok (.aload_n 0, 1) := by decide +kernel
theorem dX10_read_1 : decode cX10_read 1 = .ok (.invokevirtual 308, 3) := by decide +kernel
theorem dX10_read_4 : decode cX10_read 4 = .ok (.ifCond .ne 11, 3) := by decide +kernel
theorem dX10_read_7 : decode cX10_read 7 = .ok (.bipush (-10), 2) := by decide +kernel
theorem dX10_read_9 : decode cX10_read 9 = .ok (.aload_n 0, 1) := by decide +kernel
theorem dX10_read_10 : decode cX10_read 10 = .ok (.getfield 282, 3) := by decide +kernel
theorem dX10_read_13 : decode cX10_read 13 = .ok (.isub, 1) := by decide +kernel
theorem dX10_read_14 : decode cX10_read 14 = .ok (.ireturn, 1) := by decide +kernel
theorem dX10_read_15 : decode cX10_read 15 = .ok (.iconst 0, 1) := by decide +kernel
theorem dX10_read_16 : decode cX10_read 16 = .ok (.istore_n 1, 1) := by decide +kernel
theorem dX10_read_17 : decode cX10_read 17 = .ok (.iload_n 1, 1) := by decide +kernel
theorem dX10_read_18 : decode cX10_read 18 = .ok (.sipush 460, 3) := by decide +kernel
theorem dX10_read_21 : decode cX10_read 21 = .ok (.if_icmp .ge 21, 3) := by decide +kernel
theorem dX10_read_24 : decode cX10_read 24 = .ok (.aload_n 0, 1) := by decide +kernel
theorem dX10_read_25 : decode cX10_read 25 = .ok (.getfield 20, 3) := by decide +kernel
theorem dX10_read_28 : decode cX10_read 28 = .ok (.iload_n 1, 1) := by decide +kernel
theorem dX10_read_29 : decode cX10_read 29 = .ok (.aload_n 0, 1) := by decide +kernel
theorem dX10_read_30 : decode cX10_read 30 = .ok (.getfield 7, 3) := by decide +kernel
theorem dX10_read_33 : decode cX10_read 33 = .ok (.iload_n 1, 1) := by decide +kernel
theorem dX10_read_34 : decode cX10_read 34 = .ok (.iaload, 1) := by decide +kernel
theorem dX10_read_35 : decode cX10_read 35 = .ok (.iastore, 1) := by decide +kernel
theorem dX10_read_36 : decode cX10_read 36 = .ok (.iinc 1 1, 3) := by decide +kernel
theorem dX10_read_39 : decode cX10_read 39 = .ok (.goto (-22), 3) := by decide +kernel
theorem dX10_read_42 : decode cX10_read 42 = .ok (.iconst 0, 1) := by decide +kernel
theorem dX10_read_43 : decode cX10_read 43 = .ok (.istore_n 1, 1) := by decide +kernel
theorem dX10_read_44 : decode cX10_read 44 = .ok (.iload_n 1, 1) := by decide +kernel
theorem dX10_read_45 : decode cX10_read 45 = .ok (.aload_n 0, 1) := by decide +kernel
theorem dX10_read_46 : decode cX10_read 46 = .ok (.getfield 299, 3) := by decide +kernel
theorem dX10_read_49 : decode cX10_read 49 = .ok (.if_icmp .ge 50, 3) := by decide +kernel
theorem dX10_read_52 : decode cX10_read 52 = .ok (.aload_n 0, 1) := by decide +kernel
theorem dX10_read_53 : decode cX10_read 53 = .ok (.iload_n 1, 1) := by decide +kernel
theorem dX10_read_54 : decode cX10_read 54 = .ok (.invokevirtual 330, 3) := by decide +kernel
theorem dX10_read_57 : decode cX10_read 57 = .ok (.ifCond .ge 36, 3) := by decide +kernel
theorem dX10_read_60 : decode cX10_read 60 = .ok (.iconst 0, 1) := by decide +kernel
theorem dX10_read_61 : decode cX10_read 61 = .ok (.istore_n 2, 1) := by decide +kernel
theorem dX10_read_62 : decode cX10_read 62 = .ok (.iload_n 2, 1) := by decide +kernel
theorem dX10_read_63 : decode cX10_read 63 = .ok (.sipush 460, 3) := by decide +kernel
theorem dX10_read_66 : decode cX10_read 66 = .ok (.if_icmp .ge 21, 3) := by decide +kernel
theorem dX10_read_69 : decode cX10_read 69 = .ok (.aload_n 0, 1) := by decide +kernel
theorem dX10_read_70 : decode cX10_read 70 = .ok (.getfield 7, 3) := by decide +kernel
theorem dX10_read_73 : decode cX10_read 73 = .ok (.iload_n 2, 1) := by decide +kernel
theorem dX10_read_74 : decode cX10_read 74 = .ok (.aload_n 0, 1) := by decide +kernel
theorem dX10_read_75 : decode cX10_read 75 = .ok (.getfield 20, 3) := by decide +kernel
theorem dX10_read_78 : decode cX10_read 78 = .ok (.iload_n 2, 1) := by decide +kernel
theorem dX10_read_79 : decode cX10_read 79 = .ok (.iaload, 1) := by decide +kernel
theorem dX10_read_80 : decode cX10_read 80 = .ok (.iastore, 1) := by decide +kernel
theorem dX10_read_81 : decode cX10_read 81 = .ok (.iinc 2 1, 3) := by decide +kernel
theorem dX10_read_84 : decode cX10_read 84 = .ok (.goto (-22), 3) := by decide +kernel
theorem dX10_read_87 : decode cX10_read 87 = .ok (.sipush (-1000), 3) := by decide +kernel
theorem dX10_read_90 : decode cX10_read 90 = .ok (.iload_n 1, 1) := by decide +kernel
theorem dX10_read_91 : decode cX10_read 91 = .ok (.isub, 1) := by decide +kernel
theorem dX10_read_92 : decode cX10_read 92 = .ok (.ireturn, 1) := by decide +kernel
theorem dX10_read_93 : decode cX10_read 93 = .ok (.iinc 1 1, 3) := by decide +kernel
theorem dX10_read_96 : decode cX10_read 96 = .ok (.goto (-52), 3) := by decide +kernel
theorem dX10_read_99 : decode cX10_read 99 = .ok (.aload_n 0, 1) := by decide +kernel
theorem dX10_read_100 : decode cX10_read 100 = .ok (.iconst 0, 1) := by decide +kernel
theorem dX10_read_101 : decode cX10_read 101 = .ok (.putfield 247, 3) := by decide +kernel
theorem dX10_read_104 : decode cX10_read 104 = .ok (.aload_n 0, 1) := by decide +kernel
theorem dX10_read_105 : decode cX10_read 105 = .ok (.getfield 299, 3) := by decide +kernel
theorem dX10_read_108 : decode cX10_read 108 = .ok (.ireturn, 1) := by decide +kernel
theorem dX10_image_0 : decode cX10_image 0 = .ok (.iload_n 1, 1) := by decide +kernel
theorem dX10_image_1 : decode cX10_image 1 = .ok (.i2l, 1) := by decide +kernel
theorem dX10_image_2 : decode cX10_image 2 = .ok (.lconst 0, 1) := by decide +kernel
theorem dX10_image_3 : decode cX10_image 3 = .ok (.lconst 1, 1) := by decide +kernel
theorem dX10_image_4 : decode cX10_image 4 = .ok (.invokestatic 67, 3) := by decide +kernel
theorem dX10_image_7 : decode cX10_image 7 = .ok (.ifCond .ne 6, 3) := by decide +kernel
theorem dX10_image_10 : decode cX10_image 10 = .ok (.bipush (-2), 2) := by decide +kernel
theorem dX10_image_12 : decode cX10_image 12 = .ok (.ireturn, 1) := by decide +kernel
theorem dX10_image_13 : decode cX10_image 13 = .ok (.iconst 0, 1) := by decide +kernel
theorem dX10_image_14 : decode cX10_image 14 = .ok (.istore_n 2, 1) := by decide +kernel
theorem dX10_image_15 : decode cX10_image 15 = .ok (.iload_n 2, 1) := by decide +kernel
theorem dX10_image_16 : decode cX10_image 16 = .ok (.sipush 460, 3) := by decide +kernel
theorem dX10_image_19 : decode cX10_image 19 = .ok (.if_icmp .ge 27, 3) := by decide +kernel
theorem dX10_image_22 : decode cX10_image 22 = .ok (.aload_n 0, 1) := by decide +kernel
theorem dX10_image_23 : decode cX10_image 23 = .ok (.getfield 13, 3) := by decide +kernel
theorem dX10_image_26 : decode cX10_image 26 = .ok (.sipush 460, 3) := by decide +kernel
theorem dX10_image_29 : decode cX10_image 29 = .ok (.iload_n 1, 1) := by decide +kernel
theorem dX10_image_30 : decode cX10_image 30 = .ok (.imul, 1) := by decide +kernel
theorem dX10_image_31 : decode cX10_image 31 = .ok (.iload_n 2, 1) := by decide +kernel
theorem dX10_image_32 : decode cX10_image 32 = .ok (.iadd, 1) := by decide +kernel
theorem dX10_image_33 : decode cX10_image 33 = .ok (.aload_n 0, 1) := by decide +kernel
theorem dX10_image_34 : decode cX10_image 34 = .ok (.getfield 7, 3) := by decide +kernel
theorem dX10_image_37 : decode cX10_image 37 = .ok (.iload_n 2, 1) := by decide +kernel
theorem dX10_image_38 : decode cX10_image 38 = .ok (.iaload, 1) := by decide +kernel
theorem dX10_image_39 : decode cX10_image 39 = .ok (.iastore, 1) := by decide +kernel
theorem dX10_image_40 : decode cX10_image 40 = .ok (.iinc 2 1, 3) := by decide +kernel
theorem dX10_image_43 : decode cX10_image 43 = .ok (.goto (-28), 3) := by decide +kernel
theorem dX10_image_46 : decode cX10_image 46 = .ok (.aload_n 0, 1) := by decide +kernel
theorem dX10_image_47 : decode cX10_image 47 = .ok (.getfield 16, 3) := by decide +kernel
theorem dX10_image_50 : decode cX10_image 50 = .ok (.iload_n 1, 1) := by decide +kernel
theorem dX10_image_51 : decode cX10_image 51 = .ok (.iconst 1, 1) := by decide +kernel
theorem dX10_image_52 : decode cX10_image 52 = .ok (.bastore, 1) := by decide +kernel
theorem dX10_image_53 : decode cX10_image 53 = .ok (.iconst 1, 1) := by decide +kernel
theorem dX10_image_54 : decode cX10_image 54 = .ok (.ireturn, 1) := by decide +kernel
theorem dX10_from_0 : decode cX10_from 0 = .ok (.iload_n 1, 1) := by decide +kernel
theorem dX10_from_1 : decode cX10_from 1 = .ok (.i2l, 1) := by decide +kernel
theorem dX10_from_2 : decode cX10_from 2 = .ok (.lconst 0, 1) := by decide +kernel
theorem dX10_from_3 : decode cX10_from 3 = .ok (.lconst 1, 1) := by decide +kernel
theorem dX10_from_4 : decode cX10_from 4 = .ok (.invokestatic 67, 3) := by decide +kernel
theorem dX10_from_7 : decode cX10_from 7 = .ok (.ifCond .ne 6, 3) := by decide +kernel
theorem dX10_from_10 : decode cX10_from 10 = .ok (.bipush (-2), 2) := by decide +kernel
theorem dX10_from_12 : decode cX10_from 12 = .ok (.ireturn, 1) := by decide +kernel
theorem dX10_from_13 : decode cX10_from 13 = .ok (.aload_n 0, 1) := by decide +kernel
theorem dX10_from_14 : decode cX10_from 14 = .ok (.getfield 16, 3) := by decide +kernel
theorem dX10_from_17 : decode cX10_from 17 = .ok (.iload_n 1, 1) := by decide +kernel
theorem dX10_from_18 : decode cX10_from 18 = .ok (.baload, 1) := by decide +kernel
theorem dX10_from_19 : decode cX10_from 19 = .ok (.ifCond .ne 6, 3) := by decide +kernel
theorem dX10_from_22 : decode cX10_from 22 = .ok (.bipush (-3), 2) := by decide +kernel
theorem dX10_from_24 : decode cX10_from 24 = .ok (.ireturn, 1) := by decide +kernel
theorem dX10_from_25 : decode cX10_from 25 = .ok (.iconst 0, 1) := by decide +kernel
theorem dX10_from_26 : decode cX10_from 26 = .ok (.istore_n 2, 1) := by decide +kernel
theorem dX10_from_27 : decode cX10_from 27 = .ok (.iload_n 2, 1) := by decide +kernel
theorem dX10_from_28 : decode cX10_from 28 = .ok (.sipush 460, 3) := by decide +kernel
theorem dX10_from_31 : decode cX10_from 31 = .ok (.if_icmp .ge 27, 3) := by decide +kernel
theorem dX10_from_34 : decode cX10_from 34 = .ok (.aload_n 0, 1) := by decide +kernel
theorem dX10_from_35 : decode cX10_from 35 = .ok (.getfield 7, 3) := by decide +kernel
theorem dX10_from_38 : decode cX10_from 38 = .ok (.iload_n 2, 1) := by decide +kernel
theorem dX10_from_39 : decode cX10_from 39 = .ok (.aload_n 0, 1) := by decide +kernel
theorem dX10_from_40 : decode cX10_from 40 = .ok (.getfield 13, 3) := by decide +kernel
theorem dX10_from_43 : decode cX10_from 43 = .ok (.sipush 460, 3) := by decide +kernel
theorem dX10_from_46 : decode cX10_from 46 = .ok (.iload_n 1, 1) := by decide +kernel
theorem dX10_from_47 : decode cX10_from 47 = .ok (.imul, 1) := by decide +kernel
theorem dX10_from_48 : decode cX10_from 48 = .ok (.iload_n 2, 1) := by decide +kernel
theorem dX10_from_49 : decode cX10_from 49 = .ok (.iadd, 1) := by decide +kernel
theorem dX10_from_50 : decode cX10_from 50 = .ok (.iaload, 1) := by decide +kernel
theorem dX10_from_51 : decode cX10_from 51 = .ok (.iastore, 1) := by decide +kernel
theorem dX10_from_52 : decode cX10_from 52 = .ok (.iinc 2 1, 3) := by decide +kernel
theorem dX10_from_55 : decode cX10_from 55 = .ok (.goto (-28), 3) := by decide +kernel
theorem dX10_from_58 : decode cX10_from 58 = .ok (.iconst 1, 1) := by decide +kernel
theorem dX10_from_59 : decode cX10_from 59 = .ok (.ireturn, 1) := by decide +kernel
theorem dX10_countOf_0 : decode cX10_countOf 0 = .ok (.iload_n 1, 1) := by decide +kernel
theorem dX10_countOf_1 : decode cX10_countOf 1 = .ok (.bipush 6, 2) := by decide +kernel
theorem dX10_countOf_3 : decode cX10_countOf 3 = .ok (.if_icmp .ge 12, 3) := by decide +kernel
theorem dX10_countOf_6 : decode cX10_countOf 6 = .ok (.aload_n 0, 1) := by decide +kernel
theorem dX10_countOf_7 : decode cX10_countOf 7 = .ok (.getfield 7, 3) := by decide +kernel
theorem dX10_countOf_10 : decode cX10_countOf 10 = .ok (.iload_n 1, 1) := by decide +kernel
theorem dX10_countOf_11 : decode cX10_countOf 11 = .ok (.iaload, 1) := by decide +kernel
theorem dX10_countOf_12 : decode cX10_countOf 12 = .ok (.goto 7, 3) := by decide +kernel
theorem dX10_countOf_15 : decode cX10_countOf 15 = .ok (.aload_n 0, 1) := by decide +kernel
theorem dX10_countOf_16 : decode cX10_countOf 16 = .ok (.getfield 247, 3) := by decide +kernel
theorem dX10_countOf_19 : decode cX10_countOf 19 = .ok (.ireturn, 1) := by decide +kernel
theorem dX10_count_0 : decode cX10_count 0 = .ok (.iload_n 1, 1) := by decide +kernel
theorem dX10_count_1 : decode cX10_count 1 = .ok (.i2l, 1) := by decide +kernel
theorem dX10_count_2 : decode cX10_count 2 = .ok (.lconst 0, 1) := by decide +kernel
theorem dX10_count_3 : decode cX10_count 3 = .ok (.ldc2_w 333, 3) := by decide +kernel
theorem dX10_count_6 : decode cX10_count 6 = .ok (.invokestatic 67, 3) := by decide +kernel
theorem dX10_count_9 : decode cX10_count 9 = .ok (.ifCond .eq 11, 3) := by decide +kernel
theorem dX10_count_12 : decode cX10_count 12 = .ok (.aload_n 0, 1) := by decide +kernel
theorem dX10_count_13 : decode cX10_count 13 = .ok (.iload_n 1, 1) := by decide +kernel
theorem dX10_count_14 : decode cX10_count 14 = .ok (.invokevirtual 335, 3) := by decide +kernel
theorem dX10_count_17 : decode cX10_count 17 = .ok (.goto 5, 3) := by decide +kernel
theorem dX10_count_20 : decode cX10_count 20 = .ok (.bipush (-2), 2) := by decide +kernel
theorem dX10_count_22 : decode cX10_count 22 = .ok (.ireturn, 1) := by decide +kernel
theorem dX10_mixed_0 : decode cX10_mixed 0 = .ok (.lload_n 1, 1) := by decide +kernel
theorem dX10_mixed_1 : decode cX10_mixed 1 = .ok (.lstore 5, 2) := by decide +kernel
theorem dX10_mixed_3 : decode cX10_mixed 3 = .ok (.iconst 0, 1) := by decide +kernel
theorem dX10_mixed_4 : decode cX10_mixed 4 = .ok (.istore 7, 2) := by decide +kernel
theorem dX10_mixed_6 : decode cX10_mixed 6 = .ok (.iload 7, 2) := by decide +kernel
theorem dX10_mixed_8 : decode cX10_mixed 8 = .ok (.iload 4, 2) := by decide +kernel
theorem dX10_mixed_10 : decode cX10_mixed 10 = .ok (.if_icmp .ge 28, 3) := by decide +kernel
theorem dX10_mixed_13 : decode cX10_mixed 13 = .ok (.ldc2_w 338, 3) := by decide +kernel
theorem dX10_mixed_16 : decode cX10_mixed 16 = .ok (.lload 5, 2) := by decide +kernel
theorem dX10_mixed_18 : decode cX10_mixed 18 = .ok (.lmul, 1) := by decide +kernel
theorem dX10_mixed_19 : decode cX10_mixed 19 = .ok (.aload_n 0, 1) := by decide +kernel
theorem dX10_mixed_20 : decode cX10_mixed 20 = .ok (.getfield 7, 3) := by decide +kernel
theorem dX10_mixed_23 : decode cX10_mixed 23 = .ok (.iload_n 3, 1) := by decide +kernel
theorem dX10_mixed_24 : decode cX10_mixed 24 = .ok (.iload 7, 2) := by decide +kernel
theorem dX10_mixed_26 : decode cX10_mixed 26 = .ok (.iadd, 1) := by decide +kernel
theorem dX10_mixed_27 : decode cX10_mixed 27 = .ok (.iaload, 1) := by decide +kernel
theorem dX10_mixed_28 : decode cX10_mixed 28 = .ok (.i2l, 1) := by decide +kernel
theorem dX10_mixed_29 : decode cX10_mixed 29 = .ok (.ladd, 1) := by decide +kernel
theorem dX10_mixed_30 : decode cX10_mixed 30 = .ok (.lstore 5, 2) := by decide +kernel
theorem dX10_mixed_32 : decode cX10_mixed 32 = .ok (.iinc 7 1, 3) := by decide +kernel
theorem dX10_mixed_35 : decode cX10_mixed 35 = .ok (.goto (-29), 3) := by decide +kernel
theorem dX10_mixed_38 : decode cX10_mixed 38 = .ok (.lload 5, 2) := by decide +kernel
theorem dX10_mixed_40 : decode cX10_mixed 40 = .ok (.lreturn, 1) := by decide +kernel
theorem dX10_digest_0 : decode cX10_digest 0 = .ok (.ldc2_w 340, 3) := by decide +kernel
theorem dX10_digest_3 : decode cX10_digest 3 = .ok (.lstore_n 1, 1) := by decide +kernel
theorem dX10_digest_4 : decode cX10_digest 4 = .ok (.iconst 0, 1) := by decide +kernel
theorem dX10_digest_5 : decode cX10_digest 5 = .ok (.istore_n 3, 1) := by decide +kernel
theorem dX10_digest_6 : decode cX10_digest 6 = .ok (.iload_n 3, 1) := by decide +kernel
theorem dX10_digest_7 : decode cX10_digest 7 = .ok (.bipush 7, 2) := by decide +kernel
theorem dX10_digest_9 : decode cX10_digest 9 = .ok (.if_icmp .ge 22, 3) := by decide +kernel
theorem dX10_digest_12 : decode cX10_digest 12 = .ok (.ldc2_w 338, 3) := by decide +kernel
theorem dX10_digest_15 : decode cX10_digest 15 = .ok (.lload_n 1, 1) := by decide +kernel
theorem dX10_digest_16 : decode cX10_digest 16 = .ok (.lmul, 1) := by decide +kernel
theorem dX10_digest_17 : decode cX10_digest 17 = .ok (.aload_n 0, 1) := by decide +kernel
theorem dX10_digest_18 : decode cX10_digest 18 = .ok (.iload_n 3, 1) := by decide +kernel
theorem dX10_digest_19 : decode cX10_digest 19 = .ok (.invokevirtual 335, 3) := by decide +kernel
theorem dX10_digest_22 : decode cX10_digest 22 = .ok (.i2l, 1) := by decide +kernel
theorem dX10_digest_23 : decode cX10_digest 23 = .ok (.ladd, 1) := by decide +kernel
theorem dX10_digest_24 : decode cX10_digest 24 = .ok (.lstore_n 1, 1) := by decide +kernel
theorem dX10_digest_25 : decode cX10_digest 25 = .ok (.iinc 3 1, 3) := by decide +kernel
theorem dX10_digest_28 : decode cX10_digest 28 = .ok (.goto (-22), 3) := by decide +kernel
theorem dX10_digest_31 : decode cX10_digest 31 = .ok (.aload_n 0, 1) := by decide +kernel
theorem dX10_digest_32 : decode cX10_digest 32 = .ok (.lload_n 1, 1) := by decide +kernel
theorem dX10_digest_33 : decode cX10_digest 33 = .ok (.bipush 20, 2) := by decide +kernel
theorem dX10_digest_35 : decode cX10_digest 35 = .ok (.sipush 192, 3) := by decide +kernel
theorem dX10_digest_38 : decode cX10_digest 38 = .ok (.invokevirtual 342, 3) := by decide +kernel
theorem dX10_digest_41 : decode cX10_digest 41 = .ok (.lstore_n 1, 1) := by decide +kernel
theorem dX10_digest_42 : decode cX10_digest 42 = .ok (.aload_n 0, 1) := by decide +kernel
theorem dX10_digest_43 : decode cX10_digest 43 = .ok (.lload_n 1, 1) := by decide +kernel
theorem dX10_digest_44 : decode cX10_digest 44 = .ok (.sipush 220, 3) := by decide +kernel
theorem dX10_digest_47 : decode cX10_digest 47 = .ok (.iconst 2, 1) := by decide +kernel
theorem dX10_digest_48 : decode cX10_digest 48 = .ok (.aload_n 0, 1) := by decide +kernel
theorem dX10_digest_49 : decode cX10_digest 49 = .ok (.getfield 7, 3) := by decide +kernel
theorem dX10_digest_52 : decode cX10_digest 52 = .ok (.iconst 0, 1) := by decide +kernel
theorem dX10_digest_53 : decode cX10_digest 53 = .ok (.iaload, 1) := by decide +kernel
theorem dX10_digest_54 : decode cX10_digest 54 = .ok (.imul, 1) := by decide +kernel
theorem dX10_digest_55 : decode cX10_digest 55 = .ok (.invokevirtual 342, 3) := by decide +kernel
theorem dX10_digest_58 : decode cX10_digest 58 = .ok (.lstore_n 1, 1) := by decide +kernel
theorem dX10_digest_59 : decode cX10_digest 59 = .ok (.aload_n 0, 1) := by decide +kernel
theorem dX10_digest_60 : decode cX10_digest 60 = .ok (.lload_n 1, 1) := by decide +kernel
theorem dX10_digest_61 : decode cX10_digest 61 = .ok (.sipush 240, 3) := by decide +kernel
theorem dX10_digest_64 : decode cX10_digest 64 = .ok (.iconst 2, 1) := by decide +kernel
theorem dX10_digest_65 : decode cX10_digest 65 = .ok (.aload_n 0, 1) := by decide +kernel
theorem dX10_digest_66 : decode cX10_digest 66 = .ok (.getfield 7, 3) := by decide +kernel
theorem dX10_digest_69 : decode cX10_digest 69 = .ok (.iconst 1, 1) := by decide +kernel
theorem dX10_digest_70 : decode cX10_digest 70 = .ok (.iaload, 1) := by decide +kernel
theorem dX10_digest_71 : decode cX10_digest 71 = .ok (.imul, 1) := by decide +kernel
theorem dX10_digest_72 : decode cX10_digest 72 = .ok (.invokevirtual 342, 3) := by decide +kernel
theorem dX10_digest_75 : decode cX10_digest 75 = .ok (.lstore_n 1, 1) := by decide +kernel
theorem dX10_digest_76 : decode cX10_digest 76 = .ok (.aload_n 0, 1) := by decide +kernel
theorem dX10_digest_77 : decode cX10_digest 77 = .ok (.lload_n 1, 1) := by decide +kernel
theorem dX10_digest_78 : decode cX10_digest 78 = .ok (.sipush 260, 3) := by decide +kernel
theorem dX10_digest_81 : decode cX10_digest 81 = .ok (.iconst 2, 1) := by decide +kernel
theorem dX10_digest_82 : decode cX10_digest 82 = .ok (.aload_n 0, 1) := by decide +kernel
theorem dX10_digest_83 : decode cX10_digest 83 = .ok (.getfield 7, 3) := by decide +kernel
theorem dX10_digest_86 : decode cX10_digest 86 = .ok (.iconst 2, 1) := by decide +kernel
theorem dX10_digest_87 : decode cX10_digest 87 = .ok (.iaload, 1) := by decide +kernel
theorem dX10_digest_88 : decode cX10_digest 88 = .ok (.imul, 1) := by decide +kernel
theorem dX10_digest_89 : decode cX10_digest 89 = .ok (.invokevirtual 342, 3) := by decide +kernel
theorem dX10_digest_92 : decode cX10_digest 92 = .ok (.lstore_n 1, 1) := by decide +kernel
theorem dX10_digest_93 : decode cX10_digest 93 = .ok (.aload_n 0, 1) := by decide +kernel
theorem dX10_digest_94 : decode cX10_digest 94 = .ok (.lload_n 1, 1) := by decide +kernel
theorem dX10_digest_95 : decode cX10_digest 95 = .ok (.bipush 6, 2) := by decide +kernel
theorem dX10_digest_97 : decode cX10_digest 97 = .ok (.bipush 6, 2) := by decide +kernel
theorem dX10_digest_99 : decode cX10_digest 99 = .ok (.invokevirtual 342, 3) := by decide +kernel
theorem dX10_digest_102 : decode cX10_digest 102 = .ok (.lstore_n 1, 1) := by decide +kernel
theorem dX10_digest_103 : decode cX10_digest 103 = .ok (.aload_n 0, 1) := by decide +kernel
theorem dX10_digest_104 : decode cX10_digest 104 = .ok (.lload_n 1, 1) := by decide +kernel
theorem dX10_digest_105 : decode cX10_digest 105 = .ok (.sipush 290, 3) := by decide +kernel
theorem dX10_digest_108 : decode cX10_digest 108 = .ok (.iconst 5, 1) := by decide +kernel
theorem dX10_digest_109 : decode cX10_digest 109 = .ok (.aload_n 0, 1) := by decide +kernel
theorem dX10_digest_110 : decode cX10_digest 110 = .ok (.getfield 7, 3) := by decide +kernel
theorem dX10_digest_113 : decode cX10_digest 113 = .ok (.iconst 4, 1) := by decide +kernel
theorem dX10_digest_114 : decode cX10_digest 114 = .ok (.iaload, 1) := by decide +kernel
theorem dX10_digest_115 : decode cX10_digest 115 = .ok (.imul, 1) := by decide +kernel
theorem dX10_digest_116 : decode cX10_digest 116 = .ok (.invokevirtual 342, 3) := by decide +kernel
theorem dX10_digest_119 : decode cX10_digest 119 = .ok (.lstore_n 1, 1) := by decide +kernel
theorem dX10_digest_120 : decode cX10_digest 120 = .ok (.aload_n 0, 1) := by decide +kernel
theorem dX10_digest_121 : decode cX10_digest 121 = .ok (.lload_n 1, 1) := by decide +kernel
theorem dX10_digest_122 : decode cX10_digest 122 = .ok (.sipush 370, 3) := by decide +kernel
theorem dX10_digest_125 : decode cX10_digest 125 = .ok (.iconst 4, 1) := by decide +kernel
theorem dX10_digest_126 : decode cX10_digest 126 = .ok (.aload_n 0, 1) := by decide +kernel
theorem dX10_digest_127 : decode cX10_digest 127 = .ok (.getfield 7, 3) := by decide +kernel
theorem dX10_digest_130 : decode cX10_digest 130 = .ok (.iconst 5, 1) := by decide +kernel
theorem dX10_digest_131 : decode cX10_digest 131 = .ok (.iaload, 1) := by decide +kernel
theorem dX10_digest_132 : decode cX10_digest 132 = .ok (.imul, 1) := by decide +kernel
theorem dX10_digest_133 : decode cX10_digest 133 = .ok (.invokevirtual 342, 3) := by decide +kernel
theorem dX10_digest_136 : decode cX10_digest 136 = .ok (.lstore_n 1, 1) := by decide +kernel
theorem dX10_digest_137 : decode cX10_digest 137 = .ok (.aload_n 0, 1) := by decide +kernel
theorem dX10_digest_138 : decode cX10_digest 138 = .ok (.lload_n 1, 1) := by decide +kernel
theorem dX10_digest_139 : decode cX10_digest 139 = .ok (.sipush 410, 3) := by decide +kernel
theorem dX10_digest_142 : decode cX10_digest 142 = .ok (.bipush 20, 2) := by decide +kernel
theorem dX10_digest_144 : decode cX10_digest 144 = .ok (.invokevirtual 342, 3) := by decide +kernel
theorem dX10_digest_147 : decode cX10_digest 147 = .ok (.lstore_n 1, 1) := by decide +kernel
theorem dX10_digest_148 : decode cX10_digest 148 = .ok (.aload_n 0, 1) := by decide +kernel
theorem dX10_digest_149 : decode cX10_digest 149 = .ok (.lload_n 1, 1) := by decide +kernel
theorem dX10_digest_150 : decode cX10_digest 150 = .ok (.sipush 430, 3) := by decide +kernel
theorem dX10_digest_153 : decode cX10_digest 153 = .ok (.bipush 21, 2) := by decide +kernel
theorem dX10_digest_155 : decode cX10_digest 155 = .ok (.invokevirtual 342, 3) := by decide +kernel
theorem dX10_digest_158 : decode cX10_digest 158 = .ok (.lreturn, 1) := by decide +kernel
