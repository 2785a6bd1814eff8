theorem dX0_init_0 : decode cX0_init 0 = .ok (.aload_n 0, 1) := by decide +kernel
theorem dX0_init_1 : decode cX0_init 1 = .ok (.iload_n 1, 1) := by decide +kernel
theorem dX0_init_2 : decode cX0_init 2 = .ok (.iload_n 2, 1) := by decide +kernel
theorem dX0_init_3 : decode cX0_init 3 = .ok (.iload_n 3, 1) := by decide +kernel
theorem dX0_init_4 : decode cX0_init 4 = .ok (.invokespecial 1, 3) := by decide +kernel
theorem dX0_init_7 : decode cX0_init 7 = .ok (.return_, 1) := by decide +kernel
theorem dX0_kind_0 : decode cX0_kind 0 = .ok (.iconst 5, 1) := by decide +kernel
theorem dX0_kind_1 : decode cX0_kind 1 = .ok (.ireturn, 1) := by decide +kernel
theorem dX0_noise_0 : decode cX0_noise 0 = .ok (.iload_n 1, 1) := by decide +kernel
theorem dX0_noise_1 : decode cX0_noise 1 = .ok (.aload_n 0, 1) := by decide +kernel
theorem dX0_noise_2 : decode cX0_noise 2 = .ok (.getfield 7, 3) := by decide +kernel
theorem dX0_noise_5 : decode cX0_noise 5 = .ok (.if_icmp .gt 7, 3) := by decide +kernel
theorem dX0_noise_8 : decode cX0_noise 8 = .ok (.iconst 0, 1) := by decide +kernel
theorem dX0_noise_9 : decode cX0_noise 9 = .ok (.goto 9, 3) := by decide +kernel
theorem dX0_noise_12 : decode cX0_noise 12 = .ok (.aload_n 0, 1) := by decide +kernel
theorem dX0_noise_13 : decode cX0_noise 13 = .ok (.iload_n 1, 1) := by decide +kernel
theorem dX0_noise_14 : decode cX0_noise 14 = .ok (.iload_n 2, 1) := by decide +kernel
theorem dX0_noise_15 : decode cX0_noise 15 = .ok (.invokespecial 13, 3) := by decide +kernel
theorem dX0_noise_18 : decode cX0_noise 18 = .ok (.ireturn, 1) := by decide +kernel
theorem dX0_actTells_0 : decode cX0_actTells 0 = .ok (.aload_n 0, 1) := by decide +kernel
theorem dX0_actTells_1 : decode cX0_actTells 1 = .ok (.bipush 60, 2) := by decide +kernel
theorem dX0_actTells_3 : decode cX0_actTells 3 = .ok (.invokevirtual 17, 3) := by decide +kernel
theorem dX0_actTells_6 : decode cX0_actTells 6 = .ok (.aload_n 0, 1) := by decide +kernel
theorem dX0_actTells_7 : decode cX0_actTells 7 = .ok (.iload_n 1, 1) := by decide +kernel
theorem dX0_actTells_8 : decode cX0_actTells 8 = .ok (.aload_n 0, 1) := by decide +kernel
theorem dX0_actTells_9 : decode cX0_actTells 9 = .ok (.getfield 21, 3) := by decide +kernel
theorem dX0_actTells_12 : decode cX0_actTells 12 = .ok (.isub, 1) := by decide +kernel
theorem dX0_actTells_13 : decode cX0_actTells 13 = .ok (.invokespecial 24, 3) := by decide +kernel
theorem dX0_actTells_16 : decode cX0_actTells 16 = .ok (.ireturn, 1) := by decide +kernel
theorem dX1_init_0 : decode cX1_init 0 = .ok (.aload_n 0, 1) := by decide +kernel
theorem dX1_init_1 : decode cX1_init 1 = .ok (.iload_n 1, 1) := by decide +kernel
theorem dX1_init_2 : decode cX1_init 2 = .ok (.iload_n 2, 1) := by decide +kernel
theorem dX1_init_3 : decode cX1_init 3 = .ok (.iload_n 3, 1) := by decide +kernel
theorem dX1_init_4 : decode cX1_init 4 = .ok (.invokespecial 1, 3) := by decide +kernel
theorem dX1_init_7 : decode cX1_init 7 = .ok (.return_, 1) := by decide +kernel
theorem dX1_kind_0 : decode cX1_kind 0 = .ok (.iconst 1, 1) := by decide +kernel
theorem dX1_kind_1 : decode cX1_kind 1 = .ok (.ireturn, 1) := by decide +kernel
theorem dX1_noise_0 : decode cX1_noise 0 = .ok (.iload_n 1, 1) := by decide +kernel
theorem dX1_noise_1 : decode cX1_noise 1 = .ok (.aload_n 0, 1) := by decide +kernel
theorem dX1_noise_2 : decode cX1_noise 2 = .ok (.getfield 7, 3) := by decide +kernel
theorem dX1_noise_5 : decode cX1_noise 5 = .ok (.iadd, 1) := by decide +kernel
theorem dX1_noise_6 : decode cX1_noise 6 = .ok (.ireturn, 1) := by decide +kernel
theorem dX1_actGoes_0 : decode cX1_actGoes 0 = .ok (.aload_n 0, 1) := by decide +kernel
theorem dX1_actGoes_1 : decode cX1_actGoes 1 = .ok (.bipush 20, 2) := by decide +kernel
theorem dX1_actGoes_3 : decode cX1_actGoes 3 = .ok (.invokevirtual 13, 3) := by decide +kernel
theorem dX1_actGoes_6 : decode cX1_actGoes 6 = .ok (.aload_n 0, 1) := by decide +kernel
theorem dX1_actGoes_7 : decode cX1_actGoes 7 = .ok (.iload_n 1, 1) := by decide +kernel
theorem dX1_actGoes_8 : decode cX1_actGoes 8 = .ok (.invokespecial 17, 3) := by decide +kernel
theorem dX1_actGoes_11 : decode cX1_actGoes 11 = .ok (.bipush 6, 2) := by decide +kernel
theorem dX1_actGoes_13 : decode cX1_actGoes 13 = .ok (.ixor, 1) := by decide +kernel
theorem dX1_actGoes_14 : decode cX1_actGoes 14 = .ok (.ireturn, 1) := by decide +kernel
theorem dX2_init_0 : decode cX2_init 0 = .ok (.aload_n 0, 1) := by decide +kernel
theorem dX2_init_1 : decode cX2_init 1 = .ok (.invokespecial 3, 3) := by decide +kernel
theorem dX2_init_4 : decode cX2_init 4 = .ok (.aload_n 0, 1) := by decide +kernel
theorem dX2_init_5 : decode cX2_init 5 = .ok (.bipush 12, 2) := by decide +kernel
theorem dX2_init_7 : decode cX2_init 7 = .ok (.newarray .int, 2) := by decide +kernel
theorem dX2_init_9 : decode cX2_init 9 = .ok (.putfield 9, 3) := by decide +kernel
theorem dX2_init_12 : decode cX2_init 12 = .ok (.aload_n 0, 1) := by decide +kernel
theorem dX2_init_13 : decode cX2_init 13 = .ok (.bipush 11, 2) := by decide +kernel
theorem dX2_init_15 : decode cX2_init 15 = .ok (.putfield 15, 3) := by decide +kernel
theorem dX2_init_18 : decode cX2_init 18 = .ok (.aload_n 0, 1) := by decide +kernel
theorem dX2_init_19 : decode cX2_init 19 = .ok (.bipush 12, 2) := by decide +kernel
theorem dX2_init_21 : decode cX2_init 21 = .ok (.newarray .int, 2) := by decide +kernel
theorem dX2_init_23 : decode cX2_init 23 = .ok (.putfield 19, 3) := by decide +kernel
theorem dX2_init_26 : decode cX2_init 26 = .ok (.aload_n 0, 1) := by decide +kernel
theorem dX2_init_27 : decode cX2_init 27 = .ok (.bipush 6, 2) := by decide +kernel
theorem dX2_init_29 : decode cX2_init 29 = .ok (.newarray .int, 2) := by decide +kernel
theorem dX2_init_31 : decode cX2_init 31 = .ok (.putfield 22, 3) := by decide +kernel
theorem dX2_init_34 : decode cX2_init 34 = .ok (.aload_n 0, 1) := by decide +kernel
theorem dX2_init_35 : decode cX2_init 35 = .ok (.bipush 6, 2) := by decide +kernel
theorem dX2_init_37 : decode cX2_init 37 = .ok (.newarray .int, 2) := by decide +kernel
theorem dX2_init_39 : decode cX2_init 39 = .ok (.putfield 25, 3) := by decide +kernel
theorem dX2_init_42 : decode cX2_init 42 = .ok (.aload_n 0, 1) := by decide +kernel
theorem dX2_init_43 : decode cX2_init 43 = .ok (.bipush 6, 2) := by decide +kernel
theorem dX2_init_45 : decode cX2_init 45 = .ok (.newarray .int, 2) := by decide +kernel
theorem dX2_init_47 : decode cX2_init 47 = .ok (.putfield 28, 3) := by decide +kernel
theorem dX2_init_50 : decode cX2_init 50 = .ok (.aload_n 0, 1) := by decide +kernel
theorem dX2_init_51 : decode cX2_init 51 = .ok (.bipush 12, 2) := by decide +kernel
theorem dX2_init_53 : decode cX2_init 53 = .ok (.newarray .int, 2) := by decide +kernel
theorem dX2_init_55 : decode cX2_init 55 = .ok (.putfield 31, 3) := by decide +kernel
theorem dX2_init_58 : decode cX2_init 58 = .ok (.aload_n 0, 1) := by decide +kernel
theorem dX2_init_59 : decode cX2_init 59 = .ok (.bipush 6, 2) := by decide +kernel
theorem dX2_init_61 : decode cX2_init 61 = .ok (.newarray .int, 2) := by decide +kernel
theorem dX2_init_63 : decode cX2_init 63 = .ok (.putfield 34, 3) := by decide +kernel
theorem dX2_init_66 : decode cX2_init 66 = .ok (.iconst 0, 1) := by decide +kernel
theorem dX2_init_67 : decode cX2_init 67 = .ok (.istore_n 1, 1) := by decide +kernel
theorem dX2_init_68 : decode cX2_init 68 = .ok (.iload_n 1, 1) := by decide +kernel
theorem dX2_init_69 : decode cX2_init 69 = .ok (.bipush 12, 2) := by decide +kernel
theorem dX2_init_71 : decode cX2_init 71 = .ok (.if_icmp .ge 16, 3) := by decide +kernel
theorem dX2_init_74 : decode cX2_init 74 = .ok (.aload_n 0, 1) := by decide +kernel
theorem dX2_init_75 : decode cX2_init 75 = .ok (.getfield 9, 3) := by decide +kernel
theorem dX2_init_78 : decode cX2_init 78 = .ok (.iload_n 1, 1) := by decide +kernel
theorem dX2_init_79 : decode cX2_init 79 = .ok (.iconst 3, 1) := by decide +kernel
theorem dX2_init_80 : decode cX2_init 80 = .ok (.iastore, 1) := by decide +kernel
theorem dX2_init_81 : decode cX2_init 81 = .ok (.iinc 1 1, 3) := by decide +kernel
theorem dX2_init_84 : decode cX2_init 84 = .ok (.goto (-16), 3) := by decide +kernel
theorem dX2_init_87 : decode cX2_init 87 = .ok (.return_, 1) := by decide +kernel
theorem dX2_takeFrom_0 : decode cX2_takeFrom 0 = .ok (.aload_n 1, 1) := by decide +kernel
theorem dX2_takeFrom_1 : decode cX2_takeFrom 1 = .ok (.getfield 9, 3) := by decide +kernel
theorem dX2_takeFrom_4 : decode cX2_takeFrom 4 = .ok (.iconst 0, 1) := by decide +kernel
theorem dX2_takeFrom_5 : decode cX2_takeFrom 5 = .ok (.aload_n 0, 1) := by decide +kernel
theorem dX2_takeFrom_6 : decode cX2_takeFrom 6 = .ok (.getfield 9, 3) := by decide +kernel
theorem dX2_takeFrom_9 : decode cX2_takeFrom 9 = .ok (.iconst 0, 1) := by decide +kernel
theorem dX2_takeFrom_10 : decode cX2_takeFrom 10 = .ok (.bipush 12, 2) := by decide +kernel
theorem dX2_takeFrom_12 : decode cX2_takeFrom 12 = .ok (.invokestatic 37, 3) := by decide +kernel
theorem dX2_takeFrom_15 : decode cX2_takeFrom 15 = .ok (.aload_n 0, 1) := by decide +kernel
theorem dX2_takeFrom_16 : decode cX2_takeFrom 16 = .ok (.aload_n 1, 1) := by decide +kernel
theorem dX2_takeFrom_17 : decode cX2_takeFrom 17 = .ok (.getfield 43, 3) := by decide +kernel
theorem dX2_takeFrom_20 : decode cX2_takeFrom 20 = .ok (.putfield 43, 3) := by decide +kernel
theorem dX2_takeFrom_23 : decode cX2_takeFrom 23 = .ok (.aload_n 0, 1) := by decide +kernel
theorem dX2_takeFrom_24 : decode cX2_takeFrom 24 = .ok (.aload_n 1, 1) := by decide +kernel
theorem dX2_takeFrom_25 : decode cX2_takeFrom 25 = .ok (.getfield 15, 3) := by decide +kernel
theorem dX2_takeFrom_28 : decode cX2_takeFrom 28 = .ok (.putfield 15, 3) := by decide +kernel
theorem dX2_takeFrom_31 : decode cX2_takeFrom 31 = .ok (.aload_n 0, 1) := by decide +kernel
theorem dX2_takeFrom_32 : decode cX2_takeFrom 32 = .ok (.aload_n 1, 1) := by decide +kernel
theorem dX2_takeFrom_33 : decode cX2_takeFrom 33 = .ok (.getfield 46, 3) := by decide +kernel
theorem dX2_takeFrom_36 : decode cX2_takeFrom 36 = .ok (.putfield 46, 3) := by decide +kernel
theorem dX2_takeFrom_39 : decode cX2_takeFrom 39 = .ok (.aload_n 0, 1) := by decide +kernel
theorem dX2_takeFrom_40 : decode cX2_takeFrom 40 = .ok (.aload_n 1, 1) := by decide +kernel
theorem dX2_takeFrom_41 : decode cX2_takeFrom 41 = .ok (.getfield 49, 3) := by decide +kernel
theorem dX2_takeFrom_44 : decode cX2_takeFrom 44 = .ok (.putfield 49, 3) := by decide +kernel
theorem dX2_takeFrom_47 : decode cX2_takeFrom 47 = .ok (.aload_n 0, 1) := by decide +kernel
theorem dX2_takeFrom_48 : decode cX2_takeFrom 48 = .ok (.aload_n 1, 1) := by decide +kernel
theorem dX2_takeFrom_49 : decode cX2_takeFrom 49 = .ok (.getfield 52, 3) := by decide +kernel
theorem dX2_takeFrom_52 : decode cX2_takeFrom 52 = .ok (.putfield 52, 3) := by decide +kernel
theorem dX2_takeFrom_55 : decode cX2_takeFrom 55 = .ok (.aload_n 0, 1) := by decide +kernel
theorem dX2_takeFrom_56 : decode cX2_takeFrom 56 = .ok (.aload_n 1, 1) := by decide +kernel
theorem dX2_takeFrom_57 : decode cX2_takeFrom 57 = .ok (.getfield 55, 3) := by decide +kernel
theorem dX2_takeFrom_60 : decode cX2_takeFrom 60 = .ok (.putfield 55, 3) := by decide +kernel
theorem dX2_takeFrom_63 : decode cX2_takeFrom 63 = .ok (.aload_n 1, 1) := by decide +kernel
theorem dX2_takeFrom_64 : decode cX2_takeFrom 64 = .ok (.getfield 19, 3) := by decide +kernel
theorem dX2_takeFrom_67 : decode cX2_takeFrom 67 = .ok (.iconst 0, 1) := by decide +kernel
theorem dX2_takeFrom_68 : decode cX2_takeFrom 68 = .ok (.aload_n 0, 1) := by decide +kernel
theorem dX2_takeFrom_69 : decode cX2_takeFrom 69 = .ok (.getfield 19, 3) := by decide +kernel
theorem dX2_takeFrom_72 : decode cX2_takeFrom 72 = .ok (.iconst 0, 1) := by decide +kernel
theorem dX2_takeFrom_73 : decode cX2_takeFrom 73 = .ok (.bipush 12, 2) := by decide +kernel
theorem dX2_takeFrom_75 : decode cX2_takeFrom 75 = .ok (.invokestatic 37, 3) := by decide +kernel
theorem dX2_takeFrom_78 : decode cX2_takeFrom 78 = .ok (.aload_n 0, 1) := by decide +kernel
theorem dX2_takeFrom_79 : decode cX2_takeFrom 79 = .ok (.aload_n 1, 1) := by decide +kernel
theorem dX2_takeFrom_80 : decode cX2_takeFrom 80 = .ok (.getfield 59, 3) := by decide +kernel
theorem dX2_takeFrom_83 : decode cX2_takeFrom 83 = .ok (.putfield 59, 3) := by decide +kernel
theorem dX2_takeFrom_86 : decode cX2_takeFrom 86 = .ok (.aload_n 1, 1) := by decide +kernel
theorem dX2_takeFrom_87 : decode cX2_takeFrom 87 = .ok (.getfield 22, 3) := by decide +kernel
theorem dX2_takeFrom_90 : decode cX2_takeFrom 90 = .ok (.iconst 0, 1) := by decide +kernel
theorem dX2_takeFrom_91 : decode cX2_takeFrom 91 = .ok (.aload_n 0, 1) := by decide +kernel
theorem dX2_takeFrom_92 : decode cX2_takeFrom 92 = .ok (.getfield 22, 3) := by decide +kernel
theorem dX2_takeFrom_95 : decode cX2_takeFrom 95 = .ok (.iconst 0, 1) := by decide +kernel
theorem dX2_takeFrom_96 : decode cX2_takeFrom 96 = .ok (.bipush 6, 2) := by decide +kernel
theorem dX2_takeFrom_98 : decode cX2_takeFrom 98 = .ok (.invokestatic 37, 3) := by decide +kernel
theorem dX2_takeFrom_101 : decode cX2_takeFrom 101 = .ok (.aload_n 1, 1) := by decide +kernel
theorem dX2_takeFrom_102 : decode cX2_takeFrom 102 = .ok (.getfield 25, 3) := by decide +kernel
theorem dX2_takeFrom_105 : decode cX2_takeFrom 105 = .ok (.iconst 0, 1) := by decide +kernel
theorem dX2_takeFrom_106 : decode cX2_takeFrom 106 = .ok (.aload_n 0, 1) := by decide +kernel
theorem dX2_takeFrom_107 : decode cX2_takeFrom 107 = .ok (.getfield 25, 3) := by decide +kernel
theorem dX2_takeFrom_110 : decode cX2_takeFrom 110 = .ok (.iconst 0, 1) := by decide +kernel
theorem dX2_takeFrom_111 : decode cX2_takeFrom 111 = .ok (.bipush 6, 2) := by decide +kernel
theorem dX2_takeFrom_113 : decode cX2_takeFrom 113 = .ok (.invokestatic 37, 3) := by decide +kernel
theorem dX2_takeFrom_116 : decode cX2_takeFrom 116 = .ok (.aload_n 1, 1) := by decide +kernel
theorem dX2_takeFrom_117 : decode cX2_takeFrom 117 = .ok (.getfield 28, 3) := by decide +kernel
theorem dX2_takeFrom_120 : decode cX2_takeFrom 120 = .ok (.iconst 0, 1) := by decide +kernel
theorem dX2_takeFrom_121 : decode cX2_takeFrom 121 = .ok (.aload_n 0, 1) := by decide +kernel
theorem dX2_takeFrom_122 : decode cX2_takeFrom 122 = .ok (.getfield 28, 3) := by decide +kernel
theorem dX2_takeFrom_125 : decode cX2_takeFrom 125 = .ok (.iconst 0, 1) := by decide +kernel
theorem dX2_takeFrom_126 : decode cX2_takeFrom 126 = .ok (.bipush 6, 2) := by decide +kernel
theorem dX2_takeFrom_128 : decode cX2_takeFrom 128 = .ok (.invokestatic 37, 3) := by decide +kernel
theorem dX2_takeFrom_131 : decode cX2_takeFrom 131 = .ok (.aload_n 0, 1) := by decide +kernel
theorem dX2_takeFrom_132 : decode cX2_takeFrom 132 = .ok (.aload_n 1, 1) := by decide +kernel
theorem dX2_takeFrom_133 : decode cX2_takeFrom 133 = .ok (.getfield 62, 3) := by decide +kernel
theorem dX2_takeFrom_136 : decode cX2_takeFrom 136 = .ok (.putfield 62, 3) := by decide +kernel
theorem dX2_takeFrom_139 : decode cX2_takeFrom 139 = .ok (.aload_n 1, 1) := by decide +kernel
theorem dX2_takeFrom_140 : decode cX2_takeFrom 140 = .ok (.getfield 31, 3) := by decide +kernel
theorem dX2_takeFrom_143 : decode cX2_takeFrom 143 = .ok (.iconst 0, 1) := by decide +kernel
theorem dX2_takeFrom_144 : decode cX2_takeFrom 144 = .ok (.aload_n 0, 1) := by decide +kernel
theorem dX2_takeFrom_145 : decode cX2_takeFrom 145 = .ok (.getfield 31, 3) := by decide +kernel
theorem dX2_takeFrom_148 : decode cX2_takeFrom 148 = .ok (.iconst 0, 1) := by decide +kernel
theorem dX2_takeFrom_149 : decode cX2_takeFrom 149 = .ok (.bipush 12, 2) := by decide +kernel
theorem dX2_takeFrom_151 : decode cX2_takeFrom 151 = .ok (.invokestatic 37, 3) := by decide +kernel
theorem dX2_takeFrom_154 : decode cX2_takeFrom 154 = .ok (.aload_n 0, 1) := by decide +kernel
theorem dX2_takeFrom_155 : decode cX2_takeFrom 155 = .ok (.aload_n 1, 1) := by decide +kernel
theorem dX2_takeFrom_156 : decode cX2_takeFrom 156 = .ok (.getfield 65, 3) := by decide +kernel
theorem dX2_takeFrom_159 : decode cX2_takeFrom 159 = .ok (.putfield 65, 3) := by decide +kernel
theorem dX2_takeFrom_162 : decode cX2_takeFrom 162 = .ok (.aload_n 0, 1) := by decide +kernel
theorem dX2_takeFrom_163 : decode cX2_takeFrom 163 = .ok (.aload_n 1, 1) := by decide +kernel
theorem dX2_takeFrom_164 : decode cX2_takeFrom 164 = .ok (.getfield 68, 3) := by decide +kernel
theorem dX2_takeFrom_167 : decode cX2_takeFrom 167 = .ok (.putfield 68, 3) := by decide +kernel
theorem dX2_takeFrom_170 : decode cX2_takeFrom 170 = .ok (.return_, 1) := by decide +kernel
theorem dX2_toyOn_0 : decode cX2_toyOn 0 = .ok (.aload_n 0, 1) := by decide +kernel
theorem dX2_toyOn_1 : decode cX2_toyOn 1 = .ok (.getfield 43, 3) := by decide +kernel
theorem dX2_toyOn_4 : decode cX2_toyOn 4 = .ok (.iload_n 1, 1) := by decide +kernel
theorem dX2_toyOn_5 : decode cX2_toyOn 5 = .ok (.ishr, 1) := by decide +kernel
theorem dX2_toyOn_6 : decode cX2_toyOn 6 = .ok (.iconst 1, 1) := by decide +kernel
theorem dX2_toyOn_7 : decode cX2_toyOn 7 = .ok (.iand, 1) := by decide +kernel
theorem dX2_toyOn_8 : decode cX2_toyOn 8 = .ok (.ireturn, 1) := by decide +kernel
theorem dX2_depth_0 : decode cX2_depth 0 = .ok (.aload_n 0, 1) := by decide +kernel
theorem dX2_depth_1 : decode cX2_depth 1 = .ok (.getfield 68, 3) := by decide +kernel
theorem dX2_depth_4 : decode cX2_depth 4 = .ok (.ifnull 13, 3) := by decide +kernel
theorem dX2_depth_7 : decode cX2_depth 7 = .ok (.aload_n 0, 1) := by decide +kernel
theorem dX2_depth_8 : decode cX2_depth 8 = .ok (.getfield 68, 3) := by decide +kernel
theorem dX2_depth_11 : decode cX2_depth 11 = .ok (.invokevirtual 72, 3) := by decide +kernel
theorem dX2_depth_14 : decode cX2_depth 14 = .ok (.ifCond .ne 6, 3) := by decide +kernel
theorem dX2_depth_17 : decode cX2_depth 17 = .ok (.bipush 8, 2) := by decide +kernel
theorem dX2_depth_19 : decode cX2_depth 19 = .ok (.ireturn, 1) := by decide +kernel
theorem dX2_depth_20 : decode cX2_depth 20 = .ok (.aload_n 0, 1) := by decide +kernel
theorem dX2_depth_21 : decode cX2_depth 21 = .ok (.iload_n 1, 1) := by decide +kernel
theorem dX2_depth_22 : decode cX2_depth 22 = .ok (.iconst 0, 1) := by decide +kernel
theorem dX2_depth_23 : decode cX2_depth 23 = .ok (.iconst 0, 1) := by decide +kernel
theorem dX2_depth_24 : decode cX2_depth 24 = .ok (.iconst 0, 1) := by decide +kernel
theorem dX2_depth_25 : decode cX2_depth 25 = .ok (.iconst 0, 1) := by decide +kernel
theorem dX2_depth_26 : decode cX2_depth 26 = .ok (.invokevirtual 78, 3) := by decide +kernel
theorem dX2_depth_29 : decode cX2_depth 29 = .ok (.aload_n 0, 1) := by decide +kernel
theorem dX2_depth_30 : decode cX2_depth 30 = .ok (.getfield 68, 3) := by decide +kernel
theorem dX2_depth_33 : decode cX2_depth 33 = .ok (.iconst 0, 1) := by decide +kernel
theorem dX2_depth_34 : decode cX2_depth 34 = .ok (.aload_n 0, 1) := by decide +kernel
theorem dX2_depth_35 : decode cX2_depth 35 = .ok (.getfield 34, 3) := by decide +kernel
theorem dX2_depth_38 : decode cX2_depth 38 = .ok (.invokevirtual 82, 3) := by decide +kernel
theorem dX2_depth_41 : decode cX2_depth 41 = .ok (.ireturn, 1) := by decide +kernel
theorem dX2_loud_0 : decode cX2_loud 0 = .ok (.iload_n 2, 1) := by decide +kernel
theorem dX2_loud_1 : decode cX2_loud 1 = .ok (.bipush 9, 2) := by decide +kernel
theorem dX2_loud_3 : decode cX2_loud 3 = .ok (.iload_n 3, 1) := by decide +kernel
theorem dX2_loud_4 : decode cX2_loud 4 = .ok (.imul, 1) := by decide +kernel
theorem dX2_loud_5 : decode cX2_loud 5 = .ok (.iadd, 1) := by decide +kernel
theorem dX2_loud_6 : decode cX2_loud 6 = .ok (.istore 6, 2) := by decide +kernel
theorem dX2_loud_8 : decode cX2_loud 8 = .ok (.aload_n 0, 1) := by decide +kernel
theorem dX2_loud_9 : decode cX2_loud 9 = .ok (.getfield 68, 3) := by decide +kernel
theorem dX2_loud_12 : decode cX2_loud 12 = .ok (.ifnull 44, 3) := by decide +kernel
theorem dX2_loud_15 : decode cX2_loud 15 = .ok (.aload_n 0, 1) := by decide +kernel
theorem dX2_loud_16 : decode cX2_loud 16 = .ok (.iload 5, 2) := by decide +kernel
theorem dX2_loud_18 : decode cX2_loud 18 = .ok (.iload_n 1, 1) := by decide +kernel
theorem dX2_loud_19 : decode cX2_loud 19 = .ok (.iload_n 2, 1) := by decide +kernel
theorem dX2_loud_20 : decode cX2_loud 20 = .ok (.iload 4, 2) := by decide +kernel
theorem dX2_loud_22 : decode cX2_loud 22 = .ok (.iload_n 3, 1) := by decide +kernel
theorem dX2_loud_23 : decode cX2_loud 23 = .ok (.invokevirtual 78, 3) := by decide +kernel
theorem dX2_loud_26 : decode cX2_loud 26 = .ok (.iload 6, 2) := by decide +kernel
theorem dX2_loud_28 : decode cX2_loud 28 = .ok (.aload_n 0, 1) := by decide +kernel
theorem dX2_loud_29 : decode cX2_loud 29 = .ok (.getfield 68, 3) := by decide +kernel
theorem dX2_loud_32 : decode cX2_loud 32 = .ok (.iconst 1, 1) := by decide +kernel
theorem dX2_loud_33 : decode cX2_loud 33 = .ok (.aload_n 0, 1) := by decide +kernel
theorem dX2_loud_34 : decode cX2_loud 34 = .ok (.getfield 34, 3) := by decide +kernel
theorem dX2_loud_37 : decode cX2_loud 37 = .ok (.invokevirtual 82, 3) := by decide +kernel
theorem dX2_loud_40 : decode cX2_loud 40 = .ok (.aload_n 0, 1) := by decide +kernel
theorem dX2_loud_41 : decode cX2_loud 41 = .ok (.getfield 68, 3) := by decide +kernel
theorem dX2_loud_44 : decode cX2_loud 44 = .ok (.iconst 2, 1) := by decide +kernel
theorem dX2_loud_45 : decode cX2_loud 45 = .ok (.aload_n 0, 1) := by decide +kernel
theorem dX2_loud_46 : decode cX2_loud 46 = .ok (.getfield 34, 3) := by decide +kernel
theorem dX2_loud_49 : decode cX2_loud 49 = .ok (.invokevirtual 82, 3) := by decide +kernel
theorem dX2_loud_52 : decode cX2_loud 52 = .ok (.isub, 1) := by decide +kernel
theorem dX2_loud_53 : decode cX2_loud 53 = .ok (.iadd, 1) := by decide +kernel
theorem dX2_loud_54 : decode cX2_loud 54 = .ok (.istore 6, 2) := by decide +kernel
theorem dX2_loud_56 : decode cX2_loud 56 = .ok (.iconst 0, 1) := by decide +kernel
theorem dX2_loud_57 : decode cX2_loud 57 = .ok (.iload 6, 2) := by decide +kernel
theorem dX2_loud_59 : decode cX2_loud 59 = .ok (.invokestatic 86, 3) := by decide +kernel
theorem dX2_loud_62 : decode cX2_loud 62 = .ok (.ireturn, 1) := by decide +kernel
theorem dX2_noise_0 : decode cX2_noise 0 = .ok (.iload_n 2, 1) := by decide +kernel
theorem dX2_noise_1 : decode cX2_noise 1 = .ok (.invokestatic 92, 3) := by decide +kernel
theorem dX2_noise_4 : decode cX2_noise 4 = .ok (.ifCond .ne 5, 3) := by decide +kernel
theorem dX2_noise_7 : decode cX2_noise 7 = .ok (.iconst 0, 1) := by decide +kernel
theorem dX2_noise_8 : decode cX2_noise 8 = .ok (.ireturn, 1) := by decide +kernel
theorem dX2_noise_9 : decode cX2_noise 9 = .ok (.aload_n 1, 1) := by decide +kernel
theorem dX2_noise_10 : decode cX2_noise 10 = .ok (.aload_n 0, 1) := by decide +kernel
theorem dX2_noise_11 : decode cX2_noise 11 = .ok (.iload_n 2, 1) := by decide +kernel
theorem dX2_noise_12 : decode cX2_noise 12 = .ok (.aload_n 0, 1) := by decide +kernel
theorem dX2_noise_13 : decode cX2_noise 13 = .ok (.getfield 9, 3) := by decide +kernel
theorem dX2_noise_16 : decode cX2_noise 16 = .ok (.iload_n 2, 1) := by decide +kernel
theorem dX2_noise_17 : decode cX2_noise 17 = .ok (.iaload, 1) := by decide +kernel
theorem dX2_noise_18 : decode cX2_noise 18 = .ok (.aload_n 0, 1) := by decide +kernel
theorem dX2_noise_19 : decode cX2_noise 19 = .ok (.iload_n 2, 1) := by decide +kernel
theorem dX2_noise_20 : decode cX2_noise 20 = .ok (.invokevirtual 96, 3) := by decide +kernel
theorem dX2_noise_23 : decode cX2_noise 23 = .ok (.aload_n 1, 1) := by decide +kernel
theorem dX2_noise_24 : decode cX2_noise 24 = .ok (.invokevirtual 100, 3) := by decide +kernel
theorem dX2_noise_27 : decode cX2_noise 27 = .ok (.iload_n 3, 1) := by decide +kernel
theorem dX2_noise_28 : decode cX2_noise 28 = .ok (.invokevirtual 106, 3) := by decide +kernel
theorem dX2_noise_31 : decode cX2_noise 31 = .ok (.iload_n 3, 1) := by decide +kernel
theorem dX2_noise_32 : decode cX2_noise 32 = .ok (.invokevirtual 110, 3) := by decide +kernel
theorem dX2_noise_35 : decode cX2_noise 35 = .ok (.ireturn, 1) := by decide +kernel
theorem dX2_fitsSeen_0 : decode cX2_fitsSeen 0 = .ok (.iconst 0, 1) := by decide +kernel
theorem dX2_fitsSeen_1 : decode cX2_fitsSeen 1 = .ok (.istore_n 2, 1) := by decide +kernel
theorem dX2_fitsSeen_2 : decode cX2_fitsSeen 2 = .ok (.iload_n 2, 1) := by decide +kernel
theorem dX2_fitsSeen_3 : decode cX2_fitsSeen 3 = .ok (.aload_n 0, 1) := by decide +kernel
theorem dX2_fitsSeen_4 : decode cX2_fitsSeen 4 = .ok (.getfield 62, 3) := by decide +kernel
theorem dX2_fitsSeen_7 : decode cX2_fitsSeen 7 = .ok (.if_icmp .ge 76, 3) := by decide +kernel
theorem dX2_fitsSeen_10 : decode cX2_fitsSeen 10 = .ok (.iload_n 2, 1) := by decide +kernel
theorem dX2_fitsSeen_11 : decode cX2_fitsSeen 11 = .ok (.bipush 6, 2) := by decide +kernel
theorem dX2_fitsSeen_13 : decode cX2_fitsSeen 13 = .ok (.if_icmp .ge 70, 3) := by decide +kernel
theorem dX2_fitsSeen_16 : decode cX2_fitsSeen 16 = .ok (.aload_n 0, 1) := by decide +kernel
theorem dX2_fitsSeen_17 : decode cX2_fitsSeen 17 = .ok (.getfield 49, 3) := by decide +kernel
theorem dX2_fitsSeen_20 : decode cX2_fitsSeen 20 = .ok (.aload_n 0, 1) := by decide +kernel
theorem dX2_fitsSeen_21 : decode cX2_fitsSeen 21 = .ok (.getfield 25, 3) := by decide +kernel
theorem dX2_fitsSeen_24 : decode cX2_fitsSeen 24 = .ok (.iload_n 2, 1) := by decide +kernel
theorem dX2_fitsSeen_25 : decode cX2_fitsSeen 25 = .ok (.iaload, 1) := by decide +kernel
theorem dX2_fitsSeen_26 : decode cX2_fitsSeen 26 = .ok (.iadd, 1) := by decide +kernel
theorem dX2_fitsSeen_27 : decode cX2_fitsSeen 27 = .ok (.istore_n 3, 1) := by decide +kernel
theorem dX2_fitsSeen_28 : decode cX2_fitsSeen 28 = .ok (.aload_n 0, 1) := by decide +kernel
theorem dX2_fitsSeen_29 : decode cX2_fitsSeen 29 = .ok (.aload_n 1, 1) := by decide +kernel
theorem dX2_fitsSeen_30 : decode cX2_fitsSeen 30 = .ok (.aload_n 0, 1) := by decide +kernel
theorem dX2_fitsSeen_31 : decode cX2_fitsSeen 31 = .ok (.getfield 22, 3) := by decide +kernel
theorem dX2_fitsSeen_34 : decode cX2_fitsSeen 34 = .ok (.iload_n 2, 1) := by decide +kernel
theorem dX2_fitsSeen_35 : decode cX2_fitsSeen 35 = .ok (.iaload, 1) := by decide +kernel
theorem dX2_fitsSeen_36 : decode cX2_fitsSeen 36 = .ok (.iload_n 3, 1) := by decide +kernel
theorem dX2_fitsSeen_37 : decode cX2_fitsSeen 37 = .ok (.invokevirtual 113, 3) := by decide +kernel
theorem dX2_fitsSeen_40 : decode cX2_fitsSeen 40 = .ok (.aload_n 0, 1) := by decide +kernel
theorem dX2_fitsSeen_41 : decode cX2_fitsSeen 41 = .ok (.iload_n 3, 1) := by decide +kernel
theorem dX2_fitsSeen_42 : decode cX2_fitsSeen 42 = .ok (.invokevirtual 116, 3) := by decide +kernel
theorem dX2_fitsSeen_45 : decode cX2_fitsSeen 45 = .ok (.if_icmp .le 7, 3) := by decide +kernel
theorem dX2_fitsSeen_48 : decode cX2_fitsSeen 48 = .ok (.iconst 1, 1) := by decide +kernel
theorem dX2_fitsSeen_49 : decode cX2_fitsSeen 49 = .ok (.goto 4, 3) := by decide +kernel
theorem dX2_fitsSeen_52 : decode cX2_fitsSeen 52 = .ok (.iconst 0, 1) := by decide +kernel
theorem dX2_fitsSeen_53 : decode cX2_fitsSeen 53 = .ok (.istore 4, 2) := by decide +kernel
theorem dX2_fitsSeen_55 : decode cX2_fitsSeen 55 = .ok (.iload 4, 2) := by decide +kernel
theorem dX2_fitsSeen_57 : decode cX2_fitsSeen 57 = .ok (.aload_n 0, 1) := by decide +kernel
theorem dX2_fitsSeen_58 : decode cX2_fitsSeen 58 = .ok (.getfield 28, 3) := by decide +kernel
theorem dX2_fitsSeen_61 : decode cX2_fitsSeen 61 = .ok (.iload_n 2, 1) := by decide +kernel
theorem dX2_fitsSeen_62 : decode cX2_fitsSeen 62 = .ok (.iaload, 1) := by decide +kernel
theorem dX2_fitsSeen_63 : decode cX2_fitsSeen 63 = .ok (.iconst 1, 1) := by decide +kernel
theorem dX2_fitsSeen_64 : decode cX2_fitsSeen 64 = .ok (.if_icmp .ne 7, 3) := by decide +kernel
theorem dX2_fitsSeen_67 : decode cX2_fitsSeen 67 = .ok (.iconst 1, 1) := by decide +kernel
theorem dX2_fitsSeen_68 : decode cX2_fitsSeen 68 = .ok (.goto 4, 3) := by decide +kernel
theorem dX2_fitsSeen_71 : decode cX2_fitsSeen 71 = .ok (.iconst 0, 1) := by decide +kernel
theorem dX2_fitsSeen_72 : decode cX2_fitsSeen 72 = .ok (.if_icmp .eq 5, 3) := by decide +kernel
theorem dX2_fitsSeen_75 : decode cX2_fitsSeen 75 = .ok (.iconst 0, 1) := by decide +kernel
theorem dX2_fitsSeen_76 : decode cX2_fitsSeen 76 = .ok (.ireturn, 1) := by decide +kernel
theorem dX2_fitsSeen_77 : decode cX2_fitsSeen 77 = .ok (.iinc 2 1, 3) := by decide +kernel
theorem dX2_fitsSeen_80 : decode cX2_fitsSeen 80 = .ok (.goto (-78), 3) := by decide +kernel
theorem dX2_fitsSeen_83 : decode cX2_fitsSeen 83 = .ok (.iconst 1, 1) := by decide +kernel
theorem dX2_fitsSeen_84 : decode cX2_fitsSeen 84 = .ok (.ireturn, 1) := by decide +kernel
theorem dX2_setFacts_0 : decode cX2_setFacts 0 = .ok (.aload_n 0, 1) := by decide +kernel
theorem dX2_setFacts_1 : decode cX2_setFacts 1 = .ok (.getfield 34, 3) := by decide +kernel
theorem dX2_setFacts_4 : decode cX2_setFacts 4 = .ok (.iconst 0, 1) := by decide +kernel
theorem dX2_setFacts_5 : decode cX2_setFacts 5 = .ok (.iload_n 1, 1) := by decide +kernel
theorem dX2_setFacts_6 : decode cX2_setFacts 6 = .ok (.bipush 12, 2) := by decide +kernel
theorem dX2_setFacts_8 : decode cX2_setFacts 8 = .ok (.irem, 1) := by decide +kernel
theorem dX2_setFacts_9 : decode cX2_setFacts 9 = .ok (.iastore, 1) := by decide +kernel
theorem dX2_setFacts_10 : decode cX2_setFacts 10 = .ok (.aload_n 0, 1) := by decide +kernel
theorem dX2_setFacts_11 : decode cX2_setFacts 11 = .ok (.getfield 34, 3) := by decide +kernel
theorem dX2_setFacts_14 : decode cX2_setFacts 14 = .ok (.iconst 1, 1) := by decide +kernel
theorem dX2_setFacts_15 : decode cX2_setFacts 15 = .ok (.iload_n 2, 1) := by decide +kernel
theorem dX2_setFacts_16 : decode cX2_setFacts 16 = .ok (.bipush 6, 2) := by decide +kernel
theorem dX2_setFacts_18 : decode cX2_setFacts 18 = .ok (.irem, 1) := by decide +kernel
theorem dX2_setFacts_19 : decode cX2_setFacts 19 = .ok (.iastore, 1) := by decide +kernel
theorem dX2_setFacts_20 : decode cX2_setFacts 20 = .ok (.aload_n 0, 1) := by decide +kernel
theorem dX2_setFacts_21 : decode cX2_setFacts 21 = .ok (.getfield 34, 3) := by decide +kernel
theorem dX2_setFacts_24 : decode cX2_setFacts 24 = .ok (.iconst 2, 1) := by decide +kernel
theorem dX2_setFacts_25 : decode cX2_setFacts 25 = .ok (.iload_n 2, 1) := by decide +kernel
theorem dX2_setFacts_26 : decode cX2_setFacts 26 = .ok (.bipush 6, 2) := by decide +kernel
theorem dX2_setFacts_28 : decode cX2_setFacts 28 = .ok (.idiv, 1) := by decide +kernel
theorem dX2_setFacts_29 : decode cX2_setFacts 29 = .ok (.iastore, 1) := by decide +kernel
theorem dX2_setFacts_30 : decode cX2_setFacts 30 = .ok (.aload_n 0, 1) := by decide +kernel
theorem dX2_setFacts_31 : decode cX2_setFacts 31 = .ok (.getfield 34, 3) := by decide +kernel
theorem dX2_setFacts_34 : decode cX2_setFacts 34 = .ok (.iconst 3, 1) := by decide +kernel
theorem dX2_setFacts_35 : decode cX2_setFacts 35 = .ok (.iload_n 3, 1) := by decide +kernel
theorem dX2_setFacts_36 : decode cX2_setFacts 36 = .ok (.iastore, 1) := by decide +kernel
theorem dX2_setFacts_37 : decode cX2_setFacts 37 = .ok (.aload_n 0, 1) := by decide +kernel
theorem dX2_setFacts_38 : decode cX2_setFacts 38 = .ok (.getfield 34, 3) := by decide +kernel
theorem dX2_setFacts_41 : decode cX2_setFacts 41 = .ok (.iconst 4, 1) := by decide +kernel
theorem dX2_setFacts_42 : decode cX2_setFacts 42 = .ok (.iload 4, 2) := by decide +kernel
theorem dX2_setFacts_44 : decode cX2_setFacts 44 = .ok (.iastore, 1) := by decide +kernel
theorem dX2_setFacts_45 : decode cX2_setFacts 45 = .ok (.aload_n 0, 1) := by decide +kernel
theorem dX2_setFacts_46 : decode cX2_setFacts 46 = .ok (.getfield 34, 3) := by decide +kernel
theorem dX2_setFacts_49 : decode cX2_setFacts 49 = .ok (.iconst 5, 1) := by decide +kernel
theorem dX2_setFacts_50 : decode cX2_setFacts 50 = .ok (.iload 5, 2) := by decide +kernel
theorem dX2_setFacts_52 : decode cX2_setFacts 52 = .ok (.iastore, 1) := by decide +kernel
theorem dX2_setFacts_53 : decode cX2_setFacts 53 = .ok (.return_, 1) := by decide +kernel
theorem dX3_init_0 : decode cX3_init 0 = .ok (.aload_n 0, 1) := by decide +kernel
theorem dX3_init_1 : decode cX3_init 1 = .ok (.invokespecial 3, 3) := by decide +kernel
theorem dX3_init_4 : decode cX3_init 4 = .ok (.aload_n 0, 1) := by decide +kernel
theorem dX3_init_5 : decode cX3_init 5 = .ok (.bipush 10, 2) := by decide +kernel
theorem dX3_init_7 : decode cX3_init 7 = .ok (.newarray .int, 2) := by decide +kernel
theorem dX3_init_9 : decode cX3_init 9 = .ok (.putfield 9, 3) := by decide +kernel
theorem dX3_init_12 : decode cX3_init 12 = .ok (.aload_n 0, 1) := by decide +kernel
theorem dX3_init_13 : decode cX3_init 13 = .ok (.bipush 10, 2) := by decide +kernel
theorem dX3_init_15 : decode cX3_init 15 = .ok (.newarray .int, 2) := by decide +kernel
theorem dX3_init_17 : decode cX3_init 17 = .ok (.putfield 15, 3) := by decide +kernel
theorem dX3_init_20 : decode cX3_init 20 = .ok (.aload_n 0, 1) := by decide +kernel
theorem dX3_init_21 : decode cX3_init 21 = .ok (.bipush 10, 2) := by decide +kernel
theorem dX3_init_23 : decode cX3_init 23 = .ok (.newarray .int, 2) := by decide +kernel
theorem dX3_init_25 : decode cX3_init 25 = .ok (.putfield 18, 3) := by decide +kernel
theorem dX3_init_28 : decode cX3_init 28 = .ok (.aload_n 0, 1) := by decide +kernel
theorem dX3_init_29 : decode cX3_init 29 = .ok (.bipush 100, 2) := by decide +kernel
theorem dX3_init_31 : decode cX3_init 31 = .ok (.newarray .int, 2) := by decide +kernel
theorem dX3_init_33 : decode cX3_init 33 = .ok (.putfield 21, 3) := by decide +kernel
theorem dX3_init_36 : decode cX3_init 36 = .ok (.return_, 1) := by decide +kernel
theorem dX3_clear_0 : decode cX3_clear 0 = .ok (.aload_n 0, 1) := by decide +kernel
theorem dX3_clear_1 : decode cX3_clear 1 = .ok (.iconst 0, 1) := by decide +kernel
theorem dX3_clear_2 : decode cX3_clear 2 = .ok (.putfield 24, 3) := by decide +kernel
theorem dX3_clear_5 : decode cX3_clear 5 = .ok (.aload_n 0, 1) := by decide +kernel
theorem dX3_clear_6 : decode cX3_clear 6 = .ok (.iconst 0, 1) := by decide +kernel
theorem dX3_clear_7 : decode cX3_clear 7 = .ok (.putfield 28, 3) := by decide +kernel
theorem dX3_clear_10 : decode cX3_clear 10 = .ok (.return_, 1) := by decide +kernel
theorem dX3_addCode_0 : decode cX3_addCode 0 = .ok (.aload_n 0, 1) := by decide +kernel
theorem dX3_addCode_1 : decode cX3_addCode 1 = .ok (.getfield 28, 3) := by decide +kernel
theorem dX3_addCode_4 : decode cX3_addCode 4 = .ok (.ifCond .lt 32, 3) := by decide +kernel
theorem dX3_addCode_7 : decode cX3_addCode 7 = .ok (.aload_n 0, 1) := by decide +kernel
theorem dX3_addCode_8 : decode cX3_addCode 8 = .ok (.getfield 28, 3) := by decide +kernel
theorem dX3_addCode_11 : decode cX3_addCode 11 = .ok (.bipush 100, 2) := by decide +kernel
theorem dX3_addCode_13 : decode cX3_addCode 13 = .ok (.if_icmp .ge 23, 3) := by decide +kernel
theorem dX3_addCode_16 : decode cX3_addCode 16 = .ok (.aload_n 0, 1) := by decide +kernel
theorem dX3_addCode_17 : decode cX3_addCode 17 = .ok (.getfield 21, 3) := by decide +kernel
theorem dX3_addCode_20 : decode cX3_addCode 20 = .ok (.aload_n 0, 1) := by decide +kernel
theorem dX3_addCode_21 : decode cX3_addCode 21 = .ok (.getfield 28, 3) := by decide +kernel
theorem dX3_addCode_24 : decode cX3_addCode 24 = .ok (.iload_n 1, 1) := by decide +kernel
theorem dX3_addCode_25 : decode cX3_addCode 25 = .ok (.iastore, 1) := by decide +kernel
theorem dX3_addCode_26 : decode cX3_addCode 26 = .ok (.aload_n 0, 1) := by decide +kernel
theorem dX3_addCode_27 : decode cX3_addCode 27 = .ok (.dup, 1) := by decide +kernel
theorem dX3_addCode_28 : decode cX3_addCode 28 = .ok (.getfield 28, 3) := by decide +kernel
theorem dX3_addCode_31 : decode cX3_addCode 31 = .ok (.iconst 1, 1) := by decide +kernel
theorem dX3_addCode_32 : decode cX3_addCode 32 = .ok (.iadd, 1) := by decide +kernel
theorem dX3_addCode_33 : decode cX3_addCode 33 = .ok (.putfield 28, 3) := by decide +kernel
theorem dX3_addCode_36 : decode cX3_addCode 36 = .ok (.return_, 1) := by decide +kernel
theorem dX3_addClause_0 : decode cX3_addClause 0 = .ok (.aload_n 0, 1) := by decide +kernel
theorem dX3_addClause_1 : decode cX3_addClause 1 = .ok (.getfield 24, 3) := by decide +kernel
theorem dX3_addClause_4 : decode cX3_addClause 4 = .ok (.ifCond .lt 55, 3) := by decide +kernel
theorem dX3_addClause_7 : decode cX3_addClause 7 = .ok (.aload_n 0, 1) := by decide +kernel
theorem dX3_addClause_8 : decode cX3_addClause 8 = .ok (.getfield 24, 3) := by decide +kernel
theorem dX3_addClause_11 : decode cX3_addClause 11 = .ok (.bipush 10, 2) := by decide +kernel
theorem dX3_addClause_13 : decode cX3_addClause 13 = .ok (.if_icmp .ge 46, 3) := by decide +kernel
theorem dX3_addClause_16 : decode cX3_addClause 16 = .ok (.aload_n 0, 1) := by decide +kernel
theorem dX3_addClause_17 : decode cX3_addClause 17 = .ok (.getfield 9, 3) := by decide +kernel
theorem dX3_addClause_20 : decode cX3_addClause 20 = .ok (.aload_n 0, 1) := by decide +kernel
theorem dX3_addClause_21 : decode cX3_addClause 21 = .ok (.getfield 24, 3) := by decide +kernel
theorem dX3_addClause_24 : decode cX3_addClause 24 = .ok (.iload_n 1, 1) := by decide +kernel
theorem dX3_addClause_25 : decode cX3_addClause 25 = .ok (.iastore, 1) := by decide +kernel
theorem dX3_addClause_26 : decode cX3_addClause 26 = .ok (.aload_n 0, 1) := by decide +kernel
theorem dX3_addClause_27 : decode cX3_addClause 27 = .ok (.getfield 15, 3) := by decide +kernel
theorem dX3_addClause_30 : decode cX3_addClause 30 = .ok (.aload_n 0, 1) := by decide +kernel
theorem dX3_addClause_31 : decode cX3_addClause 31 = .ok (.getfield 24, 3) := by decide +kernel
theorem dX3_addClause_34 : decode cX3_addClause 34 = .ok (.iload_n 2, 1) := by decide +kernel
theorem dX3_addClause_35 : decode cX3_addClause 35 = .ok (.iastore, 1) := by decide +kernel
theorem dX3_addClause_36 : decode cX3_addClause 36 = .ok (.aload_n 0, 1) := by decide +kernel
theorem dX3_addClause_37 : decode cX3_addClause 37 = .ok (.getfield 18, 3) := by decide +kernel
theorem dX3_addClause_40 : decode cX3_addClause 40 = .ok (.aload_n 0, 1) := by decide +kernel
theorem dX3_addClause_41 : decode cX3_addClause 41 = .ok (.getfield 24, 3) := by decide +kernel
theorem dX3_addClause_44 : decode cX3_addClause 44 = .ok (.aload_n 0, 1) := by decide +kernel
theorem dX3_addClause_45 : decode cX3_addClause 45 = .ok (.getfield 28, 3) := by decide +kernel
theorem dX3_addClause_48 : decode cX3_addClause 48 = .ok (.iastore, 1) := by decide +kernel
theorem dX3_addClause_49 : decode cX3_addClause 49 = .ok (.aload_n 0, 1) := by decide +kernel
theorem dX3_addClause_50 : decode cX3_addClause 50 = .ok (.dup, 1) := by decide +kernel
theorem dX3_addClause_51 : decode cX3_addClause 51 = .ok (.getfield 24, 3) := by decide +kernel
theorem dX3_addClause_54 : decode cX3_addClause 54 = .ok (.iconst 1, 1) := by decide +kernel
theorem dX3_addClause_55 : decode cX3_addClause 55 = .ok (.iadd, 1) := by decide +kernel
theorem dX3_addClause_56 : decode cX3_addClause 56 = .ok (.putfield 24, 3) := by decide +kernel
theorem dX3_addClause_59 : decode cX3_addClause 59 = .ok (.return_, 1) := by decide +kernel
theorem dX3_hasDeep_0 : decode cX3_hasDeep 0 = .ok (.iconst 0, 1) := by decide +kernel
theorem dX3_hasDeep_1 : decode cX3_hasDeep 1 = .ok (.istore_n 1, 1) := by decide +kernel
theorem dX3_hasDeep_2 : decode cX3_hasDeep 2 = .ok (.iconst 0, 1) := by decide +kernel
theorem dX3_hasDeep_3 : decode cX3_hasDeep 3 = .ok (.istore_n 2, 1) := by decide +kernel
theorem dX3_hasDeep_4 : decode cX3_hasDeep 4 = .ok (.iload_n 2, 1) := by decide +kernel
theorem dX3_hasDeep_5 : decode cX3_hasDeep 5 = .ok (.aload_n 0, 1) := by decide +kernel
theorem dX3_hasDeep_6 : decode cX3_hasDeep 6 = .ok (.getfield 24, 3) := by decide +kernel
theorem dX3_hasDeep_9 : decode cX3_hasDeep 9 = .ok (.if_icmp .ge 32, 3) := by decide +kernel
theorem dX3_hasDeep_12 : decode cX3_hasDeep 12 = .ok (.iload_n 2, 1) := by decide +kernel
theorem dX3_hasDeep_13 : decode cX3_hasDeep 13 = .ok (.bipush 10, 2) := by decide +kernel
theorem dX3_hasDeep_15 : decode cX3_hasDeep 15 = .ok (.if_icmp .ge 26, 3) := by decide +kernel
theorem dX3_hasDeep_18 : decode cX3_hasDeep 18 = .ok (.iload_n 1, 1) := by decide +kernel
theorem dX3_hasDeep_19 : decode cX3_hasDeep 19 = .ok (.aload_n 0, 1) := by decide +kernel
theorem dX3_hasDeep_20 : decode cX3_hasDeep 20 = .ok (.getfield 9, 3) := by decide +kernel
theorem dX3_hasDeep_23 : decode cX3_hasDeep 23 = .ok (.iload_n 2, 1) := by decide +kernel
theorem dX3_hasDeep_24 : decode cX3_hasDeep 24 = .ok (.iaload, 1) := by decide +kernel
theorem dX3_hasDeep_25 : decode cX3_hasDeep 25 = .ok (.ifCond .ne 7, 3) := by decide +kernel
theorem dX3_hasDeep_28 : decode cX3_hasDeep 28 = .ok (.iconst 1, 1) := by decide +kernel
theorem dX3_hasDeep_29 : decode cX3_hasDeep 29 = .ok (.goto 4, 3) := by decide +kernel
theorem dX3_hasDeep_32 : decode cX3_hasDeep 32 = .ok (.iconst 0, 1) := by decide +kernel
theorem dX3_hasDeep_33 : decode cX3_hasDeep 33 = .ok (.ior, 1) := by decide +kernel
theorem dX3_hasDeep_34 : decode cX3_hasDeep 34 = .ok (.istore_n 1, 1) := by decide +kernel
theorem dX3_hasDeep_35 : decode cX3_hasDeep 35 = .ok (.iinc 2 1, 3) := by decide +kernel
theorem dX3_hasDeep_38 : decode cX3_hasDeep 38 = .ok (.goto (-34), 3) := by decide +kernel
theorem dX3_hasDeep_41 : decode cX3_hasDeep 41 = .ok (.iload_n 1, 1) := by decide +kernel
theorem dX3_hasDeep_42 : decode cX3_hasDeep 42 = .ok (.ireturn, 1) := by decide +kernel
theorem dX3_together_0 : decode cX3_together 0 = .ok (.iconst 0, 1) := by decide +kernel
theorem dX3_together_1 : decode cX3_together 1 = .ok (.istore_n 3, 1) := by decide +kernel
theorem dX3_together_2 : decode cX3_together 2 = .ok (.iconst 0, 1) := by decide +kernel
theorem dX3_together_3 : decode cX3_together 3 = .ok (.istore 4, 2) := by decide +kernel
theorem dX3_together_5 : decode cX3_together 5 = .ok (.iconst 0, 1) := by decide +kernel
theorem dX3_together_6 : decode cX3_together 6 = .ok (.istore 5, 2) := by decide +kernel
theorem dX3_together_8 : decode cX3_together 8 = .ok (.iload 5, 2) := by decide +kernel
theorem dX3_together_10 : decode cX3_together 10 = .ok (.aload_n 0, 1) := by decide +kernel
theorem dX3_together_11 : decode cX3_together 11 = .ok (.getfield 24, 3) := by decide +kernel
theorem dX3_together_14 : decode cX3_together 14 = .ok (.if_icmp .ge 63, 3) := by decide +kernel
theorem dX3_together_17 : decode cX3_together 17 = .ok (.iload 5, 2) := by decide +kernel
theorem dX3_together_19 : decode cX3_together 19 = .ok (.bipush 10, 2) := by decide +kernel
theorem dX3_together_21 : decode cX3_together 21 = .ok (.if_icmp .ge 56, 3) := by decide +kernel
theorem dX3_together_24 : decode cX3_together 24 = .ok (.aload_n 0, 1) := by decide +kernel
theorem dX3_together_25 : decode cX3_together 25 = .ok (.getfield 9, 3) := by decide +kernel
theorem dX3_together_28 : decode cX3_together 28 = .ok (.iload 5, 2) := by decide +kernel
theorem dX3_together_30 : decode cX3_together 30 = .ok (.iaload, 1) := by decide +kernel
theorem dX3_together_31 : decode cX3_together 31 = .ok (.iload_n 1, 1) := by decide +kernel
theorem dX3_together_32 : decode cX3_together 32 = .ok (.if_icmp .ne 30, 3) := by decide +kernel
theorem dX3_together_35 : decode cX3_together 35 = .ok (.aload_n 0, 1) := by decide +kernel
theorem dX3_together_36 : decode cX3_together 36 = .ok (.iload 4, 2) := by decide +kernel
theorem dX3_together_38 : decode cX3_together 38 = .ok (.aload_n 0, 1) := by decide +kernel
theorem dX3_together_39 : decode cX3_together 39 = .ok (.getfield 18, 3) := by decide +kernel
theorem dX3_together_42 : decode cX3_together 42 = .ok (.iload 5, 2) := by decide +kernel
theorem dX3_together_44 : decode cX3_together 44 = .ok (.iaload, 1) := by decide +kernel
theorem dX3_together_45 : decode cX3_together 45 = .ok (.aload_n 2, 1) := by decide +kernel
theorem dX3_together_46 : decode cX3_together 46 = .ok (.invokevirtual 31, 3) := by decide +kernel
theorem dX3_together_49 : decode cX3_together 49 = .ok (.ifCond .eq 13, 3) := by decide +kernel
theorem dX3_together_52 : decode cX3_together 52 = .ok (.iload_n 3, 1) := by decide +kernel
theorem dX3_together_53 : decode cX3_together 53 = .ok (.aload_n 0, 1) := by decide +kernel
theorem dX3_together_54 : decode cX3_together 54 = .ok (.getfield 15, 3) := by decide +kernel
theorem dX3_together_57 : decode cX3_together 57 = .ok (.iload 5, 2) := by decide +kernel
theorem dX3_together_59 : decode cX3_together 59 = .ok (.iaload, 1) := by decide +kernel
theorem dX3_together_60 : decode cX3_together 60 = .ok (.iadd, 1) := by decide +kernel
theorem dX3_together_61 : decode cX3_together 61 = .ok (.istore_n 3, 1) := by decide +kernel
theorem dX3_together_62 : decode cX3_together 62 = .ok (.aload_n 0, 1) := by decide +kernel
theorem dX3_together_63 : decode cX3_together 63 = .ok (.getfield 18, 3) := by decide +kernel
theorem dX3_together_66 : decode cX3_together 66 = .ok (.iload 5, 2) := by decide +kernel
theorem dX3_together_68 : decode cX3_together 68 = .ok (.iaload, 1) := by decide +kernel
theorem dX3_together_69 : decode cX3_together 69 = .ok (.istore 4, 2) := by decide +kernel
theorem dX3_together_71 : decode cX3_together 71 = .ok (.iinc 5 1, 3) := by decide +kernel
theorem dX3_together_74 : decode cX3_together 74 = .ok (.goto (-66), 3) := by decide +kernel
theorem dX3_together_77 : decode cX3_together 77 = .ok (.iload_n 3, 1) := by decide +kernel
theorem dX3_together_78 : decode cX3_together 78 = .ok (.ireturn, 1) := by decide +kernel
theorem dX3_holds_0 : decode cX3_holds 0 = .ok (.lconst 0, 1) := by decide +kernel
theorem dX3_holds_1 : decode cX3_holds 1 = .ok (.lstore 4, 2) := by decide +kernel
theorem dX3_holds_3 : decode cX3_holds 3 = .ok (.iconst 0, 1) := by decide +kernel
theorem dX3_holds_4 : decode cX3_holds 4 = .ok (.iload_n 1, 1) := by decide +kernel
theorem dX3_holds_5 : decode cX3_holds 5 = .ok (.invokestatic 35, 3) := by decide +kernel
theorem dX3_holds_8 : decode cX3_holds 8 = .ok (.istore 6, 2) := by decide +kernel
theorem dX3_holds_10 : decode cX3_holds 10 = .ok (.iload 6, 2) := by decide +kernel
theorem dX3_holds_12 : decode cX3_holds 12 = .ok (.iload_n 2, 1) := by decide +kernel
theorem dX3_holds_13 : decode cX3_holds 13 = .ok (.if_icmp .ge 127, 3) := by decide +kernel
theorem dX3_holds_16 : decode cX3_holds 16 = .ok (.iload 6, 2) := by decide +kernel
theorem dX3_holds_18 : decode cX3_holds 18 = .ok (.bipush 100, 2) := by decide +kernel
theorem dX3_holds_20 : decode cX3_holds 20 = .ok (.if_icmp .ge 120, 3) := by decide +kernel
theorem dX3_holds_23 : decode cX3_holds 23 = .ok (.lload 4, 2) := by decide +kernel
theorem dX3_holds_25 : decode cX3_holds 25 = .ok (.lconst 1, 1) := by decide +kernel
theorem dX3_holds_26 : decode cX3_holds 26 = .ok (.land, 1) := by decide +kernel
theorem dX3_holds_27 : decode cX3_holds 27 = .ok (.lstore 7, 2) := by decide +kernel
theorem dX3_holds_29 : decode cX3_holds 29 = .ok (.aload_n 0, 1) := by decide +kernel
theorem dX3_holds_30 : decode cX3_holds 30 = .ok (.getfield 21, 3) := by decide +kernel
theorem dX3_holds_33 : decode cX3_holds 33 = .ok (.iload 6, 2) := by decide +kernel
theorem dX3_holds_35 : decode cX3_holds 35 = .ok (.iaload, 1) := by decide +kernel
theorem dX3_holds_36 : decode cX3_holds 36 = .ok (.ifCond .lt 33, 3) := by decide +kernel
theorem dX3_holds_39 : decode cX3_holds 39 = .ok (.lload 4, 2) := by decide +kernel
theorem dX3_holds_41 : decode cX3_holds 41 = .ok (.iconst 1, 1) := by decide +kernel
theorem dX3_holds_42 : decode cX3_holds 42 = .ok (.lshl, 1) := by decide +kernel
theorem dX3_holds_43 : decode cX3_holds 43 = .ok (.aload_n 0, 1) := by decide +kernel
theorem dX3_holds_44 : decode cX3_holds 44 = .ok (.getfield 21, 3) := by decide +kernel
theorem dX3_holds_47 : decode cX3_holds 47 = .ok (.iload 6, 2) := by decide +kernel
theorem dX3_holds_49 : decode cX3_holds 49 = .ok (.iaload, 1) := by decide +kernel
theorem dX3_holds_50 : decode cX3_holds 50 = .ok (.aload_n 3, 1) := by decide +kernel
theorem dX3_holds_51 : decode cX3_holds 51 = .ok (.invokestatic 41, 3) := by decide +kernel
theorem dX3_holds_54 : decode cX3_holds 54 = .ok (.ifCond .eq 7, 3) := by decide +kernel
theorem dX3_holds_57 : decode cX3_holds 57 = .ok (.iconst 1, 1) := by decide +kernel
theorem dX3_holds_58 : decode cX3_holds 58 = .ok (.goto 4, 3) := by decide +kernel
theorem dX3_holds_61 : decode cX3_holds 61 = .ok (.iconst 0, 1) := by decide +kernel
theorem dX3_holds_62 : decode cX3_holds 62 = .ok (.i2l, 1) := by decide +kernel
theorem dX3_holds_63 : decode cX3_holds 63 = .ok (.lor, 1) := by decide +kernel
theorem dX3_holds_64 : decode cX3_holds 64 = .ok (.lstore 4, 2) := by decide +kernel
theorem dX3_holds_66 : decode cX3_holds 66 = .ok (.goto 68, 3) := by decide +kernel
theorem dX3_holds_69 : decode cX3_holds 69 = .ok (.aload_n 0, 1) := by decide +kernel
theorem dX3_holds_70 : decode cX3_holds 70 = .ok (.getfield 21, 3) := by decide +kernel
theorem dX3_holds_73 : decode cX3_holds 73 = .ok (.iload 6, 2) := by decide +kernel
theorem dX3_holds_75 : decode cX3_holds 75 = .ok (.iaload, 1) := by decide +kernel
theorem dX3_holds_76 : decode cX3_holds 76 = .ok (.iconst (-1), 1) := by decide +kernel
theorem dX3_holds_77 : decode cX3_holds 77 = .ok (.if_icmp .ne 12, 3) := by decide +kernel
theorem dX3_holds_80 : decode cX3_holds 80 = .ok (.lload 4, 2) := by decide +kernel
theorem dX3_holds_82 : decode cX3_holds 82 = .ok (.lconst 1, 1) := by decide +kernel
theorem dX3_holds_83 : decode cX3_holds 83 = .ok (.lxor, 1) := by decide +kernel
theorem dX3_holds_84 : decode cX3_holds 84 = .ok (.lstore 4, 2) := by decide +kernel
theorem dX3_holds_86 : decode cX3_holds 86 = .ok (.goto 48, 3) := by decide +kernel
theorem dX3_holds_89 : decode cX3_holds 89 = .ok (.aload_n 0, 1) := by decide +kernel
theorem dX3_holds_90 : decode cX3_holds 90 = .ok (.getfield 21, 3) := by decide +kernel
theorem dX3_holds_93 : decode cX3_holds 93 = .ok (.iload 6, 2) := by decide +kernel
theorem dX3_holds_95 : decode cX3_holds 95 = .ok (.iaload, 1) := by decide +kernel
theorem dX3_holds_96 : decode cX3_holds 96 = .ok (.bipush (-2), 2) := by decide +kernel
theorem dX3_holds_98 : decode cX3_holds 98 = .ok (.if_icmp .ne 27, 3) := by decide +kernel
theorem dX3_holds_101 : decode cX3_holds 101 = .ok (.lload 4, 2) := by decide +kernel
theorem dX3_holds_103 : decode cX3_holds 103 = .ok (.iconst 1, 1) := by decide +kernel
theorem dX3_holds_104 : decode cX3_holds 104 = .ok (.lshr, 1) := by decide +kernel
theorem dX3_holds_105 : decode cX3_holds 105 = .ok (.lload 7, 2) := by decide +kernel
theorem dX3_holds_107 : decode cX3_holds 107 = .ok (.lconst 1, 1) := by decide +kernel
theorem dX3_holds_108 : decode cX3_holds 108 = .ok (.lcmp, 1) := by decide +kernel
theorem dX3_holds_109 : decode cX3_holds 109 = .ok (.ifCond .ne 7, 3) := by decide +kernel
theorem dX3_holds_112 : decode cX3_holds 112 = .ok (.iconst (-1), 1) := by decide +kernel
theorem dX3_holds_113 : decode cX3_holds 113 = .ok (.goto 5, 3) := by decide +kernel
theorem dX3_holds_116 : decode cX3_holds 116 = .ok (.bipush (-2), 2) := by decide +kernel
theorem dX3_holds_118 : decode cX3_holds 118 = .ok (.i2l, 1) := by decide +kernel
theorem dX3_holds_119 : decode cX3_holds 119 = .ok (.land, 1) := by decide +kernel
theorem dX3_holds_120 : decode cX3_holds 120 = .ok (.lstore 4, 2) := by decide +kernel
theorem dX3_holds_122 : decode cX3_holds 122 = .ok (.goto 12, 3) := by decide +kernel
theorem dX3_holds_125 : decode cX3_holds 125 = .ok (.lload 4, 2) := by decide +kernel
theorem dX3_holds_127 : decode cX3_holds 127 = .ok (.iconst 1, 1) := by decide +kernel
theorem dX3_holds_128 : decode cX3_holds 128 = .ok (.lshr, 1) := by decide +kernel
theorem dX3_holds_129 : decode cX3_holds 129 = .ok (.lload 7, 2) := by decide +kernel
theorem dX3_holds_131 : decode cX3_holds 131 = .ok (.lor, 1) := by decide +kernel
theorem dX3_holds_132 : decode cX3_holds 132 = .ok (.lstore 4, 2) := by decide +kernel
theorem dX3_holds_134 : decode cX3_holds 134 = .ok (.iinc 6 1, 3) := by decide +kernel
theorem dX3_holds_137 : decode cX3_holds 137 = .ok (.goto (-127), 3) := by decide +kernel
theorem dX3_holds_140 : decode cX3_holds 140 = .ok (.lload 4, 2) := by decide +kernel
theorem dX3_holds_142 : decode cX3_holds 142 = .ok (.lconst 1, 1) := by decide +kernel
theorem dX3_holds_143 : decode cX3_holds 143 = .ok (.land, 1) := by decide +kernel
theorem dX3_holds_144 : decode cX3_holds 144 = .ok (.lconst 1, 1) := by decide +kernel
theorem dX3_holds_145 : decode cX3_holds 145 = .ok (.lcmp, 1) := by decide +kernel
theorem dX3_holds_146 : decode cX3_holds 146 = .ok (.ifCond .ne 7, 3) := by decide +kernel
theorem dX3_holds_149 : decode cX3_holds 149 = .ok (.iconst 1, 1) := by decide +kernel
theorem dX3_holds_150 : decode cX3_holds 150 = .ok (.goto 4, 3) := by decide +kernel
theorem dX3_holds_153 : decode cX3_holds 153 = .ok (.iconst 0, 1) := by decide +kernel
theorem dX3_holds_154 : decode cX3_holds 154 = .ok (.ireturn, 1) := by decide +kernel
theorem dX3_testHolds_0 : decode cX3_testHolds 0 = .ok (.iload_n 0, 1) := by decide +kernel
theorem dX3_testHolds_1 : decode cX3_testHolds 1 = .ok (.sipush 300, 3) := by decide +kernel
theorem dX3_testHolds_4 : decode cX3_testHolds 4 = .ok (.idiv, 1) := by decide +kernel
theorem dX3_testHolds_5 : decode cX3_testHolds 5 = .ok (.istore_n 2, 1) := by decide +kernel
theorem dX3_testHolds_6 : decode cX3_testHolds 6 = .ok (.iload_n 2, 1) := by decide +kernel
theorem dX3_testHolds_7 : decode cX3_testHolds 7 = .ok (.ifCond .lt 9, 3) := by decide +kernel
theorem dX3_testHolds_10 : decode cX3_testHolds 10 = .ok (.iload_n 2, 1) := by decide +kernel
theorem dX3_testHolds_11 : decode cX3_testHolds 11 = .ok (.aload_n 1, 1) := by decide +kernel
theorem dX3_testHolds_12 : decode cX3_testHolds 12 = .ok (.arraylength, 1) := by decide +kernel
theorem dX3_testHolds_13 : decode cX3_testHolds 13 = .ok (.if_icmp .lt 5, 3) := by decide +kernel
theorem dX3_testHolds_16 : decode cX3_testHolds 16 = .ok (.iconst 0, 1) := by decide +kernel
theorem dX3_testHolds_17 : decode cX3_testHolds 17 = .ok (.ireturn, 1) := by decide +kernel
theorem dX3_testHolds_18 : decode cX3_testHolds 18 = .ok (.aload_n 1, 1) := by decide +kernel
theorem dX3_testHolds_19 : decode cX3_testHolds 19 = .ok (.iload_n 2, 1) := by decide +kernel
theorem dX3_testHolds_20 : decode cX3_testHolds 20 = .ok (.iaload, 1) := by decide +kernel
theorem dX3_testHolds_21 : decode cX3_testHolds 21 = .ok (.istore_n 3, 1) := by decide +kernel
theorem dX3_testHolds_22 : decode cX3_testHolds 22 = .ok (.iload_n 0, 1) := by decide +kernel
theorem dX3_testHolds_23 : decode cX3_testHolds 23 = .ok (.bipush 100, 2) := by decide +kernel
theorem dX3_testHolds_25 : decode cX3_testHolds 25 = .ok (.irem, 1) := by decide +kernel
theorem dX3_testHolds_26 : decode cX3_testHolds 26 = .ok (.istore 4, 2) := by decide +kernel
theorem dX3_testHolds_28 : decode cX3_testHolds 28 = .ok (.iload_n 0, 1) := by decide +kernel
theorem dX3_testHolds_29 : decode cX3_testHolds 29 = .ok (.bipush 100, 2) := by decide +kernel
theorem dX3_testHolds_31 : decode cX3_testHolds 31 = .ok (.idiv, 1) := by decide +kernel
theorem dX3_testHolds_32 : decode cX3_testHolds 32 = .ok (.iconst 3, 1) := by decide +kernel
theorem dX3_testHolds_33 : decode cX3_testHolds 33 = .ok (.irem, 1) := by decide +kernel
theorem dX3_testHolds_34 : decode cX3_testHolds 34 = .ok (.lookupswitch 50 #[(0, 26), (1, 38)], 26) := by decide +kernel
theorem dX3_testHolds_60 : decode cX3_testHolds 60 = .ok (.iload_n 3, 1) := by decide +kernel
theorem dX3_testHolds_61 : decode cX3_testHolds 61 = .ok (.iload 4, 2) := by decide +kernel
theorem dX3_testHolds_63 : decode cX3_testHolds 63 = .ok (.if_icmp .ge 7, 3) := by decide +kernel
theorem dX3_testHolds_66 : decode cX3_testHolds 66 = .ok (.iconst 1, 1) := by decide +kernel
theorem dX3_testHolds_67 : decode cX3_testHolds 67 = .ok (.goto 4, 3) := by decide +kernel
theorem dX3_testHolds_70 : decode cX3_testHolds 70 = .ok (.iconst 0, 1) := by decide +kernel
theorem dX3_testHolds_71 : decode cX3_testHolds 71 = .ok (.ireturn, 1) := by decide +kernel
theorem dX3_testHolds_72 : decode cX3_testHolds 72 = .ok (.iload_n 3, 1) := by decide +kernel
theorem dX3_testHolds_73 : decode cX3_testHolds 73 = .ok (.iload 4, 2) := by decide +kernel
theorem dX3_testHolds_75 : decode cX3_testHolds 75 = .ok (.if_icmp .ne 7, 3) := by decide +kernel
theorem dX3_testHolds_78 : decode cX3_testHolds 78 = .ok (.iconst 1, 1) := by decide +kernel
theorem dX3_testHolds_79 : decode cX3_testHolds 79 = .ok (.goto 4, 3) := by decide +kernel
theorem dX3_testHolds_82 : decode cX3_testHolds 82 = .ok (.iconst 0, 1) := by decide +kernel
theorem dX3_testHolds_83 : decode cX3_testHolds 83 = .ok (.ireturn, 1) := by decide +kernel
theorem dX3_testHolds_84 : decode cX3_testHolds 84 = .ok (.iload_n 3, 1) := by decide +kernel
theorem dX3_testHolds_85 : decode cX3_testHolds 85 = .ok (.iload 4, 2) := by decide +kernel
theorem dX3_testHolds_87 : decode cX3_testHolds 87 = .ok (.if_icmp .le 7, 3) := by decide +kernel
theorem dX3_testHolds_90 : decode cX3_testHolds 90 = .ok (.iconst 1, 1) := by decide +kernel
theorem dX3_testHolds_91 : decode cX3_testHolds 91 = .ok (.goto 4, 3) := by decide +kernel
theorem dX3_testHolds_94 : decode cX3_testHolds 94 = .ok (.iconst 0, 1) := by decide +kernel
theorem dX3_testHolds_95 : decode cX3_testHolds 95 = .ok (.ireturn, 1) := by decide +kernel
theorem dX4_init_0 : decode cX4_init 0 = .ok (.aload_n 0, 1) := by decide +kernel
theorem dX4_init_1 : decode cX4_init 1 = .ok (.invokespecial 3, 3) := by decide +kernel
theorem dX4_init_4 : decode cX4_init 4 = .ok (.aload_n 0, 1) := by decide +kernel
theorem dX4_init_5 : decode cX4_init 5 = .ok (.bipush 100, 2) := by decide +kernel
theorem dX4_init_7 : decode cX4_init 7 = .ok (.newarray .byte, 2) := by decide +kernel
theorem dX4_init_9 : decode cX4_init 9 = .ok (.putfield 9, 3) := by decide +kernel
theorem dX4_init_12 : decode cX4_init 12 = .ok (.return_, 1) := by decide +kernel
theorem dX4_addSign_0 : decode cX4_addSign 0 = .ok (.aload_n 0, 1) := by decide +kernel
theorem dX4_addSign_1 : decode cX4_addSign 1 = .ok (.getfield 15, 3) := by decide +kernel
theorem dX4_addSign_4 : decode cX4_addSign 4 = .ok (.ifCond .lt 12, 3) := by decide +kernel
theorem dX4_addSign_7 : decode cX4_addSign 7 = .ok (.aload_n 0, 1) := by decide +kernel
theorem dX4_addSign_8 : decode cX4_addSign 8 = .ok (.getfield 15, 3) := by decide +kernel
theorem dX4_addSign_11 : decode cX4_addSign 11 = .ok (.bipush 100, 2) := by decide +kernel
theorem dX4_addSign_13 : decode cX4_addSign 13 = .ok (.if_icmp .lt 5, 3) := by decide +kernel
theorem dX4_addSign_16 : decode cX4_addSign 16 = .ok (.iconst 0, 1) := by decide +kernel
theorem dX4_addSign_17 : decode cX4_addSign 17 = .ok (.ireturn, 1) := by decide +kernel
theorem dX4_addSign_18 : decode cX4_addSign 18 = .ok (.aload_n 0, 1) := by decide +kernel
theorem dX4_addSign_19 : decode cX4_addSign 19 = .ok (.getfield 9, 3) := by decide +kernel
theorem dX4_addSign_22 : decode cX4_addSign 22 = .ok (.aload_n 0, 1) := by decide +kernel
theorem dX4_addSign_23 : decode cX4_addSign 23 = .ok (.getfield 15, 3) := by decide +kernel
theorem dX4_addSign_26 : decode cX4_addSign 26 = .ok (.iload_n 1, 1) := by decide +kernel
theorem dX4_addSign_27 : decode cX4_addSign 27 = .ok (.bastore, 1) := by decide +kernel
theorem dX4_addSign_28 : decode cX4_addSign 28 = .ok (.aload_n 0, 1) := by decide +kernel
theorem dX4_addSign_29 : decode cX4_addSign 29 = .ok (.dup, 1) := by decide +kernel
theorem dX4_addSign_30 : decode cX4_addSign 30 = .ok (.getfield 15, 3) := by decide +kernel
theorem dX4_addSign_33 : decode cX4_addSign 33 = .ok (.iconst 1, 1) := by decide +kernel
theorem dX4_addSign_34 : decode cX4_addSign 34 = .ok (.iadd, 1) := by decide +kernel
theorem dX4_addSign_35 : decode cX4_addSign 35 = .ok (.putfield 15, 3) := by decide +kernel
theorem dX4_addSign_38 : decode cX4_addSign 38 = .ok (.iconst 1, 1) := by decide +kernel
theorem dX4_addSign_39 : decode cX4_addSign 39 = .ok (.ireturn, 1) := by decide +kernel
theorem dX4_readNight_0 : decode cX4_readNight 0 = .ok (.aload_n 1, 1) := by decide +kernel
theorem dX4_readNight_1 : decode cX4_readNight 1 = .ok (.ifnonnull 5, 3) := by decide +kernel
theorem dX4_readNight_4 : decode cX4_readNight 4 = .ok (.iconst 0, 1) := by decide +kernel
theorem dX4_readNight_5 : decode cX4_readNight 5 = .ok (.ireturn, 1) := by decide +kernel
theorem dX4_readNight_6 : decode cX4_readNight 6 = .ok (.aload_n 0, 1) := by decide +kernel
theorem dX4_readNight_7 : decode cX4_readNight 7 = .ok (.iconst 0, 1) := by decide +kernel
theorem dX4_readNight_8 : decode cX4_readNight 8 = .ok (.putfield 19, 3) := by decide +kernel
theorem dX4_readNight_11 : decode cX4_readNight 11 = .ok (.aload_n 0, 1) := by decide +kernel
theorem dX4_readNight_12 : decode cX4_readNight 12 = .ok (.aload_n 1, 1) := by decide +kernel
theorem dX4_readNight_13 : decode cX4_readNight 13 = .ok (.putfield 22, 3) := by decide +kernel
theorem dX4_readNight_16 : decode cX4_readNight 16 = .ok (.aload_n 0, 1) := by decide +kernel
theorem dX4_readNight_17 : decode cX4_readNight 17 = .ok (.getfield 22, 3) := by decide +kernel
theorem dX4_readNight_20 : decode cX4_readNight 20 = .ok (.invokevirtual 26, 3) := by decide +kernel
theorem dX4_readNight_23 : decode cX4_readNight 23 = .ok (.iconst 1, 1) := by decide +kernel
theorem dX4_readNight_24 : decode cX4_readNight 24 = .ok (.istore_n 2, 1) := by decide +kernel
theorem dX4_readNight_25 : decode cX4_readNight 25 = .ok (.iconst 0, 1) := by decide +kernel
theorem dX4_readNight_26 : decode cX4_readNight 26 = .ok (.istore_n 3, 1) := by decide +kernel
theorem dX4_readNight_27 : decode cX4_readNight 27 = .ok (.iload_n 3, 1) := by decide +kernel
theorem dX4_readNight_28 : decode cX4_readNight 28 = .ok (.bipush 10, 2) := by decide +kernel
theorem dX4_readNight_30 : decode cX4_readNight 30 = .ok (.if_icmp .ge 93, 3) := by decide +kernel
theorem dX4_readNight_33 : decode cX4_readNight 33 = .ok (.iload_n 2, 1) := by decide +kernel
theorem dX4_readNight_34 : decode cX4_readNight 34 = .ok (.ifCond .eq 89, 3) := by decide +kernel
theorem dX4_readNight_37 : decode cX4_readNight 37 = .ok (.aload_n 0, 1) := by decide +kernel
theorem dX4_readNight_38 : decode cX4_readNight 38 = .ok (.invokevirtual 31, 3) := by decide +kernel
theorem dX4_readNight_41 : decode cX4_readNight 41 = .ok (.istore 4, 2) := by decide +kernel
theorem dX4_readNight_43 : decode cX4_readNight 43 = .ok (.iload 4, 2) := by decide +kernel
theorem dX4_readNight_45 : decode cX4_readNight 45 = .ok (.ifCond .ge 7, 3) := by decide +kernel
theorem dX4_readNight_48 : decode cX4_readNight 48 = .ok (.iconst (-1), 1) := by decide +kernel
theorem dX4_readNight_49 : decode cX4_readNight 49 = .ok (.goto 7, 3) := by decide +kernel
theorem dX4_readNight_52 : decode cX4_readNight 52 = .ok (.aload_n 0, 1) := by decide +kernel
theorem dX4_readNight_53 : decode cX4_readNight 53 = .ok (.invokevirtual 35, 3) := by decide +kernel
theorem dX4_readNight_56 : decode cX4_readNight 56 = .ok (.istore 5, 2) := by decide +kernel
theorem dX4_readNight_58 : decode cX4_readNight 58 = .ok (.iload 5, 2) := by decide +kernel
theorem dX4_readNight_60 : decode cX4_readNight 60 = .ok (.ifCond .lt 20, 3) := by decide +kernel
theorem dX4_readNight_63 : decode cX4_readNight 63 = .ok (.aload_n 0, 1) := by decide +kernel
theorem dX4_readNight_64 : decode cX4_readNight 64 = .ok (.bipush 32, 2) := by decide +kernel
theorem dX4_readNight_66 : decode cX4_readNight 66 = .ok (.invokevirtual 38, 3) := by decide +kernel
theorem dX4_readNight_69 : decode cX4_readNight 69 = .ok (.ifCond .eq 11, 3) := by decide +kernel
theorem dX4_readNight_72 : decode cX4_readNight 72 = .ok (.aload_n 0, 1) := by decide +kernel
theorem dX4_readNight_73 : decode cX4_readNight 73 = .ok (.iconst 0, 1) := by decide +kernel
theorem dX4_readNight_74 : decode cX4_readNight 74 = .ok (.invokevirtual 42, 3) := by decide +kernel
theorem dX4_readNight_77 : decode cX4_readNight 77 = .ok (.ifCond .ne 8, 3) := by decide +kernel
theorem dX4_readNight_80 : decode cX4_readNight 80 = .ok (.aload_n 0, 1) := by decide +kernel
theorem dX4_readNight_81 : decode cX4_readNight 81 = .ok (.getfield 19, 3) := by decide +kernel
theorem dX4_readNight_84 : decode cX4_readNight 84 = .ok (.ireturn, 1) := by decide +kernel
theorem dX4_readNight_85 : decode cX4_readNight 85 = .ok (.aload_n 0, 1) := by decide +kernel
theorem dX4_readNight_86 : decode cX4_readNight 86 = .ok (.getfield 22, 3) := by decide +kernel
theorem dX4_readNight_89 : decode cX4_readNight 89 = .ok (.iload 4, 2) := by decide +kernel
theorem dX4_readNight_91 : decode cX4_readNight 91 = .ok (.iload 5, 2) := by decide +kernel
theorem dX4_readNight_93 : decode cX4_readNight 93 = .ok (.invokevirtual 45, 3) := by decide +kernel
theorem dX4_readNight_96 : decode cX4_readNight 96 = .ok (.iload_n 3, 1) := by decide +kernel
theorem dX4_readNight_97 : decode cX4_readNight 97 = .ok (.bipush 9, 2) := by decide +kernel
theorem dX4_readNight_99 : decode cX4_readNight 99 = .ok (.if_icmp .ge 16, 3) := by decide +kernel
theorem dX4_readNight_102 : decode cX4_readNight 102 = .ok (.aload_n 0, 1) := by decide +kernel
theorem dX4_readNight_103 : decode cX4_readNight 103 = .ok (.bipush 59, 2) := by decide +kernel
theorem dX4_readNight_105 : decode cX4_readNight 105 = .ok (.invokevirtual 38, 3) := by decide +kernel
theorem dX4_readNight_108 : decode cX4_readNight 108 = .ok (.ifCond .eq 7, 3) := by decide +kernel
theorem dX4_readNight_111 : decode cX4_readNight 111 = .ok (.iconst 1, 1) := by decide +kernel
theorem dX4_readNight_112 : decode cX4_readNight 112 = .ok (.goto 4, 3) := by decide +kernel
theorem dX4_readNight_115 : decode cX4_readNight 115 = .ok (.iconst 0, 1) := by decide +kernel
theorem dX4_readNight_116 : decode cX4_readNight 116 = .ok (.istore_n 2, 1) := by decide +kernel
theorem dX4_readNight_117 : decode cX4_readNight 117 = .ok (.iinc 3 1, 3) := by decide +kernel
theorem dX4_readNight_120 : decode cX4_readNight 120 = .ok (.goto (-93), 3) := by decide +kernel
theorem dX4_readNight_123 : decode cX4_readNight 123 = .ok (.aload_n 0, 1) := by decide +kernel
theorem dX4_readNight_124 : decode cX4_readNight 124 = .ok (.getfield 19, 3) := by decide +kernel
theorem dX4_readNight_127 : decode cX4_readNight 127 = .ok (.aload_n 0, 1) := by decide +kernel
theorem dX4_readNight_128 : decode cX4_readNight 128 = .ok (.getfield 15, 3) := by decide +kernel
theorem dX4_readNight_131 : decode cX4_readNight 131 = .ok (.if_icmp .ne 8, 3) := by decide +kernel
theorem dX4_readNight_134 : decode cX4_readNight 134 = .ok (.bipush (-5), 2) := by decide +kernel
theorem dX4_readNight_136 : decode cX4_readNight 136 = .ok (.goto 7, 3) := by decide +kernel
theorem dX4_readNight_139 : decode cX4_readNight 139 = .ok (.aload_n 0, 1) := by decide +kernel
theorem dX4_readNight_140 : decode cX4_readNight 140 = .ok (.getfield 19, 3) := by decide +kernel
theorem dX4_readNight_143 : decode cX4_readNight 143 = .ok (.ireturn, 1) := by decide +kernel
theorem dX4_sign_0 : decode cX4_sign 0 = .ok (.aload_n 0, 1) := by decide +kernel
theorem dX4_sign_1 : decode cX4_sign 1 = .ok (.getfield 19, 3) := by decide +kernel
theorem dX4_sign_4 : decode cX4_sign 4 = .ok (.ifCond .lt 35, 3) := by decide +kernel
theorem dX4_sign_7 : decode cX4_sign 7 = .ok (.aload_n 0, 1) := by decide +kernel
theorem dX4_sign_8 : decode cX4_sign 8 = .ok (.getfield 19, 3) := by decide +kernel
theorem dX4_sign_11 : decode cX4_sign 11 = .ok (.aload_n 0, 1) := by decide +kernel
theorem dX4_sign_12 : decode cX4_sign 12 = .ok (.getfield 15, 3) := by decide +kernel
theorem dX4_sign_15 : decode cX4_sign 15 = .ok (.if_icmp .ge 24, 3) := by decide +kernel
theorem dX4_sign_18 : decode cX4_sign 18 = .ok (.aload_n 0, 1) := by decide +kernel
theorem dX4_sign_19 : decode cX4_sign 19 = .ok (.getfield 19, 3) := by decide +kernel
theorem dX4_sign_22 : decode cX4_sign 22 = .ok (.bipush 100, 2) := by decide +kernel
theorem dX4_sign_24 : decode cX4_sign 24 = .ok (.if_icmp .ge 15, 3) := by decide +kernel
theorem dX4_sign_27 : decode cX4_sign 27 = .ok (.aload_n 0, 1) := by decide +kernel
theorem dX4_sign_28 : decode cX4_sign 28 = .ok (.getfield 9, 3) := by decide +kernel
theorem dX4_sign_31 : decode cX4_sign 31 = .ok (.aload_n 0, 1) := by decide +kernel
theorem dX4_sign_32 : decode cX4_sign 32 = .ok (.getfield 19, 3) := by decide +kernel
theorem dX4_sign_35 : decode cX4_sign 35 = .ok (.baload, 1) := by decide +kernel
theorem dX4_sign_36 : decode cX4_sign 36 = .ok (.goto 4, 3) := by decide +kernel
theorem dX4_sign_39 : decode cX4_sign 39 = .ok (.iconst (-1), 1) := by decide +kernel
theorem dX4_sign_40 : decode cX4_sign 40 = .ok (.ireturn, 1) := by decide +kernel
theorem dX4_skip_0 : decode cX4_skip 0 = .ok (.aload_n 0, 1) := by decide +kernel
theorem dX4_skip_1 : decode cX4_skip 1 = .ok (.invokevirtual 49, 3) := by decide +kernel
theorem dX4_skip_4 : decode cX4_skip 4 = .ok (.iload_n 1, 1) := by decide +kernel
theorem dX4_skip_5 : decode cX4_skip 5 = .ok (.if_icmp .ne 7, 3) := by decide +kernel
theorem dX4_skip_8 : decode cX4_skip 8 = .ok (.iconst 1, 1) := by decide +kernel
theorem dX4_skip_9 : decode cX4_skip 9 = .ok (.goto 4, 3) := by decide +kernel
theorem dX4_skip_12 : decode cX4_skip 12 = .ok (.iconst 0, 1) := by decide +kernel
theorem dX4_skip_13 : decode cX4_skip 13 = .ok (.istore_n 2, 1) := by decide +kernel
theorem dX4_skip_14 : decode cX4_skip 14 = .ok (.iload_n 2, 1) := by decide +kernel
theorem dX4_skip_15 : decode cX4_skip 15 = .ok (.ifCond .eq 13, 3) := by decide +kernel
theorem dX4_skip_18 : decode cX4_skip 18 = .ok (.aload_n 0, 1) := by decide +kernel
theorem dX4_skip_19 : decode cX4_skip 19 = .ok (.dup, 1) := by decide +kernel
theorem dX4_skip_20 : decode cX4_skip 20 = .ok (.getfield 19, 3) := by decide +kernel
theorem dX4_skip_23 : decode cX4_skip 23 = .ok (.iconst 1, 1) := by decide +kernel
theorem dX4_skip_24 : decode cX4_skip 24 = .ok (.iadd, 1) := by decide +kernel
theorem dX4_skip_25 : decode cX4_skip 25 = .ok (.putfield 19, 3) := by decide +kernel
theorem dX4_skip_28 : decode cX4_skip 28 = .ok (.iload_n 2, 1) := by decide +kernel
theorem dX4_skip_29 : decode cX4_skip 29 = .ok (.ireturn, 1) := by decide +kernel
theorem dX4_readWord_0 : decode cX4_readWord 0 = .ok (.aload_n 0, 1) := by decide +kernel
theorem dX4_readWord_1 : decode cX4_readWord 1 = .ok (.invokevirtual 49, 3) := by decide +kernel
theorem dX4_readWord_4 : decode cX4_readWord 4 = .ok (.lookupswitch 81 #[(99, 51), (100, 36), (104, 66)], 36) := by decide +kernel
theorem dX4_readWord_40 : decode cX4_readWord 40 = .ok (.aload_n 0, 1) := by decide +kernel
theorem dX4_readWord_41 : decode cX4_readWord 41 = .ok (.ldc 52, 2) := by decide +kernel
theorem dX4_readWord_43 : decode cX4_readWord 43 = .ok (.invokevirtual 54, 3) := by decide +kernel
theorem dX4_readWord_46 : decode cX4_readWord 46 = .ok (.ifCond .eq 7, 3) := by decide +kernel
theorem dX4_readWord_49 : decode cX4_readWord 49 = .ok (.iconst 0, 1) := by decide +kernel
theorem dX4_readWord_50 : decode cX4_readWord 50 = .ok (.goto 4, 3) := by decide +kernel
theorem dX4_readWord_53 : decode cX4_readWord 53 = .ok (.iconst (-1), 1) := by decide +kernel
theorem dX4_readWord_54 : decode cX4_readWord 54 = .ok (.ireturn, 1) := by decide +kernel
theorem dX4_readWord_55 : decode cX4_readWord 55 = .ok (.aload_n 0, 1) := by decide +kernel
theorem dX4_readWord_56 : decode cX4_readWord 56 = .ok (.ldc 58, 2) := by decide +kernel
theorem dX4_readWord_58 : decode cX4_readWord 58 = .ok (.invokevirtual 54, 3) := by decide +kernel
theorem dX4_readWord_61 : decode cX4_readWord 61 = .ok (.ifCond .eq 7, 3) := by decide +kernel
theorem dX4_readWord_64 : decode cX4_readWord 64 = .ok (.iconst 1, 1) := by decide +kernel
theorem dX4_readWord_65 : decode cX4_readWord 65 = .ok (.goto 4, 3) := by decide +kernel
theorem dX4_readWord_68 : decode cX4_readWord 68 = .ok (.iconst (-1), 1) := by decide +kernel
theorem dX4_readWord_69 : decode cX4_readWord 69 = .ok (.ireturn, 1) := by decide +kernel
theorem dX4_readWord_70 : decode cX4_readWord 70 = .ok (.aload_n 0, 1) := by decide +kernel
theorem dX4_readWord_71 : decode cX4_readWord 71 = .ok (.ldc 60, 2) := by decide +kernel
theorem dX4_readWord_73 : decode cX4_readWord 73 = .ok (.invokevirtual 54, 3) := by decide +kernel
theorem dX4_readWord_76 : decode cX4_readWord 76 = .ok (.ifCond .eq 7, 3) := by decide +kernel
theorem dX4_readWord_79 : decode cX4_readWord 79 = .ok (.iconst 2, 1) := by decide +kernel
theorem dX4_readWord_80 : decode cX4_readWord 80 = .ok (.goto 4, 3) := by decide +kernel
theorem dX4_readWord_83 : decode cX4_readWord 83 = .ok (.iconst (-1), 1) := by decide +kernel
theorem dX4_readWord_84 : decode cX4_readWord 84 = .ok (.ireturn, 1) := by decide +kernel
theorem dX4_readWord_85 : decode cX4_readWord 85 = .ok (.iconst (-1), 1) := by decide +kernel
theorem dX4_readWord_86 : decode cX4_readWord 86 = .ok (.ireturn, 1) := by decide +kernel
theorem dX4_skipAll_0 : decode cX4_skipAll 0 = .ok (.iconst 1, 1) := by decide +kernel
theorem dX4_skipAll_1 : decode cX4_skipAll 1 = .ok (.istore_n 2, 1) := by decide +kernel
theorem dX4_skipAll_2 : decode cX4_skipAll 2 = .ok (.iconst 0, 1) := by decide +kernel
theorem dX4_skipAll_3 : decode cX4_skipAll 3 = .ok (.istore_n 3, 1) := by decide +kernel
theorem dX4_skipAll_4 : decode cX4_skipAll 4 = .ok (.iload_n 3, 1) := by decide +kernel
theorem dX4_skipAll_5 : decode cX4_skipAll 5 = .ok (.aload_n 1, 1) := by decide +kernel
theorem dX4_skipAll_6 : decode cX4_skipAll 6 = .ok (.invokevirtual 62, 3) := by decide +kernel
theorem dX4_skipAll_9 : decode cX4_skipAll 9 = .ok (.if_icmp .ge 23, 3) := by decide +kernel
theorem dX4_skipAll_12 : decode cX4_skipAll 12 = .ok (.iload_n 2, 1) := by decide +kernel
theorem dX4_skipAll_13 : decode cX4_skipAll 13 = .ok (.ifCond .eq 19, 3) := by decide +kernel
theorem dX4_skipAll_16 : decode cX4_skipAll 16 = .ok (.aload_n 0, 1) := by decide +kernel
theorem dX4_skipAll_17 : decode cX4_skipAll 17 = .ok (.aload_n 1, 1) := by decide +kernel
theorem dX4_skipAll_18 : decode cX4_skipAll 18 = .ok (.iload_n 3, 1) := by decide +kernel
theorem dX4_skipAll_19 : decode cX4_skipAll 19 = .ok (.invokevirtual 66, 3) := by decide +kernel
theorem dX4_skipAll_22 : decode cX4_skipAll 22 = .ok (.invokevirtual 38, 3) := by decide +kernel
theorem dX4_skipAll_25 : decode cX4_skipAll 25 = .ok (.istore_n 2, 1) := by decide +kernel
theorem dX4_skipAll_26 : decode cX4_skipAll 26 = .ok (.iinc 3 1, 3) := by decide +kernel
theorem dX4_skipAll_29 : decode cX4_skipAll 29 = .ok (.goto (-25), 3) := by decide +kernel
theorem dX4_skipAll_32 : decode cX4_skipAll 32 = .ok (.iload_n 2, 1) := by decide +kernel
theorem dX4_skipAll_33 : decode cX4_skipAll 33 = .ok (.ireturn, 1) := by decide +kernel
theorem dX4_readNumber_0 : decode cX4_readNumber 0 = .ok (.iconst (-1), 1) := by decide +kernel
theorem dX4_readNumber_1 : decode cX4_readNumber 1 = .ok (.istore_n 1, 1) := by decide +kernel
theorem dX4_readNumber_2 : decode cX4_readNumber 2 = .ok (.iconst 0, 1) := by decide +kernel
theorem dX4_readNumber_3 : decode cX4_readNumber 3 = .ok (.istore_n 2, 1) := by decide +kernel
theorem dX4_readNumber_4 : decode cX4_readNumber 4 = .ok (.iload_n 2, 1) := by decide +kernel
theorem dX4_readNumber_5 : decode cX4_readNumber 5 = .ok (.iconst 2, 1) := by decide +kernel
theorem dX4_readNumber_6 : decode cX4_readNumber 6 = .ok (.if_icmp .ge 54, 3) := by decide +kernel
theorem dX4_readNumber_9 : decode cX4_readNumber 9 = .ok (.aload_n 0, 1) := by decide +kernel
theorem dX4_readNumber_10 : decode cX4_readNumber 10 = .ok (.invokevirtual 49, 3) := by decide +kernel
theorem dX4_readNumber_13 : decode cX4_readNumber 13 = .ok (.bipush 48, 2) := by decide +kernel
theorem dX4_readNumber_15 : decode cX4_readNumber 15 = .ok (.if_icmp .lt 45, 3) := by decide +kernel
theorem dX4_readNumber_18 : decode cX4_readNumber 18 = .ok (.aload_n 0, 1) := by decide +kernel
theorem dX4_readNumber_19 : decode cX4_readNumber 19 = .ok (.invokevirtual 49, 3) := by decide +kernel
theorem dX4_readNumber_22 : decode cX4_readNumber 22 = .ok (.bipush 57, 2) := by decide +kernel
theorem dX4_readNumber_24 : decode cX4_readNumber 24 = .ok (.if_icmp .gt 36, 3) := by decide +kernel
theorem dX4_readNumber_27 : decode cX4_readNumber 27 = .ok (.iconst 0, 1) := by decide +kernel
theorem dX4_readNumber_28 : decode cX4_readNumber 28 = .ok (.iload_n 1, 1) := by decide +kernel
theorem dX4_readNumber_29 : decode cX4_readNumber 29 = .ok (.invokestatic 70, 3) := by decide +kernel
theorem dX4_readNumber_32 : decode cX4_readNumber 32 = .ok (.bipush 10, 2) := by decide +kernel
theorem dX4_readNumber_34 : decode cX4_readNumber 34 = .ok (.imul, 1) := by decide +kernel
theorem dX4_readNumber_35 : decode cX4_readNumber 35 = .ok (.aload_n 0, 1) := by decide +kernel
theorem dX4_readNumber_36 : decode cX4_readNumber 36 = .ok (.invokevirtual 49, 3) := by decide +kernel
theorem dX4_readNumber_39 : decode cX4_readNumber 39 = .ok (.iadd, 1) := by decide +kernel
theorem dX4_readNumber_40 : decode cX4_readNumber 40 = .ok (.bipush 48, 2) := by decide +kernel
theorem dX4_readNumber_42 : decode cX4_readNumber 42 = .ok (.isub, 1) := by decide +kernel
theorem dX4_readNumber_43 : decode cX4_readNumber 43 = .ok (.istore_n 1, 1) := by decide +kernel
theorem dX4_readNumber_44 : decode cX4_readNumber 44 = .ok (.aload_n 0, 1) := by decide +kernel
theorem dX4_readNumber_45 : decode cX4_readNumber 45 = .ok (.dup, 1) := by decide +kernel
theorem dX4_readNumber_46 : decode cX4_readNumber 46 = .ok (.getfield 19, 3) := by decide +kernel
theorem dX4_readNumber_49 : decode cX4_readNumber 49 = .ok (.iconst 1, 1) := by decide +kernel
theorem dX4_readNumber_50 : decode cX4_readNumber 50 = .ok (.iadd, 1) := by decide +kernel
theorem dX4_readNumber_51 : decode cX4_readNumber 51 = .ok (.putfield 19, 3) := by decide +kernel
theorem dX4_readNumber_54 : decode cX4_readNumber 54 = .ok (.iinc 2 1, 3) := by decide +kernel
theorem dX4_readNumber_57 : decode cX4_readNumber 57 = .ok (.goto (-53), 3) := by decide +kernel
theorem dX4_readNumber_60 : decode cX4_readNumber 60 = .ok (.iload_n 1, 1) := by decide +kernel
theorem dX4_readNumber_61 : decode cX4_readNumber 61 = .ok (.ireturn, 1) := by decide +kernel
theorem dX4_readEither_0 : decode cX4_readEither 0 = .ok (.aload_n 0, 1) := by decide +kernel
theorem dX4_readEither_1 : decode cX4_readEither 1 = .ok (.iload_n 1, 1) := by decide +kernel
theorem dX4_readEither_2 : decode cX4_readEither 2 = .ok (.invokevirtual 76, 3) := by decide +kernel
theorem dX4_readEither_5 : decode cX4_readEither 5 = .ok (.istore_n 2, 1) := by decide +kernel
theorem dX4_readEither_6 : decode cX4_readEither 6 = .ok (.iconst 0, 1) := by decide +kernel
theorem dX4_readEither_7 : decode cX4_readEither 7 = .ok (.istore_n 3, 1) := by decide +kernel
theorem dX4_readEither_8 : decode cX4_readEither 8 = .ok (.iload_n 3, 1) := by decide +kernel
theorem dX4_readEither_9 : decode cX4_readEither 9 = .ok (.bipush 100, 2) := by decide +kernel
theorem dX4_readEither_11 : decode cX4_readEither 11 = .ok (.if_icmp .ge 47, 3) := by decide +kernel
theorem dX4_readEither_14 : decode cX4_readEither 14 = .ok (.iload_n 2, 1) := by decide +kernel
theorem dX4_readEither_15 : decode cX4_readEither 15 = .ok (.ifCond .eq 43, 3) := by decide +kernel
theorem dX4_readEither_18 : decode cX4_readEither 18 = .ok (.aload_n 0, 1) := by decide +kernel
theorem dX4_readEither_19 : decode cX4_readEither 19 = .ok (.invokevirtual 49, 3) := by decide +kernel
theorem dX4_readEither_22 : decode cX4_readEither 22 = .ok (.bipush 124, 2) := by decide +kernel
theorem dX4_readEither_24 : decode cX4_readEither 24 = .ok (.if_icmp .ne 34, 3) := by decide +kernel
theorem dX4_readEither_27 : decode cX4_readEither 27 = .ok (.aload_n 0, 1) := by decide +kernel
theorem dX4_readEither_28 : decode cX4_readEither 28 = .ok (.dup, 1) := by decide +kernel
theorem dX4_readEither_29 : decode cX4_readEither 29 = .ok (.getfield 19, 3) := by decide +kernel
theorem dX4_readEither_32 : decode cX4_readEither 32 = .ok (.iconst 1, 1) := by decide +kernel
theorem dX4_readEither_33 : decode cX4_readEither 33 = .ok (.iadd, 1) := by decide +kernel
theorem dX4_readEither_34 : decode cX4_readEither 34 = .ok (.putfield 19, 3) := by decide +kernel
theorem dX4_readEither_37 : decode cX4_readEither 37 = .ok (.aload_n 0, 1) := by decide +kernel
theorem dX4_readEither_38 : decode cX4_readEither 38 = .ok (.iload_n 1, 1) := by decide +kernel
theorem dX4_readEither_39 : decode cX4_readEither 39 = .ok (.invokevirtual 76, 3) := by decide +kernel
theorem dX4_readEither_42 : decode cX4_readEither 42 = .ok (.istore_n 2, 1) := by decide +kernel
theorem dX4_readEither_43 : decode cX4_readEither 43 = .ok (.aload_n 0, 1) := by decide +kernel
theorem dX4_readEither_44 : decode cX4_readEither 44 = .ok (.getfield 22, 3) := by decide +kernel
theorem dX4_readEither_47 : decode cX4_readEither 47 = .ok (.bipush (-3), 2) := by decide +kernel
theorem dX4_readEither_49 : decode cX4_readEither 49 = .ok (.invokevirtual 79, 3) := by decide +kernel
theorem dX4_readEither_52 : decode cX4_readEither 52 = .ok (.iinc 3 1, 3) := by decide +kernel
theorem dX4_readEither_55 : decode cX4_readEither 55 = .ok (.goto (-47), 3) := by decide +kernel
theorem dX4_readEither_58 : decode cX4_readEither 58 = .ok (.iload_n 2, 1) := by decide +kernel
theorem dX4_readEither_59 : decode cX4_readEither 59 = .ok (.ireturn, 1) := by decide +kernel
theorem dX4_readBoth_0 : decode cX4_readBoth 0 = .ok (.aload_n 0, 1) := by decide +kernel
theorem dX4_readBoth_1 : decode cX4_readBoth 1 = .ok (.iload_n 1, 1) := by decide +kernel
theorem dX4_readBoth_2 : decode cX4_readBoth 2 = .ok (.invokevirtual 83, 3) := by decide +kernel
theorem dX4_readBoth_5 : decode cX4_readBoth 5 = .ok (.istore_n 2, 1) := by decide +kernel
theorem dX4_readBoth_6 : decode cX4_readBoth 6 = .ok (.iconst 0, 1) := by decide +kernel
theorem dX4_readBoth_7 : decode cX4_readBoth 7 = .ok (.istore_n 3, 1) := by decide +kernel
theorem dX4_readBoth_8 : decode cX4_readBoth 8 = .ok (.iload_n 3, 1) := by decide +kernel
theorem dX4_readBoth_9 : decode cX4_readBoth 9 = .ok (.bipush 100, 2) := by decide +kernel
theorem dX4_readBoth_11 : decode cX4_readBoth 11 = .ok (.if_icmp .ge 47, 3) := by decide +kernel
theorem dX4_readBoth_14 : decode cX4_readBoth 14 = .ok (.iload_n 2, 1) := by decide +kernel
theorem dX4_readBoth_15 : decode cX4_readBoth 15 = .ok (.ifCond .eq 43, 3) := by decide +kernel
theorem dX4_readBoth_18 : decode cX4_readBoth 18 = .ok (.aload_n 0, 1) := by decide +kernel
theorem dX4_readBoth_19 : decode cX4_readBoth 19 = .ok (.invokevirtual 49, 3) := by decide +kernel
theorem dX4_readBoth_22 : decode cX4_readBoth 22 = .ok (.bipush 38, 2) := by decide +kernel
theorem dX4_readBoth_24 : decode cX4_readBoth 24 = .ok (.if_icmp .ne 34, 3) := by decide +kernel
theorem dX4_readBoth_27 : decode cX4_readBoth 27 = .ok (.aload_n 0, 1) := by decide +kernel
theorem dX4_readBoth_28 : decode cX4_readBoth 28 = .ok (.dup, 1) := by decide +kernel
theorem dX4_readBoth_29 : decode cX4_readBoth 29 = .ok (.getfield 19, 3) := by decide +kernel
theorem dX4_readBoth_32 : decode cX4_readBoth 32 = .ok (.iconst 1, 1) := by decide +kernel
theorem dX4_readBoth_33 : decode cX4_readBoth 33 = .ok (.iadd, 1) := by decide +kernel
theorem dX4_readBoth_34 : decode cX4_readBoth 34 = .ok (.putfield 19, 3) := by decide +kernel
theorem dX4_readBoth_37 : decode cX4_readBoth 37 = .ok (.aload_n 0, 1) := by decide +kernel
theorem dX4_readBoth_38 : decode cX4_readBoth 38 = .ok (.iload_n 1, 1) := by decide +kernel
theorem dX4_readBoth_39 : decode cX4_readBoth 39 = .ok (.invokevirtual 83, 3) := by decide +kernel
theorem dX4_readBoth_42 : decode cX4_readBoth 42 = .ok (.istore_n 2, 1) := by decide +kernel
theorem dX4_readBoth_43 : decode cX4_readBoth 43 = .ok (.aload_n 0, 1) := by decide +kernel
theorem dX4_readBoth_44 : decode cX4_readBoth 44 = .ok (.getfield 22, 3) := by decide +kernel
theorem dX4_readBoth_47 : decode cX4_readBoth 47 = .ok (.bipush (-2), 2) := by decide +kernel
theorem dX4_readBoth_49 : decode cX4_readBoth 49 = .ok (.invokevirtual 79, 3) := by decide +kernel
theorem dX4_readBoth_52 : decode cX4_readBoth 52 = .ok (.iinc 3 1, 3) := by decide +kernel
theorem dX4_readBoth_55 : decode cX4_readBoth 55 = .ok (.goto (-47), 3) := by decide +kernel
theorem dX4_readBoth_58 : decode cX4_readBoth 58 = .ok (.iload_n 2, 1) := by decide +kernel
theorem dX4_readBoth_59 : decode cX4_readBoth 59 = .ok (.ireturn, 1) := by decide +kernel
theorem dX4_readFactor_0 : decode cX4_readFactor 0 = .ok (.aload_n 0, 1) := by decide +kernel
theorem dX4_readFactor_1 : decode cX4_readFactor 1 = .ok (.invokevirtual 49, 3) := by decide +kernel
theorem dX4_readFactor_4 : decode cX4_readFactor 4 = .ok (.lookupswitch 70 #[(33, 28), (40, 49)], 28) := by decide +kernel
theorem dX4_readFactor_32 : decode cX4_readFactor 32 = .ok (.iload_n 1, 1) := by decide +kernel
theorem dX4_readFactor_33 : decode cX4_readFactor 33 = .ok (.iconst 4, 1) := by decide +kernel
theorem dX4_readFactor_34 : decode cX4_readFactor 34 = .ok (.if_icmp .ge 17, 3) := by decide +kernel
theorem dX4_readFactor_37 : decode cX4_readFactor 37 = .ok (.aload_n 0, 1) := by decide +kernel
theorem dX4_readFactor_38 : decode cX4_readFactor 38 = .ok (.iload_n 1, 1) := by decide +kernel
theorem dX4_readFactor_39 : decode cX4_readFactor 39 = .ok (.iconst 1, 1) := by decide +kernel
theorem dX4_readFactor_40 : decode cX4_readFactor 40 = .ok (.iadd, 1) := by decide +kernel
theorem dX4_readFactor_41 : decode cX4_readFactor 41 = .ok (.invokevirtual 86, 3) := by decide +kernel
theorem dX4_readFactor_44 : decode cX4_readFactor 44 = .ok (.ifCond .eq 7, 3) := by decide +kernel
theorem dX4_readFactor_47 : decode cX4_readFactor 47 = .ok (.iconst 1, 1) := by decide +kernel
theorem dX4_readFactor_48 : decode cX4_readFactor 48 = .ok (.goto 4, 3) := by decide +kernel
theorem dX4_readFactor_51 : decode cX4_readFactor 51 = .ok (.iconst 0, 1) := by decide +kernel
theorem dX4_readFactor_52 : decode cX4_readFactor 52 = .ok (.ireturn, 1) := by decide +kernel
theorem dX4_readFactor_53 : decode cX4_readFactor 53 = .ok (.iload_n 1, 1) := by decide +kernel
theorem dX4_readFactor_54 : decode cX4_readFactor 54 = .ok (.iconst 4, 1) := by decide +kernel
theorem dX4_readFactor_55 : decode cX4_readFactor 55 = .ok (.if_icmp .ge 17, 3) := by decide +kernel
theorem dX4_readFactor_58 : decode cX4_readFactor 58 = .ok (.aload_n 0, 1) := by decide +kernel
theorem dX4_readFactor_59 : decode cX4_readFactor 59 = .ok (.iload_n 1, 1) := by decide +kernel
theorem dX4_readFactor_60 : decode cX4_readFactor 60 = .ok (.iconst 1, 1) := by decide +kernel
theorem dX4_readFactor_61 : decode cX4_readFactor 61 = .ok (.iadd, 1) := by decide +kernel
theorem dX4_readFactor_62 : decode cX4_readFactor 62 = .ok (.invokevirtual 89, 3) := by decide +kernel
theorem dX4_readFactor_65 : decode cX4_readFactor 65 = .ok (.ifCond .eq 7, 3) := by decide +kernel
theorem dX4_readFactor_68 : decode cX4_readFactor 68 = .ok (.iconst 1, 1) := by decide +kernel
theorem dX4_readFactor_69 : decode cX4_readFactor 69 = .ok (.goto 4, 3) := by decide +kernel
theorem dX4_readFactor_72 : decode cX4_readFactor 72 = .ok (.iconst 0, 1) := by decide +kernel
theorem dX4_readFactor_73 : decode cX4_readFactor 73 = .ok (.ireturn, 1) := by decide +kernel
theorem dX4_readFactor_74 : decode cX4_readFactor 74 = .ok (.aload_n 0, 1) := by decide +kernel
theorem dX4_readFactor_75 : decode cX4_readFactor 75 = .ok (.invokevirtual 92, 3) := by decide +kernel
theorem dX4_readFactor_78 : decode cX4_readFactor 78 = .ok (.ireturn, 1) := by decide +kernel
theorem dX4_readNot_0 : decode cX4_readNot 0 = .ok (.aload_n 0, 1) := by decide +kernel
theorem dX4_readNot_1 : decode cX4_readNot 1 = .ok (.dup, 1) := by decide +kernel
theorem dX4_readNot_2 : decode cX4_readNot 2 = .ok (.getfield 19, 3) := by decide +kernel
theorem dX4_readNot_5 : decode cX4_readNot 5 = .ok (.iconst 1, 1) := by decide +kernel
theorem dX4_readNot_6 : decode cX4_readNot 6 = .ok (.iadd, 1) := by decide +kernel
theorem dX4_readNot_7 : decode cX4_readNot 7 = .ok (.putfield 19, 3) := by decide +kernel
theorem dX4_readNot_10 : decode cX4_readNot 10 = .ok (.aload_n 0, 1) := by decide +kernel
theorem dX4_readNot_11 : decode cX4_readNot 11 = .ok (.iload_n 1, 1) := by decide +kernel
theorem dX4_readNot_12 : decode cX4_readNot 12 = .ok (.invokevirtual 83, 3) := by decide +kernel
theorem dX4_readNot_15 : decode cX4_readNot 15 = .ok (.istore_n 2, 1) := by decide +kernel
theorem dX4_readNot_16 : decode cX4_readNot 16 = .ok (.aload_n 0, 1) := by decide +kernel
theorem dX4_readNot_17 : decode cX4_readNot 17 = .ok (.getfield 22, 3) := by decide +kernel
theorem dX4_readNot_20 : decode cX4_readNot 20 = .ok (.iconst (-1), 1) := by decide +kernel
theorem dX4_readNot_21 : decode cX4_readNot 21 = .ok (.invokevirtual 79, 3) := by decide +kernel
theorem dX4_readNot_24 : decode cX4_readNot 24 = .ok (.iload_n 2, 1) := by decide +kernel
theorem dX4_readNot_25 : decode cX4_readNot 25 = .ok (.ireturn, 1) := by decide +kernel
theorem dX4_readGroup_0 : decode cX4_readGroup 0 = .ok (.aload_n 0, 1) := by decide +kernel
theorem dX4_readGroup_1 : decode cX4_readGroup 1 = .ok (.dup, 1) := by decide +kernel
theorem dX4_readGroup_2 : decode cX4_readGroup 2 = .ok (.getfield 19, 3) := by decide +kernel
theorem dX4_readGroup_5 : decode cX4_readGroup 5 = .ok (.iconst 1, 1) := by decide +kernel
theorem dX4_readGroup_6 : decode cX4_readGroup 6 = .ok (.iadd, 1) := by decide +kernel
theorem dX4_readGroup_7 : decode cX4_readGroup 7 = .ok (.putfield 19, 3) := by decide +kernel
theorem dX4_readGroup_10 : decode cX4_readGroup 10 = .ok (.aload_n 0, 1) := by decide +kernel
theorem dX4_readGroup_11 : decode cX4_readGroup 11 = .ok (.iload_n 1, 1) := by decide +kernel
theorem dX4_readGroup_12 : decode cX4_readGroup 12 = .ok (.invokevirtual 42, 3) := by decide +kernel
theorem dX4_readGroup_15 : decode cX4_readGroup 15 = .ok (.ifCond .eq 16, 3) := by decide +kernel
theorem dX4_readGroup_18 : decode cX4_readGroup 18 = .ok (.aload_n 0, 1) := by decide +kernel
theorem dX4_readGroup_19 : decode cX4_readGroup 19 = .ok (.bipush 41, 2) := by decide +kernel
theorem dX4_readGroup_21 : decode cX4_readGroup 21 = .ok (.invokevirtual 38, 3) := by decide +kernel
theorem dX4_readGroup_24 : decode cX4_readGroup 24 = .ok (.ifCond .eq 7, 3) := by decide +kernel
theorem dX4_readGroup_27 : decode cX4_readGroup 27 = .ok (.iconst 1, 1) := by decide +kernel
theorem dX4_readGroup_28 : decode cX4_readGroup 28 = .ok (.goto 4, 3) := by decide +kernel
theorem dX4_readGroup_31 : decode cX4_readGroup 31 = .ok (.iconst 0, 1) := by decide +kernel
theorem dX4_readGroup_32 : decode cX4_readGroup 32 = .ok (.ireturn, 1) := by decide +kernel
theorem dX4_readTest_0 : decode cX4_readTest 0 = .ok (.aload_n 0, 1) := by decide +kernel
theorem dX4_readTest_1 : decode cX4_readTest 1 = .ok (.ldc 96, 2) := by decide +kernel
theorem dX4_readTest_3 : decode cX4_readTest 3 = .ok (.invokevirtual 98, 3) := by decide +kernel
theorem dX4_readTest_6 : decode cX4_readTest 6 = .ok (.istore_n 1, 1) := by decide +kernel
theorem dX4_readTest_7 : decode cX4_readTest 7 = .ok (.iload_n 1, 1) := by decide +kernel
theorem dX4_readTest_8 : decode cX4_readTest 8 = .ok (.ifCond .ge 5, 3) := by decide +kernel
theorem dX4_readTest_11 : decode cX4_readTest 11 = .ok (.iconst 0, 1) := by decide +kernel
theorem dX4_readTest_12 : decode cX4_readTest 12 = .ok (.ireturn, 1) := by decide +kernel
theorem dX4_readTest_13 : decode cX4_readTest 13 = .ok (.aload_n 0, 1) := by decide +kernel
theorem dX4_readTest_14 : decode cX4_readTest 14 = .ok (.dup, 1) := by decide +kernel
theorem dX4_readTest_15 : decode cX4_readTest 15 = .ok (.getfield 19, 3) := by decide +kernel
theorem dX4_readTest_18 : decode cX4_readTest 18 = .ok (.iconst 1, 1) := by decide +kernel
theorem dX4_readTest_19 : decode cX4_readTest 19 = .ok (.iadd, 1) := by decide +kernel
theorem dX4_readTest_20 : decode cX4_readTest 20 = .ok (.putfield 19, 3) := by decide +kernel
theorem dX4_readTest_23 : decode cX4_readTest 23 = .ok (.aload_n 0, 1) := by decide +kernel
theorem dX4_readTest_24 : decode cX4_readTest 24 = .ok (.ldc 102, 2) := by decide +kernel
theorem dX4_readTest_26 : decode cX4_readTest 26 = .ok (.invokevirtual 98, 3) := by decide +kernel
theorem dX4_readTest_29 : decode cX4_readTest 29 = .ok (.istore_n 2, 1) := by decide +kernel
theorem dX4_readTest_30 : decode cX4_readTest 30 = .ok (.iload_n 2, 1) := by decide +kernel
theorem dX4_readTest_31 : decode cX4_readTest 31 = .ok (.ifCond .ge 5, 3) := by decide +kernel
theorem dX4_readTest_34 : decode cX4_readTest 34 = .ok (.iconst 0, 1) := by decide +kernel
theorem dX4_readTest_35 : decode cX4_readTest 35 = .ok (.ireturn, 1) := by decide +kernel
theorem dX4_readTest_36 : decode cX4_readTest 36 = .ok (.aload_n 0, 1) := by decide +kernel
theorem dX4_readTest_37 : decode cX4_readTest 37 = .ok (.dup, 1) := by decide +kernel
theorem dX4_readTest_38 : decode cX4_readTest 38 = .ok (.getfield 19, 3) := by decide +kernel
theorem dX4_readTest_41 : decode cX4_readTest 41 = .ok (.iconst 1, 1) := by decide +kernel
theorem dX4_readTest_42 : decode cX4_readTest 42 = .ok (.iadd, 1) := by decide +kernel
theorem dX4_readTest_43 : decode cX4_readTest 43 = .ok (.putfield 19, 3) := by decide +kernel
theorem dX4_readTest_46 : decode cX4_readTest 46 = .ok (.aload_n 0, 1) := by decide +kernel
theorem dX4_readTest_47 : decode cX4_readTest 47 = .ok (.invokevirtual 35, 3) := by decide +kernel
theorem dX4_readTest_50 : decode cX4_readTest 50 = .ok (.istore_n 3, 1) := by decide +kernel
theorem dX4_readTest_51 : decode cX4_readTest 51 = .ok (.iload_n 3, 1) := by decide +kernel
theorem dX4_readTest_52 : decode cX4_readTest 52 = .ok (.ifCond .ge 5, 3) := by decide +kernel
theorem dX4_readTest_55 : decode cX4_readTest 55 = .ok (.iconst 0, 1) := by decide +kernel
theorem dX4_readTest_56 : decode cX4_readTest 56 = .ok (.ireturn, 1) := by decide +kernel
theorem dX4_readTest_57 : decode cX4_readTest 57 = .ok (.aload_n 0, 1) := by decide +kernel
theorem dX4_readTest_58 : decode cX4_readTest 58 = .ok (.getfield 22, 3) := by decide +kernel
theorem dX4_readTest_61 : decode cX4_readTest 61 = .ok (.iload_n 1, 1) := by decide +kernel
theorem dX4_readTest_62 : decode cX4_readTest 62 = .ok (.sipush 300, 3) := by decide +kernel
theorem dX4_readTest_65 : decode cX4_readTest 65 = .ok (.imul, 1) := by decide +kernel
theorem dX4_readTest_66 : decode cX4_readTest 66 = .ok (.iload_n 2, 1) := by decide +kernel
theorem dX4_readTest_67 : decode cX4_readTest 67 = .ok (.bipush 100, 2) := by decide +kernel
theorem dX4_readTest_69 : decode cX4_readTest 69 = .ok (.imul, 1) := by decide +kernel
theorem dX4_readTest_70 : decode cX4_readTest 70 = .ok (.iadd, 1) := by decide +kernel
theorem dX4_readTest_71 : decode cX4_readTest 71 = .ok (.iload_n 3, 1) := by decide +kernel
theorem dX4_readTest_72 : decode cX4_readTest 72 = .ok (.iadd, 1) := by decide +kernel
theorem dX4_readTest_73 : decode cX4_readTest 73 = .ok (.invokevirtual 79, 3) := by decide +kernel
theorem dX4_readTest_76 : decode cX4_readTest 76 = .ok (.iconst 1, 1) := by decide +kernel
theorem dX4_readTest_77 : decode cX4_readTest 77 = .ok (.ireturn, 1) := by decide +kernel
theorem dX4_placeOfSign_0 : decode cX4_placeOfSign 0 = .ok (.aload_n 0, 1) := by decide +kernel
theorem dX4_placeOfSign_1 : decode cX4_placeOfSign 1 = .ok (.invokevirtual 49, 3) := by decide +kernel
theorem dX4_placeOfSign_4 : decode cX4_placeOfSign 4 = .ok (.ifCond .ge 7, 3) := by decide +kernel
theorem dX4_placeOfSign_7 : decode cX4_placeOfSign 7 = .ok (.iconst (-1), 1) := by decide +kernel
theorem dX4_placeOfSign_8 : decode cX4_placeOfSign 8 = .ok (.goto 12, 3) := by decide +kernel
theorem dX4_placeOfSign_11 : decode cX4_placeOfSign 11 = .ok (.aload_n 1, 1) := by decide +kernel
theorem dX4_placeOfSign_12 : decode cX4_placeOfSign 12 = .ok (.aload_n 0, 1) := by decide +kernel
theorem dX4_placeOfSign_13 : decode cX4_placeOfSign 13 = .ok (.invokevirtual 49, 3) := by decide +kernel
theorem dX4_placeOfSign_16 : decode cX4_placeOfSign 16 = .ok (.i2c, 1) := by decide +kernel
theorem dX4_placeOfSign_17 : decode cX4_placeOfSign 17 = .ok (.invokevirtual 104, 3) := by decide +kernel
theorem dX4_placeOfSign_20 : decode cX4_placeOfSign 20 = .ok (.ireturn, 1) := by decide +kernel
theorem dX5_init_0 : decode cX5_init 0 = .ok (.aload_n 0, 1) := by decide +kernel
theorem dX5_init_1 : decode cX5_init 1 = .ok (.iload_n 1, 1) := by decide +kernel
theorem dX5_init_2 : decode cX5_init 2 = .ok (.iload_n 2, 1) := by decide +kernel
theorem dX5_init_3 : decode cX5_init 3 = .ok (.iload_n 3, 1) := by decide +kernel
theorem dX5_init_4 : decode cX5_init 4 = .ok (.invokespecial 1, 3) := by decide +kernel
theorem dX5_init_7 : decode cX5_init 7 = .ok (.return_, 1) := by decide +kernel
theorem dX5_kind_0 : decode cX5_kind 0 = .ok (.iconst 3, 1) := by decide +kernel
theorem dX5_kind_1 : decode cX5_kind 1 = .ok (.ireturn, 1) := by decide +kernel
theorem dX5_stepMinutes_0 : decode cX5_stepMinutes 0 = .ok (.iconst 2, 1) := by decide +kernel
theorem dX5_stepMinutes_1 : decode cX5_stepMinutes 1 = .ok (.ireturn, 1) := by decide +kernel
theorem dX5_noise_0 : decode cX5_noise 0 = .ok (.iconst 0, 1) := by decide +kernel
theorem dX5_noise_1 : decode cX5_noise 1 = .ok (.iload_n 1, 1) := by decide +kernel
theorem dX5_noise_2 : decode cX5_noise 2 = .ok (.iconst 3, 1) := by decide +kernel
theorem dX5_noise_3 : decode cX5_noise 3 = .ok (.isub, 1) := by decide +kernel
theorem dX5_noise_4 : decode cX5_noise 4 = .ok (.invokestatic 7, 3) := by decide +kernel
theorem dX5_noise_7 : decode cX5_noise 7 = .ok (.ireturn, 1) := by decide +kernel
theorem dX5_actTells_0 : decode cX5_actTells 0 = .ok (.aload_n 0, 1) := by decide +kernel
theorem dX5_actTells_1 : decode cX5_actTells 1 = .ok (.bipush 40, 2) := by decide +kernel
theorem dX5_actTells_3 : decode cX5_actTells 3 = .ok (.invokevirtual 13, 3) := by decide +kernel
theorem dX5_actTells_6 : decode cX5_actTells 6 = .ok (.aload_n 0, 1) := by decide +kernel
theorem dX5_actTells_7 : decode cX5_actTells 7 = .ok (.iload_n 1, 1) := by decide +kernel
theorem dX5_actTells_8 : decode cX5_actTells 8 = .ok (.invokespecial 19, 3) := by decide +kernel
theorem dX5_actTells_11 : decode cX5_actTells 11 = .ok (.aload_n 0, 1) := by decide +kernel
theorem dX5_actTells_12 : decode cX5_actTells 12 = .ok (.iconst 1, 1) := by decide +kernel
theorem dX5_actTells_13 : decode cX5_actTells 13 = .ok (.invokevirtual 23, 3) := by decide +kernel
theorem dX5_actTells_16 : decode cX5_actTells 16 = .ok (.iadd, 1) := by decide +kernel
theorem dX5_actTells_17 : decode cX5_actTells 17 = .ok (.ireturn, 1) := by decide +kernel
theorem dX6_init_0 : decode cX6_init 0 = .ok (.aload_n 0, 1) := by decide +kernel
theorem dX6_init_1 : decode cX6_init 1 = .ok (.iload_n 1, 1) := by decide +kernel
theorem dX6_init_2 : decode cX6_init 2 = .ok (.iload_n 2, 1) := by decide +kernel
theorem dX6_init_3 : decode cX6_init 3 = .ok (.iload_n 3, 1) := by decide +kernel
theorem dX6_init_4 : decode cX6_init 4 = .ok (.invokespecial 1, 3) := by decide +kernel
theorem dX6_init_7 : decode cX6_init 7 = .ok (.return_, 1) := by decide +kernel
theorem dX6_kind_0 : decode cX6_kind 0 = .ok (.iconst 2, 1) := by decide +kernel
theorem dX6_kind_1 : decode cX6_kind 1 = .ok (.ireturn, 1) := by decide +kernel
theorem dX6_noise_0 : decode cX6_noise 0 = .ok (.iload_n 1, 1) := by decide +kernel
theorem dX6_noise_1 : decode cX6_noise 1 = .ok (.iconst 2, 1) := by decide +kernel
theorem dX6_noise_2 : decode cX6_noise 2 = .ok (.idiv, 1) := by decide +kernel
theorem dX6_noise_3 : decode cX6_noise 3 = .ok (.ireturn, 1) := by decide +kernel
theorem dX6_actTreads_0 : decode cX6_actTreads 0 = .ok (.aload_n 0, 1) := by decide +kernel
theorem dX6_actTreads_1 : decode cX6_actTreads 1 = .ok (.bipush 30, 2) := by decide +kernel
theorem dX6_actTreads_3 : decode cX6_actTreads 3 = .ok (.invokevirtual 7, 3) := by decide +kernel
theorem dX6_actTreads_6 : decode cX6_actTreads 6 = .ok (.aload_n 0, 1) := by decide +kernel
theorem dX6_actTreads_7 : decode cX6_actTreads 7 = .ok (.iload_n 1, 1) := by decide +kernel
theorem dX6_actTreads_8 : decode cX6_actTreads 8 = .ok (.iconst 3, 1) := by decide +kernel
theorem dX6_actTreads_9 : decode cX6_actTreads 9 = .ok (.imul, 1) := by decide +kernel
theorem dX6_actTreads_10 : decode cX6_actTreads 10 = .ok (.invokespecial 13, 3) := by decide +kernel
theorem dX6_actTreads_13 : decode cX6_actTreads 13 = .ok (.ireturn, 1) := by decide +kernel
theorem dX7_init_0 : decode cX7_init 0 = .ok (.aload_n 0, 1) := by decide +kernel
theorem dX7_init_1 : decode cX7_init 1 = .ok (.iload_n 1, 1) := by decide +kernel
theorem dX7_init_2 : decode cX7_init 2 = .ok (.iload_n 2, 1) := by decide +kernel
theorem dX7_init_3 : decode cX7_init 3 = .ok (.iload_n 3, 1) := by decide +kernel
theorem dX7_init_4 : decode cX7_init 4 = .ok (.invokespecial 1, 3) := by decide +kernel
theorem dX7_init_7 : decode cX7_init 7 = .ok (.return_, 1) := by decide +kernel
theorem dX7_kind_0 : decode cX7_kind 0 = .ok (.iconst 4, 1) := by decide +kernel
theorem dX7_kind_1 : decode cX7_kind 1 = .ok (.ireturn, 1) := by decide +kernel
theorem dX7_noise_0 : decode cX7_noise 0 = .ok (.aload_n 0, 1) := by decide +kernel
theorem dX7_noise_1 : decode cX7_noise 1 = .ok (.iload_n 1, 1) := by decide +kernel
theorem dX7_noise_2 : decode cX7_noise 2 = .ok (.iload_n 2, 1) := by decide +kernel
theorem dX7_noise_3 : decode cX7_noise 3 = .ok (.invokespecial 7, 3) := by decide +kernel
theorem dX7_noise_6 : decode cX7_noise 6 = .ok (.iload_n 2, 1) := by decide +kernel
theorem dX7_noise_7 : decode cX7_noise 7 = .ok (.iconst 3, 1) := by decide +kernel
theorem dX7_noise_8 : decode cX7_noise 8 = .ok (.irem, 1) := by decide +kernel
theorem dX7_noise_9 : decode cX7_noise 9 = .ok (.iadd, 1) := by decide +kernel
theorem dX7_noise_10 : decode cX7_noise 10 = .ok (.ireturn, 1) := by decide +kernel
theorem dX7_actTreads_0 : decode cX7_actTreads 0 = .ok (.aload_n 0, 1) := by decide +kernel
theorem dX7_actTreads_1 : decode cX7_actTreads 1 = .ok (.bipush 50, 2) := by decide +kernel
theorem dX7_actTreads_3 : decode cX7_actTreads 3 = .ok (.invokevirtual 11, 3) := by decide +kernel
theorem dX7_actTreads_6 : decode cX7_actTreads 6 = .ok (.aload_n 0, 1) := by decide +kernel
theorem dX7_actTreads_7 : decode cX7_actTreads 7 = .ok (.iload_n 1, 1) := by decide +kernel
theorem dX7_actTreads_8 : decode cX7_actTreads 8 = .ok (.invokespecial 17, 3) := by decide +kernel
theorem dX7_actTreads_11 : decode cX7_actTreads 11 = .ok (.ineg, 1) := by decide +kernel
theorem dX7_actTreads_12 : decode cX7_actTreads 12 = .ok (.ireturn, 1) := by decide +kernel
theorem dX7_actGoes_0 : decode cX7_actGoes 0 = .ok (.aload_n 0, 1) := by decide +kernel
theorem dX7_actGoes_1 : decode cX7_actGoes 1 = .ok (.bipush 51, 2) := by decide +kernel
theorem dX7_actGoes_3 : decode cX7_actGoes 3 = .ok (.invokevirtual 11, 3) := by decide +kernel
theorem dX7_actGoes_6 : decode cX7_actGoes 6 = .ok (.aload_n 0, 1) := by decide +kernel
theorem dX7_actGoes_7 : decode cX7_actGoes 7 = .ok (.iload_n 1, 1) := by decide +kernel
theorem dX7_actGoes_8 : decode cX7_actGoes 8 = .ok (.iconst 1, 1) := by decide +kernel
theorem dX7_actGoes_9 : decode cX7_actGoes 9 = .ok (.iadd, 1) := by decide +kernel
theorem dX7_actGoes_10 : decode cX7_actGoes 10 = .ok (.invokespecial 21, 3) := by decide +kernel
theorem dX7_actGoes_13 : decode cX7_actGoes 13 = .ok (.ireturn, 1) := by decide +kernel
theorem dX8_init_0 : decode cX8_init 0 = .ok (.aload_n 0, 1) := by decide +kernel
theorem dX8_init_1 : decode cX8_init 1 = .ok (.iload_n 1, 1) := by decide +kernel
theorem dX8_init_2 : decode cX8_init 2 = .ok (.iload_n 2, 1) := by decide +kernel
theorem dX8_init_3 : decode cX8_init 3 = .ok (.iload_n 3, 1) := by decide +kernel
theorem dX8_init_4 : decode cX8_init 4 = .ok (.invokespecial 1, 3) := by decide +kernel
theorem dX8_init_7 : decode cX8_init 7 = .ok (.aload_n 0, 1) := by decide +kernel
theorem dX8_init_8 : decode cX8_init 8 = .ok (.iconst 4, 1) := by decide +kernel
theorem dX8_init_9 : decode cX8_init 9 = .ok (.newarray .int, 2) := by decide +kernel
theorem dX8_init_11 : decode cX8_init 11 = .ok (.putfield 9, 3) := by decide +kernel
theorem dX8_init_14 : decode cX8_init 14 = .ok (.aload_n 0, 1) := by decide +kernel
theorem dX8_init_15 : decode cX8_init 15 = .ok (.iconst 4, 1) := by decide +kernel
theorem dX8_init_16 : decode cX8_init 16 = .ok (.newarray .int, 2) := by decide +kernel
theorem dX8_init_18 : decode cX8_init 18 = .ok (.putfield 13, 3) := by decide +kernel
theorem dX8_init_21 : decode cX8_init 21 = .ok (.return_, 1) := by decide +kernel
theorem dX8_kind_0 : decode cX8_kind 0 = .ok (.bipush 6, 2) := by decide +kernel
theorem dX8_kind_2 : decode cX8_kind 2 = .ok (.ireturn, 1) := by decide +kernel
theorem dX8_noise_0 : decode cX8_noise 0 = .ok (.aload_n 0, 1) := by decide +kernel
theorem dX8_noise_1 : decode cX8_noise 1 = .ok (.iload_n 1, 1) := by decide +kernel
theorem dX8_noise_2 : decode cX8_noise 2 = .ok (.iload_n 2, 1) := by decide +kernel
theorem dX8_noise_3 : decode cX8_noise 3 = .ok (.invokespecial 16, 3) := by decide +kernel
theorem dX8_noise_6 : decode cX8_noise 6 = .ok (.aload_n 0, 1) := by decide +kernel
theorem dX8_noise_7 : decode cX8_noise 7 = .ok (.getfield 9, 3) := by decide +kernel
theorem dX8_noise_10 : decode cX8_noise 10 = .ok (.iload_n 2, 1) := by decide +kernel
theorem dX8_noise_11 : decode cX8_noise 11 = .ok (.iconst 4, 1) := by decide +kernel
theorem dX8_noise_12 : decode cX8_noise 12 = .ok (.invokestatic 20, 3) := by decide +kernel
theorem dX8_noise_15 : decode cX8_noise 15 = .ok (.iaload, 1) := by decide +kernel
theorem dX8_noise_16 : decode cX8_noise 16 = .ok (.iadd, 1) := by decide +kernel
theorem dX8_noise_17 : decode cX8_noise 17 = .ok (.ireturn, 1) := by decide +kernel
theorem dX8_keep_0 : decode cX8_keep 0 = .ok (.aload_n 0, 1) := by decide +kernel
theorem dX8_keep_1 : decode cX8_keep 1 = .ok (.invokespecial 25, 3) := by decide +kernel
theorem dX8_keep_4 : decode cX8_keep 4 = .ok (.aload_n 0, 1) := by decide +kernel
theorem dX8_keep_5 : decode cX8_keep 5 = .ok (.getfield 9, 3) := by decide +kernel
theorem dX8_keep_8 : decode cX8_keep 8 = .ok (.iconst 0, 1) := by decide +kernel
theorem dX8_keep_9 : decode cX8_keep 9 = .ok (.aload_n 0, 1) := by decide +kernel
theorem dX8_keep_10 : decode cX8_keep 10 = .ok (.getfield 13, 3) := by decide +kernel
theorem dX8_keep_13 : decode cX8_keep 13 = .ok (.iconst 0, 1) := by decide +kernel
theorem dX8_keep_14 : decode cX8_keep 14 = .ok (.iconst 4, 1) := by decide +kernel
theorem dX8_keep_15 : decode cX8_keep 15 = .ok (.invokestatic 29, 3) := by decide +kernel
theorem dX8_keep_18 : decode cX8_keep 18 = .ok (.return_, 1) := by decide +kernel
theorem dX8_goBack_0 : decode cX8_goBack 0 = .ok (.aload_n 0, 1) := by decide +kernel
theorem dX8_goBack_1 : decode cX8_goBack 1 = .ok (.invokespecial 35, 3) := by decide +kernel
theorem dX8_goBack_4 : decode cX8_goBack 4 = .ok (.aload_n 0, 1) := by decide +kernel
theorem dX8_goBack_5 : decode cX8_goBack 5 = .ok (.getfield 13, 3) := by decide +kernel
theorem dX8_goBack_8 : decode cX8_goBack 8 = .ok (.iconst 0, 1) := by decide +kernel
theorem dX8_goBack_9 : decode cX8_goBack 9 = .ok (.aload_n 0, 1) := by decide +kernel
theorem dX8_goBack_10 : decode cX8_goBack 10 = .ok (.getfield 9, 3) := by decide +kernel
theorem dX8_goBack_13 : decode cX8_goBack 13 = .ok (.iconst 0, 1) := by decide +kernel
theorem dX8_goBack_14 : decode cX8_goBack 14 = .ok (.iconst 4, 1) := by decide +kernel
theorem dX8_goBack_15 : decode cX8_goBack 15 = .ok (.invokestatic 29, 3) := by decide +kernel
theorem dX8_goBack_18 : decode cX8_goBack 18 = .ok (.return_, 1) := by decide +kernel
theorem dX8_actGoes_0 : decode cX8_actGoes 0 = .ok (.aload_n 0, 1) := by decide +kernel
theorem dX8_actGoes_1 : decode cX8_actGoes 1 = .ok (.bipush 70, 2) := by decide +kernel
theorem dX8_actGoes_3 : decode cX8_actGoes 3 = .ok (.invokevirtual 38, 3) := by decide +kernel
theorem dX8_actGoes_6 : decode cX8_actGoes 6 = .ok (.aload_n 0, 1) := by decide +kernel
theorem dX8_actGoes_7 : decode cX8_actGoes 7 = .ok (.iload_n 1, 1) := by decide +kernel
theorem dX8_actGoes_8 : decode cX8_actGoes 8 = .ok (.invokespecial 42, 3) := by decide +kernel
theorem dX8_actGoes_11 : decode cX8_actGoes 11 = .ok (.aload_n 0, 1) := by decide +kernel
theorem dX8_actGoes_12 : decode cX8_actGoes 12 = .ok (.iconst 2, 1) := by decide +kernel
theorem dX8_actGoes_13 : decode cX8_actGoes 13 = .ok (.invokespecial 46, 3) := by decide +kernel
theorem dX8_actGoes_16 : decode cX8_actGoes 16 = .ok (.iadd, 1) := by decide +kernel
theorem dX8_actGoes_17 : decode cX8_actGoes 17 = .ok (.ireturn, 1) := by decide +kernel
theorem dX8_actTreads_0 : decode cX8_actTreads 0 = .ok (.aload_n 0, 1) := by decide +kernel
theorem dX8_actTreads_1 : decode cX8_actTreads 1 = .ok (.bipush 71, 2) := by decide +kernel
theorem dX8_actTreads_3 : decode cX8_actTreads 3 = .ok (.invokevirtual 38, 3) := by decide +kernel
theorem dX8_actTreads_6 : decode cX8_actTreads 6 = .ok (.aload_n 0, 1) := by decide +kernel
theorem dX8_actTreads_7 : decode cX8_actTreads 7 = .ok (.iload_n 1, 1) := by decide +kernel
theorem dX8_actTreads_8 : decode cX8_actTreads 8 = .ok (.invokespecial 46, 3) := by decide +kernel
theorem dX8_actTreads_11 : decode cX8_actTreads 11 = .ok (.aload_n 0, 1) := by decide +kernel
theorem dX8_actTreads_12 : decode cX8_actTreads 12 = .ok (.getfield 49, 3) := by decide +kernel
theorem dX8_actTreads_15 : decode cX8_actTreads 15 = .ok (.ixor, 1) := by decide +kernel
theorem dX8_actTreads_16 : decode cX8_actTreads 16 = .ok (.ireturn, 1) := by decide +kernel
theorem dX9_init_0 : decode cX9_init 0 = .ok (.aload_n 0, 1) := by decide +kernel
theorem dX9_init_1 : decode cX9_init 1 = .ok (.invokespecial 3, 3) := by decide +kernel
theorem dX9_init_4 : decode cX9_init 4 = .ok (.aload_n 0, 1) := by decide +kernel
theorem dX9_init_5 : decode cX9_init 5 = .ok (.bipush 20, 2) := by decide +kernel
theorem dX9_init_7 : decode cX9_init 7 = .ok (.newarray .int, 2) := by decide +kernel
theorem dX9_init_9 : decode cX9_init 9 = .ok (.putfield 9, 3) := by decide +kernel
theorem dX9_init_12 : decode cX9_init 12 = .ok (.aload_n 0, 1) := by decide +kernel
theorem dX9_init_13 : decode cX9_init 13 = .ok (.iload_n 1, 1) := by decide +kernel
theorem dX9_init_14 : decode cX9_init 14 = .ok (.putfield 15, 3) := by decide +kernel
theorem dX9_init_17 : decode cX9_init 17 = .ok (.aload_n 0, 1) := by decide +kernel
theorem dX9_init_18 : decode cX9_init 18 = .ok (.iload_n 2, 1) := by decide +kernel
theorem dX9_init_19 : decode cX9_init 19 = .ok (.putfield 19, 3) := by decide +kernel
theorem dX9_init_22 : decode cX9_init 22 = .ok (.aload_n 0, 1) := by decide +kernel
theorem dX9_init_23 : decode cX9_init 23 = .ok (.iload_n 3, 1) := by decide +kernel
theorem dX9_init_24 : decode cX9_init 24 = .ok (.putfield 22, 3) := by decide +kernel
theorem dX9_init_27 : decode cX9_init 27 = .ok (.return_, 1) := by decide +kernel
theorem dX9_kind_0 : decode cX9_kind 0 = .ok (.iconst 0, 1) := by decide +kernel
theorem dX9_kind_1 : decode cX9_kind 1 = .ok (.ireturn, 1) := by decide +kernel
theorem dX9_stepMinutes_0 : decode cX9_stepMinutes 0 = .ok (.iconst 1, 1) := by decide +kernel
theorem dX9_stepMinutes_1 : decode cX9_stepMinutes 1 = .ok (.ireturn, 1) := by decide +kernel
theorem dX9_noise_0 : decode cX9_noise 0 = .ok (.iload_n 1, 1) := by decide +kernel
theorem dX9_noise_1 : decode cX9_noise 1 = .ok (.ireturn, 1) := by decide +kernel
theorem dX9_keep_0 : decode cX9_keep 0 = .ok (.aload_n 0, 1) := by decide +kernel
theorem dX9_keep_1 : decode cX9_keep 1 = .ok (.aload_n 0, 1) := by decide +kernel
theorem dX9_keep_2 : decode cX9_keep 2 = .ok (.getfield 22, 3) := by decide +kernel
theorem dX9_keep_5 : decode cX9_keep 5 = .ok (.putfield 25, 3) := by decide +kernel
theorem dX9_keep_8 : decode cX9_keep 8 = .ok (.return_, 1) := by decide +kernel
theorem dX9_goBack_0 : decode cX9_goBack 0 = .ok (.aload_n 0, 1) := by decide +kernel
theorem dX9_goBack_1 : decode cX9_goBack 1 = .ok (.aload_n 0, 1) := by decide +kernel
theorem dX9_goBack_2 : decode cX9_goBack 2 = .ok (.getfield 25, 3) := by decide +kernel
theorem dX9_goBack_5 : decode cX9_goBack 5 = .ok (.putfield 22, 3) := by decide +kernel
theorem dX9_goBack_8 : decode cX9_goBack 8 = .ok (.return_, 1) := by decide +kernel
theorem dX9_begin_0 : decode cX9_begin 0 = .ok (.aload_n 0, 1) := by decide +kernel
theorem dX9_begin_1 : decode cX9_begin 1 = .ok (.getfield 28, 3) := by decide +kernel
theorem dX9_begin_4 : decode cX9_begin 4 = .ok (.ifCond .lt 22, 3) := by decide +kernel
theorem dX9_begin_7 : decode cX9_begin 7 = .ok (.aload_n 0, 1) := by decide +kernel
theorem dX9_begin_8 : decode cX9_begin 8 = .ok (.getfield 28, 3) := by decide +kernel
theorem dX9_begin_11 : decode cX9_begin 11 = .ok (.bipush 20, 2) := by decide +kernel
theorem dX9_begin_13 : decode cX9_begin 13 = .ok (.if_icmp .ge 13, 3) := by decide +kernel
theorem dX9_begin_16 : decode cX9_begin 16 = .ok (.aload_n 0, 1) := by decide +kernel
theorem dX9_begin_17 : decode cX9_begin 17 = .ok (.getfield 9, 3) := by decide +kernel
theorem dX9_begin_20 : decode cX9_begin 20 = .ok (.aload_n 0, 1) := by decide +kernel
theorem dX9_begin_21 : decode cX9_begin 21 = .ok (.getfield 28, 3) := by decide +kernel
theorem dX9_begin_24 : decode cX9_begin 24 = .ok (.iload_n 1, 1) := by decide +kernel
theorem dX9_begin_25 : decode cX9_begin 25 = .ok (.iastore, 1) := by decide +kernel
theorem dX9_begin_26 : decode cX9_begin 26 = .ok (.aload_n 0, 1) := by decide +kernel
theorem dX9_begin_27 : decode cX9_begin 27 = .ok (.dup, 1) := by decide +kernel
theorem dX9_begin_28 : decode cX9_begin 28 = .ok (.getfield 28, 3) := by decide +kernel
theorem dX9_begin_31 : decode cX9_begin 31 = .ok (.iconst 1, 1) := by decide +kernel
theorem dX9_begin_32 : decode cX9_begin 32 = .ok (.iadd, 1) := by decide +kernel
theorem dX9_begin_33 : decode cX9_begin 33 = .ok (.putfield 28, 3) := by decide +kernel
theorem dX9_begin_36 : decode cX9_begin 36 = .ok (.return_, 1) := by decide +kernel
theorem dX9_actTreads_0 : decode cX9_actTreads 0 = .ok (.aload_n 0, 1) := by decide +kernel
theorem dX9_actTreads_1 : decode cX9_actTreads 1 = .ok (.bipush 10, 2) := by decide +kernel
theorem dX9_actTreads_3 : decode cX9_actTreads 3 = .ok (.invokevirtual 31, 3) := by decide +kernel
theorem dX9_actTreads_6 : decode cX9_actTreads 6 = .ok (.iload_n 1, 1) := by decide +kernel
theorem dX9_actTreads_7 : decode cX9_actTreads 7 = .ok (.aload_n 0, 1) := by decide +kernel
theorem dX9_actTreads_8 : decode cX9_actTreads 8 = .ok (.getfield 15, 3) := by decide +kernel
theorem dX9_actTreads_11 : decode cX9_actTreads 11 = .ok (.iadd, 1) := by decide +kernel
theorem dX9_actTreads_12 : decode cX9_actTreads 12 = .ok (.ireturn, 1) := by decide +kernel
theorem dX9_actGoes_0 : decode cX9_actGoes 0 = .ok (.aload_n 0, 1) := by decide +kernel
theorem dX9_actGoes_1 : decode cX9_actGoes 1 = .ok (.bipush 11, 2) := by decide +kernel
theorem dX9_actGoes_3 : decode cX9_actGoes 3 = .ok (.invokevirtual 31, 3) := by decide +kernel
theorem dX9_actGoes_6 : decode cX9_actGoes 6 = .ok (.aload_n 0, 1) := by decide +kernel
theorem dX9_actGoes_7 : decode cX9_actGoes 7 = .ok (.iload_n 1, 1) := by decide +kernel
theorem dX9_actGoes_8 : decode cX9_actGoes 8 = .ok (.invokevirtual 35, 3) := by decide +kernel
theorem dX9_actGoes_11 : decode cX9_actGoes 11 = .ok (.aload_n 0, 1) := by decide +kernel
theorem dX9_actGoes_12 : decode cX9_actGoes 12 = .ok (.getfield 19, 3) := by decide +kernel
theorem dX9_actGoes_15 : decode cX9_actGoes 15 = .ok (.isub, 1) := by decide +kernel
theorem dX9_actGoes_16 : decode cX9_actGoes 16 = .ok (.ireturn, 1) := by decide +kernel
theorem dX9_actTells_0 : decode cX9_actTells 0 = .ok (.aload_n 0, 1) := by decide +kernel
theorem dX9_actTells_1 : decode cX9_actTells 1 = .ok (.bipush 12, 2) := by decide +kernel
theorem dX9_actTells_3 : decode cX9_actTells 3 = .ok (.invokevirtual 31, 3) := by decide +kernel
theorem dX9_actTells_6 : decode cX9_actTells 6 = .ok (.aload_n 0, 1) := by decide +kernel
theorem dX9_actTells_7 : decode cX9_actTells 7 = .ok (.iload_n 1, 1) := by decide +kernel
theorem dX9_actTells_8 : decode cX9_actTells 8 = .ok (.invokevirtual 39, 3) := by decide +kernel
theorem dX9_actTells_11 : decode cX9_actTells 11 = .ok (.iconst 2, 1) := by decide +kernel
theorem dX9_actTells_12 : decode cX9_actTells 12 = .ok (.imul, 1) := by decide +kernel
theorem dX9_actTells_13 : decode cX9_actTells 13 = .ok (.ireturn, 1) := by decide +kernel
theorem dX10_init_0 : decode cX10_init 0 = .ok (.aload_n 0, 1) := by decide +kernel
theorem dX10_init_1 : decode cX10_init 1 = .ok (.invokespecial 3, 3) := by decide +kernel
theorem dX10_init_4 : decode cX10_init 4 = .ok (.aload_n 0, 1) := by decide +kernel
theorem dX10_init_5 : decode cX10_init 5 = .ok (.sipush 144, 3) := by decide +kernel
theorem dX10_init_8 : decode cX10_init 8 = .ok (.newarray .int, 2) := by decide +kernel
theorem dX10_init_10 : decode cX10_init 10 = .ok (.putfield 9, 3) := by decide +kernel
theorem dX10_init_13 : decode cX10_init 13 = .ok (.aload_n 0, 1) := by decide +kernel
theorem dX10_init_14 : decode cX10_init 14 = .ok (.bipush 12, 2) := by decide +kernel
theorem dX10_init_16 : decode cX10_init 16 = .ok (.newarray .int, 2) := by decide +kernel
theorem dX10_init_18 : decode cX10_init 18 = .ok (.putfield 15, 3) := by decide +kernel
theorem dX10_init_21 : decode cX10_init 21 = .ok (.aload_n 0, 1) := by decide +kernel
theorem dX10_init_22 : decode cX10_init 22 = .ok (.sipush 372, 3) := by decide +kernel
theorem dX10_init_25 : decode cX10_init 25 = .ok (.newarray .int, 2) := by decide +kernel
theorem dX10_init_27 : decode cX10_init 27 = .ok (.putfield 18, 3) := by decide +kernel
theorem dX10_init_30 : decode cX10_init 30 = .ok (.return_, 1) := by decide +kernel
theorem dX10_learn_0 : decode cX10_learn 0 = .ok (.aload_n 0, 1) := by decide +kernel
theorem dX10_learn_1 : decode cX10_learn 1 = .ok (.aload_n 2, 1) := by decide +kernel
theorem dX10_learn_2 : decode cX10_learn 2 = .ok (.invokevirtual 21, 3) := by decide +kernel
theorem dX10_learn_5 : decode cX10_learn 5 = .ok (.putfield 27, 3) := by decide +kernel
theorem dX10_learn_8 : decode cX10_learn 8 = .ok (.aload_n 0, 1) := by decide +kernel
theorem dX10_learn_9 : decode cX10_learn 9 = .ok (.aload_n 1, 1) := by decide +kernel
theorem dX10_learn_10 : decode cX10_learn 10 = .ok (.getfield 30, 3) := by decide +kernel
theorem dX10_learn_13 : decode cX10_learn 13 = .ok (.putfield 35, 3) := by decide +kernel
theorem dX10_learn_16 : decode cX10_learn 16 = .ok (.iconst 0, 1) := by decide +kernel
theorem dX10_learn_17 : decode cX10_learn 17 = .ok (.istore_n 3, 1) := by decide +kernel
theorem dX10_learn_18 : decode cX10_learn 18 = .ok (.iload_n 3, 1) := by decide +kernel
theorem dX10_learn_19 : decode cX10_learn 19 = .ok (.bipush 12, 2) := by decide +kernel
theorem dX10_learn_21 : decode cX10_learn 21 = .ok (.if_icmp .ge 20, 3) := by decide +kernel
theorem dX10_learn_24 : decode cX10_learn 24 = .ok (.aload_n 0, 1) := by decide +kernel
theorem dX10_learn_25 : decode cX10_learn 25 = .ok (.getfield 15, 3) := by decide +kernel
theorem dX10_learn_28 : decode cX10_learn 28 = .ok (.iload_n 3, 1) := by decide +kernel
theorem dX10_learn_29 : decode cX10_learn 29 = .ok (.aload_n 1, 1) := by decide +kernel
theorem dX10_learn_30 : decode cX10_learn 30 = .ok (.iload_n 3, 1) := by decide +kernel
theorem dX10_learn_31 : decode cX10_learn 31 = .ok (.invokevirtual 36, 3) := by decide +kernel
theorem dX10_learn_34 : decode cX10_learn 34 = .ok (.iastore, 1) := by decide +kernel
theorem dX10_learn_35 : decode cX10_learn 35 = .ok (.iinc 3 1, 3) := by decide +kernel
theorem dX10_learn_38 : decode cX10_learn 38 = .ok (.goto (-20), 3) := by decide +kernel
theorem dX10_learn_41 : decode cX10_learn 41 = .ok (.iconst 0, 1) := by decide +kernel
theorem dX10_learn_42 : decode cX10_learn 42 = .ok (.istore_n 3, 1) := by decide +kernel
theorem dX10_learn_43 : decode cX10_learn 43 = .ok (.iload_n 3, 1) := by decide +kernel
theorem dX10_learn_44 : decode cX10_learn 44 = .ok (.bipush 12, 2) := by decide +kernel
theorem dX10_learn_46 : decode cX10_learn 46 = .ok (.if_icmp .ge 27, 3) := by decide +kernel
theorem dX10_learn_49 : decode cX10_learn 49 = .ok (.aload_n 0, 1) := by decide +kernel
theorem dX10_learn_50 : decode cX10_learn 50 = .ok (.aload_n 1, 1) := by decide +kernel
theorem dX10_learn_51 : decode cX10_learn 51 = .ok (.aload_n 2, 1) := by decide +kernel
theorem dX10_learn_52 : decode cX10_learn 52 = .ok (.iload_n 3, 1) := by decide +kernel
theorem dX10_learn_53 : decode cX10_learn 53 = .ok (.aload_n 1, 1) := by decide +kernel
theorem dX10_learn_54 : decode cX10_learn 54 = .ok (.getfield 39, 3) := by decide +kernel
theorem dX10_learn_57 : decode cX10_learn 57 = .ok (.iload_n 3, 1) := by decide +kernel
theorem dX10_learn_58 : decode cX10_learn 58 = .ok (.iaload, 1) := by decide +kernel
theorem dX10_learn_59 : decode cX10_learn 59 = .ok (.aload_n 1, 1) := by decide +kernel
theorem dX10_learn_60 : decode cX10_learn 60 = .ok (.iload_n 3, 1) := by decide +kernel
theorem dX10_learn_61 : decode cX10_learn 61 = .ok (.invokevirtual 42, 3) := by decide +kernel
theorem dX10_learn_64 : decode cX10_learn 64 = .ok (.invokevirtual 45, 3) := by decide +kernel
theorem dX10_learn_67 : decode cX10_learn 67 = .ok (.iinc 3 1, 3) := by decide +kernel
theorem dX10_learn_70 : decode cX10_learn 70 = .ok (.goto (-27), 3) := by decide +kernel
theorem dX10_learn_73 : decode cX10_learn 73 = .ok (.return_, 1) := by decide +kernel
theorem dX10_learnBoard_0 : decode cX10_learnBoard 0 = .ok (.iload_n 3, 1) := by decide +kernel
theorem dX10_learnBoard_1 : decode cX10_learnBoard 1 = .ok (.invokestatic 49, 3) := by decide +kernel
theorem dX10_learnBoard_4 : decode cX10_learnBoard 4 = .ok (.ifCond .ne 4, 3) := by decide +kernel
theorem dX10_learnBoard_7 : decode cX10_learnBoard 7 = .ok (.return_, 1) := by decide +kernel
theorem dX10_learnBoard_8 : decode cX10_learnBoard 8 = .ok (.iconst 0, 1) := by decide +kernel
theorem dX10_learnBoard_9 : decode cX10_learnBoard 9 = .ok (.istore 6, 2) := by decide +kernel
theorem dX10_learnBoard_11 : decode cX10_learnBoard 11 = .ok (.iload 6, 2) := by decide +kernel
theorem dX10_learnBoard_13 : decode cX10_learnBoard 13 = .ok (.bipush 12, 2) := by decide +kernel
theorem dX10_learnBoard_15 : decode cX10_learnBoard 15 = .ok (.if_icmp .ge 42, 3) := by decide +kernel
theorem dX10_learnBoard_18 : decode cX10_learnBoard 18 = .ok (.aload_n 0, 1) := by decide +kernel
theorem dX10_learnBoard_19 : decode cX10_learnBoard 19 = .ok (.getfield 9, 3) := by decide +kernel
theorem dX10_learnBoard_22 : decode cX10_learnBoard 22 = .ok (.iload 6, 2) := by decide +kernel
theorem dX10_learnBoard_24 : decode cX10_learnBoard 24 = .ok (.bipush 12, 2) := by decide +kernel
theorem dX10_learnBoard_26 : decode cX10_learnBoard 26 = .ok (.imul, 1) := by decide +kernel
theorem dX10_learnBoard_27 : decode cX10_learnBoard 27 = .ok (.iload_n 3, 1) := by decide +kernel
theorem dX10_learnBoard_28 : decode cX10_learnBoard 28 = .ok (.iadd, 1) := by decide +kernel
theorem dX10_learnBoard_29 : decode cX10_learnBoard 29 = .ok (.aload_n 2, 1) := by decide +kernel
theorem dX10_learnBoard_30 : decode cX10_learnBoard 30 = .ok (.aload_n 1, 1) := by decide +kernel
theorem dX10_learnBoard_31 : decode cX10_learnBoard 31 = .ok (.iload_n 3, 1) := by decide +kernel
theorem dX10_learnBoard_32 : decode cX10_learnBoard 32 = .ok (.iload 4, 2) := by decide +kernel
theorem dX10_learnBoard_34 : decode cX10_learnBoard 34 = .ok (.iload 5, 2) := by decide +kernel
theorem dX10_learnBoard_36 : decode cX10_learnBoard 36 = .ok (.aload_n 2, 1) := by decide +kernel
theorem dX10_learnBoard_37 : decode cX10_learnBoard 37 = .ok (.invokevirtual 53, 3) := by decide +kernel
theorem dX10_learnBoard_40 : decode cX10_learnBoard 40 = .ok (.iload 6, 2) := by decide +kernel
theorem dX10_learnBoard_42 : decode cX10_learnBoard 42 = .ok (.invokevirtual 56, 3) := by decide +kernel
theorem dX10_learnBoard_45 : decode cX10_learnBoard 45 = .ok (.iload 6, 2) := by decide +kernel
theorem dX10_learnBoard_47 : decode cX10_learnBoard 47 = .ok (.invokevirtual 60, 3) := by decide +kernel
theorem dX10_learnBoard_50 : decode cX10_learnBoard 50 = .ok (.iastore, 1) := by decide +kernel
theorem dX10_learnBoard_51 : decode cX10_learnBoard 51 = .ok (.iinc 6 1, 3) := by decide +kernel
theorem dX10_learnBoard_54 : decode cX10_learnBoard 54 = .ok (.goto (-43), 3) := by decide +kernel
theorem dX10_learnBoard_57 : decode cX10_learnBoard 57 = .ok (.return_, 1) := by decide +kernel
theorem dX10_follow_0 : decode cX10_follow 0 = .ok (.aload_n 0, 1) := by decide +kernel
theorem dX10_follow_1 : decode cX10_follow 1 = .ok (.iload_n 2, 1) := by decide +kernel
theorem dX10_follow_2 : decode cX10_follow 2 = .ok (.putfield 63, 3) := by decide +kernel
theorem dX10_follow_5 : decode cX10_follow 5 = .ok (.aload_n 0, 1) := by decide +kernel
theorem dX10_follow_6 : decode cX10_follow 6 = .ok (.iload_n 3, 1) := by decide +kernel
theorem dX10_follow_7 : decode cX10_follow 7 = .ok (.putfield 66, 3) := by decide +kernel
theorem dX10_follow_10 : decode cX10_follow 10 = .ok (.aload_n 0, 1) := by decide +kernel
theorem dX10_follow_11 : decode cX10_follow 11 = .ok (.iload 4, 2) := by decide +kernel
theorem dX10_follow_13 : decode cX10_follow 13 = .ok (.putfield 69, 3) := by decide +kernel
theorem dX10_follow_16 : decode cX10_follow 16 = .ok (.iconst 0, 1) := by decide +kernel
theorem dX10_follow_17 : decode cX10_follow 17 = .ok (.istore 5, 2) := by decide +kernel
theorem dX10_follow_19 : decode cX10_follow 19 = .ok (.iload 5, 2) := by decide +kernel
theorem dX10_follow_21 : decode cX10_follow 21 = .ok (.aload_n 1, 1) := by decide +kernel
theorem dX10_follow_22 : decode cX10_follow 22 = .ok (.getfield 72, 3) := by decide +kernel
theorem dX10_follow_25 : decode cX10_follow 25 = .ok (.if_icmp .ge 134, 3) := by decide +kernel
theorem dX10_follow_28 : decode cX10_follow 28 = .ok (.iload 5, 2) := by decide +kernel
theorem dX10_follow_30 : decode cX10_follow 30 = .ok (.bipush 12, 2) := by decide +kernel
theorem dX10_follow_32 : decode cX10_follow 32 = .ok (.if_icmp .ge 127, 3) := by decide +kernel
theorem dX10_follow_35 : decode cX10_follow 35 = .ok (.aload_n 1, 1) := by decide +kernel
theorem dX10_follow_36 : decode cX10_follow 36 = .ok (.getfield 75, 3) := by decide +kernel
theorem dX10_follow_39 : decode cX10_follow 39 = .ok (.iload 5, 2) := by decide +kernel
theorem dX10_follow_41 : decode cX10_follow 41 = .ok (.iaload, 1) := by decide +kernel
theorem dX10_follow_42 : decode cX10_follow 42 = .ok (.istore 6, 2) := by decide +kernel
theorem dX10_follow_44 : decode cX10_follow 44 = .ok (.aload_n 0, 1) := by decide +kernel
theorem dX10_follow_45 : decode cX10_follow 45 = .ok (.getfield 63, 3) := by decide +kernel
theorem dX10_follow_48 : decode cX10_follow 48 = .ok (.iload 6, 2) := by decide +kernel
theorem dX10_follow_50 : decode cX10_follow 50 = .ok (.invokestatic 78, 3) := by decide +kernel
theorem dX10_follow_53 : decode cX10_follow 53 = .ok (.ifCond .ne 30, 3) := by decide +kernel
theorem dX10_follow_56 : decode cX10_follow 56 = .ok (.aload_n 0, 1) := by decide +kernel
theorem dX10_follow_57 : decode cX10_follow 57 = .ok (.dup, 1) := by decide +kernel
theorem dX10_follow_58 : decode cX10_follow 58 = .ok (.getfield 66, 3) := by decide +kernel
theorem dX10_follow_61 : decode cX10_follow 61 = .ok (.iconst 1, 1) := by decide +kernel
theorem dX10_follow_62 : decode cX10_follow 62 = .ok (.iadd, 1) := by decide +kernel
theorem dX10_follow_63 : decode cX10_follow 63 = .ok (.putfield 66, 3) := by decide +kernel
theorem dX10_follow_66 : decode cX10_follow 66 = .ok (.aload_n 0, 1) := by decide +kernel
theorem dX10_follow_67 : decode cX10_follow 67 = .ok (.iconst 0, 1) := by decide +kernel
theorem dX10_follow_68 : decode cX10_follow 68 = .ok (.aload_n 0, 1) := by decide +kernel
theorem dX10_follow_69 : decode cX10_follow 69 = .ok (.getfield 69, 3) := by decide +kernel
theorem dX10_follow_72 : decode cX10_follow 72 = .ok (.iconst 1, 1) := by decide +kernel
theorem dX10_follow_73 : decode cX10_follow 73 = .ok (.isub, 1) := by decide +kernel
theorem dX10_follow_74 : decode cX10_follow 74 = .ok (.invokestatic 82, 3) := by decide +kernel
theorem dX10_follow_77 : decode cX10_follow 77 = .ok (.putfield 69, 3) := by decide +kernel
theorem dX10_follow_80 : decode cX10_follow 80 = .ok (.goto 73, 3) := by decide +kernel
theorem dX10_follow_83 : decode cX10_follow 83 = .ok (.aload_n 0, 1) := by decide +kernel
theorem dX10_follow_84 : decode cX10_follow 84 = .ok (.dup, 1) := by decide +kernel
theorem dX10_follow_85 : decode cX10_follow 85 = .ok (.getfield 66, 3) := by decide +kernel
theorem dX10_follow_88 : decode cX10_follow 88 = .ok (.aload_n 0, 1) := by decide +kernel
theorem dX10_follow_89 : decode cX10_follow 89 = .ok (.getfield 27, 3) := by decide +kernel
theorem dX10_follow_92 : decode cX10_follow 92 = .ok (.iadd, 1) := by decide +kernel
theorem dX10_follow_93 : decode cX10_follow 93 = .ok (.putfield 66, 3) := by decide +kernel
theorem dX10_follow_96 : decode cX10_follow 96 = .ok (.aload_n 0, 1) := by decide +kernel
theorem dX10_follow_97 : decode cX10_follow 97 = .ok (.iload 6, 2) := by decide +kernel
theorem dX10_follow_99 : decode cX10_follow 99 = .ok (.putfield 63, 3) := by decide +kernel
theorem dX10_follow_102 : decode cX10_follow 102 = .ok (.aload_n 0, 1) := by decide +kernel
theorem dX10_follow_103 : decode cX10_follow 103 = .ok (.aload_n 0, 1) := by decide +kernel
theorem dX10_follow_104 : decode cX10_follow 104 = .ok (.iload 6, 2) := by decide +kernel
theorem dX10_follow_106 : decode cX10_follow 106 = .ok (.aload_n 0, 1) := by decide +kernel
theorem dX10_follow_107 : decode cX10_follow 107 = .ok (.getfield 66, 3) := by decide +kernel
theorem dX10_follow_110 : decode cX10_follow 110 = .ok (.invokevirtual 87, 3) := by decide +kernel
theorem dX10_follow_113 : decode cX10_follow 113 = .ok (.aload_n 0, 1) := by decide +kernel
theorem dX10_follow_114 : decode cX10_follow 114 = .ok (.getfield 15, 3) := by decide +kernel
theorem dX10_follow_117 : decode cX10_follow 117 = .ok (.aload_n 0, 1) := by decide +kernel
theorem dX10_follow_118 : decode cX10_follow 118 = .ok (.getfield 66, 3) := by decide +kernel
theorem dX10_follow_121 : decode cX10_follow 121 = .ok (.bipush 12, 2) := by decide +kernel
theorem dX10_follow_123 : decode cX10_follow 123 = .ok (.invokestatic 90, 3) := by decide +kernel
theorem dX10_follow_126 : decode cX10_follow 126 = .ok (.iaload, 1) := by decide +kernel
theorem dX10_follow_127 : decode cX10_follow 127 = .ok (.aload_n 0, 1) := by decide +kernel
theorem dX10_follow_128 : decode cX10_follow 128 = .ok (.getfield 69, 3) := by decide +kernel
theorem dX10_follow_131 : decode cX10_follow 131 = .ok (.invokestatic 93, 3) := by decide +kernel
theorem dX10_follow_134 : decode cX10_follow 134 = .ok (.putfield 69, 3) := by decide +kernel
theorem dX10_follow_137 : decode cX10_follow 137 = .ok (.aload_n 0, 1) := by decide +kernel
theorem dX10_follow_138 : decode cX10_follow 138 = .ok (.getfield 69, 3) := by decide +kernel
theorem dX10_follow_141 : decode cX10_follow 141 = .ok (.iconst 3, 1) := by decide +kernel
theorem dX10_follow_142 : decode cX10_follow 142 = .ok (.if_icmp .lt 11, 3) := by decide +kernel
theorem dX10_follow_145 : decode cX10_follow 145 = .ok (.aload_n 0, 1) := by decide +kernel
theorem dX10_follow_146 : decode cX10_follow 146 = .ok (.iconst 0, 1) := by decide +kernel
theorem dX10_follow_147 : decode cX10_follow 147 = .ok (.putfield 69, 3) := by decide +kernel
theorem dX10_follow_150 : decode cX10_follow 150 = .ok (.iload 5, 2) := by decide +kernel
theorem dX10_follow_152 : decode cX10_follow 152 = .ok (.ireturn, 1) := by decide +kernel
theorem dX10_follow_153 : decode cX10_follow 153 = .ok (.iinc 5 1, 3) := by decide +kernel
theorem dX10_follow_156 : decode cX10_follow 156 = .ok (.goto (-137), 3) := by decide +kernel
theorem dX10_follow_159 : decode cX10_follow 159 = .ok (.bipush (-5), 2) := by decide +kernel
theorem dX10_follow_161 : decode cX10_follow 161 = .ok (.ireturn, 1) := by decide +kernel
theorem dX10_fewest_0 : decode cX10_fewest 0 = .ok (.iload_n 1, 1) := by decide +kernel
theorem dX10_fewest_1 : decode cX10_fewest 1 = .ok (.invokestatic 49, 3) := by decide +kernel
theorem dX10_fewest_4 : decode cX10_fewest 4 = .ok (.ifCond .ne 6, 3) := by decide +kernel
theorem dX10_fewest_7 : decode cX10_fewest 7 = .ok (.bipush (-5), 2) := by decide +kernel
theorem dX10_fewest_9 : decode cX10_fewest 9 = .ok (.ireturn, 1) := by decide +kernel
theorem dX10_fewest_10 : decode cX10_fewest 10 = .ok (.iconst 0, 1) := by decide +kernel
theorem dX10_fewest_11 : decode cX10_fewest 11 = .ok (.istore 5, 2) := by decide +kernel
theorem dX10_fewest_13 : decode cX10_fewest 13 = .ok (.iload 5, 2) := by decide +kernel
theorem dX10_fewest_15 : decode cX10_fewest 15 = .ok (.aload_n 0, 1) := by decide +kernel
theorem dX10_fewest_16 : decode cX10_fewest 16 = .ok (.getfield 18, 3) := by decide +kernel
theorem dX10_fewest_19 : decode cX10_fewest 19 = .ok (.arraylength, 1) := by decide +kernel
theorem dX10_fewest_20 : decode cX10_fewest 20 = .ok (.if_icmp .ge 17, 3) := by decide +kernel
theorem dX10_fewest_23 : decode cX10_fewest 23 = .ok (.aload_n 0, 1) := by decide +kernel
theorem dX10_fewest_24 : decode cX10_fewest 24 = .ok (.getfield 18, 3) := by decide +kernel
theorem dX10_fewest_27 : decode cX10_fewest 27 = .ok (.iload 5, 2) := by decide +kernel
theorem dX10_fewest_29 : decode cX10_fewest 29 = .ok (.iconst 3, 1) := by decide +kernel
theorem dX10_fewest_30 : decode cX10_fewest 30 = .ok (.iastore, 1) := by decide +kernel
theorem dX10_fewest_31 : decode cX10_fewest 31 = .ok (.iinc 5 1, 3) := by decide +kernel
theorem dX10_fewest_34 : decode cX10_fewest 34 = .ok (.goto (-21), 3) := by decide +kernel
theorem dX10_fewest_37 : decode cX10_fewest 37 = .ok (.aload_n 0, 1) := by decide +kernel
theorem dX10_fewest_38 : decode cX10_fewest 38 = .ok (.getfield 18, 3) := by decide +kernel
theorem dX10_fewest_41 : decode cX10_fewest 41 = .ok (.iload_n 1, 1) := by decide +kernel
theorem dX10_fewest_42 : decode cX10_fewest 42 = .ok (.iload_n 3, 1) := by decide +kernel
theorem dX10_fewest_43 : decode cX10_fewest 43 = .ok (.iastore, 1) := by decide +kernel
theorem dX10_fewest_44 : decode cX10_fewest 44 = .ok (.iconst 0, 1) := by decide +kernel
theorem dX10_fewest_45 : decode cX10_fewest 45 = .ok (.istore 5, 2) := by decide +kernel
theorem dX10_fewest_47 : decode cX10_fewest 47 = .ok (.iload 5, 2) := by decide +kernel
theorem dX10_fewest_49 : decode cX10_fewest 49 = .ok (.bipush 30, 2) := by decide +kernel
theorem dX10_fewest_51 : decode cX10_fewest 51 = .ok (.if_icmp .gt 78, 3) := by decide +kernel
theorem dX10_fewest_54 : decode cX10_fewest 54 = .ok (.aload_n 0, 1) := by decide +kernel
theorem dX10_fewest_55 : decode cX10_fewest 55 = .ok (.iload 5, 2) := by decide +kernel
theorem dX10_fewest_57 : decode cX10_fewest 57 = .ok (.aload_n 0, 1) := by decide +kernel
theorem dX10_fewest_58 : decode cX10_fewest 58 = .ok (.getfield 35, 3) := by decide +kernel
theorem dX10_fewest_61 : decode cX10_fewest 61 = .ok (.invokevirtual 97, 3) := by decide +kernel
theorem dX10_fewest_64 : decode cX10_fewest 64 = .ok (.iconst 3, 1) := by decide +kernel
theorem dX10_fewest_65 : decode cX10_fewest 65 = .ok (.if_icmp .ge 6, 3) := by decide +kernel
theorem dX10_fewest_68 : decode cX10_fewest 68 = .ok (.iload 5, 2) := by decide +kernel
theorem dX10_fewest_70 : decode cX10_fewest 70 = .ok (.ireturn, 1) := by decide +kernel
theorem dX10_fewest_71 : decode cX10_fewest 71 = .ok (.iload_n 2, 1) := by decide +kernel
theorem dX10_fewest_72 : decode cX10_fewest 72 = .ok (.iload 5, 2) := by decide +kernel
theorem dX10_fewest_74 : decode cX10_fewest 74 = .ok (.iadd, 1) := by decide +kernel
theorem dX10_fewest_75 : decode cX10_fewest 75 = .ok (.aload_n 0, 1) := by decide +kernel
theorem dX10_fewest_76 : decode cX10_fewest 76 = .ok (.getfield 27, 3) := by decide +kernel
theorem dX10_fewest_79 : decode cX10_fewest 79 = .ok (.iadd, 1) := by decide +kernel
theorem dX10_fewest_80 : decode cX10_fewest 80 = .ok (.bipush 12, 2) := by decide +kernel
theorem dX10_fewest_82 : decode cX10_fewest 82 = .ok (.invokestatic 90, 3) := by decide +kernel
theorem dX10_fewest_85 : decode cX10_fewest 85 = .ok (.istore 6, 2) := by decide +kernel
theorem dX10_fewest_87 : decode cX10_fewest 87 = .ok (.iconst 0, 1) := by decide +kernel
theorem dX10_fewest_88 : decode cX10_fewest 88 = .ok (.istore 7, 2) := by decide +kernel
theorem dX10_fewest_90 : decode cX10_fewest 90 = .ok (.iload 7, 2) := by decide +kernel
theorem dX10_fewest_92 : decode cX10_fewest 92 = .ok (.bipush 12, 2) := by decide +kernel
theorem dX10_fewest_94 : decode cX10_fewest 94 = .ok (.if_icmp .ge 29, 3) := by decide +kernel
theorem dX10_fewest_97 : decode cX10_fewest 97 = .ok (.aload_n 0, 1) := by decide +kernel
theorem dX10_fewest_98 : decode cX10_fewest 98 = .ok (.iload 5, 2) := by decide +kernel
theorem dX10_fewest_100 : decode cX10_fewest 100 = .ok (.iload 7, 2) := by decide +kernel
theorem dX10_fewest_102 : decode cX10_fewest 102 = .ok (.iload 6, 2) := by decide +kernel
theorem dX10_fewest_104 : decode cX10_fewest 104 = .ok (.aload_n 0, 1) := by decide +kernel
theorem dX10_fewest_105 : decode cX10_fewest 105 = .ok (.getfield 15, 3) := by decide +kernel
theorem dX10_fewest_108 : decode cX10_fewest 108 = .ok (.iload 6, 2) := by decide +kernel
theorem dX10_fewest_110 : decode cX10_fewest 110 = .ok (.iaload, 1) := by decide +kernel
theorem dX10_fewest_111 : decode cX10_fewest 111 = .ok (.iload 4, 2) := by decide +kernel
theorem dX10_fewest_113 : decode cX10_fewest 113 = .ok (.iadd, 1) := by decide +kernel
theorem dX10_fewest_114 : decode cX10_fewest 114 = .ok (.invokevirtual 100, 3) := by decide +kernel
theorem dX10_fewest_117 : decode cX10_fewest 117 = .ok (.iinc 7 1, 3) := by decide +kernel
theorem dX10_fewest_120 : decode cX10_fewest 120 = .ok (.goto (-30), 3) := by decide +kernel
theorem dX10_fewest_123 : decode cX10_fewest 123 = .ok (.iinc 5 1, 3) := by decide +kernel
theorem dX10_fewest_126 : decode cX10_fewest 126 = .ok (.goto (-79), 3) := by decide +kernel
theorem dX10_fewest_129 : decode cX10_fewest 129 = .ok (.bipush (-5), 2) := by decide +kernel
theorem dX10_fewest_131 : decode cX10_fewest 131 = .ok (.ireturn, 1) := by decide +kernel
theorem dX10_spread_0 : decode cX10_spread 0 = .ok (.aload_n 0, 1) := by decide +kernel
theorem dX10_spread_1 : decode cX10_spread 1 = .ok (.iload_n 1, 1) := by decide +kernel
theorem dX10_spread_2 : decode cX10_spread 2 = .ok (.iload_n 2, 1) := by decide +kernel
theorem dX10_spread_3 : decode cX10_spread 3 = .ok (.invokevirtual 97, 3) := by decide +kernel
theorem dX10_spread_6 : decode cX10_spread 6 = .ok (.istore 5, 2) := by decide +kernel
theorem dX10_spread_8 : decode cX10_spread 8 = .ok (.iload 5, 2) := by decide +kernel
theorem dX10_spread_10 : decode cX10_spread 10 = .ok (.iconst 3, 1) := by decide +kernel
theorem dX10_spread_11 : decode cX10_spread 11 = .ok (.if_icmp .lt 4, 3) := by decide +kernel
theorem dX10_spread_14 : decode cX10_spread 14 = .ok (.return_, 1) := by decide +kernel
theorem dX10_spread_15 : decode cX10_spread 15 = .ok (.aload_n 0, 1) := by decide +kernel
theorem dX10_spread_16 : decode cX10_spread 16 = .ok (.iload_n 1, 1) := by decide +kernel
theorem dX10_spread_17 : decode cX10_spread 17 = .ok (.iconst 1, 1) := by decide +kernel
theorem dX10_spread_18 : decode cX10_spread 18 = .ok (.iadd, 1) := by decide +kernel
theorem dX10_spread_19 : decode cX10_spread 19 = .ok (.iload_n 2, 1) := by decide +kernel
theorem dX10_spread_20 : decode cX10_spread 20 = .ok (.iconst 0, 1) := by decide +kernel
theorem dX10_spread_21 : decode cX10_spread 21 = .ok (.iload 5, 2) := by decide +kernel
theorem dX10_spread_23 : decode cX10_spread 23 = .ok (.iconst 1, 1) := by decide +kernel
theorem dX10_spread_24 : decode cX10_spread 24 = .ok (.isub, 1) := by decide +kernel
theorem dX10_spread_25 : decode cX10_spread 25 = .ok (.invokestatic 82, 3) := by decide +kernel
theorem dX10_spread_28 : decode cX10_spread 28 = .ok (.invokevirtual 104, 3) := by decide +kernel
theorem dX10_spread_31 : decode cX10_spread 31 = .ok (.iconst 0, 1) := by decide +kernel
theorem dX10_spread_32 : decode cX10_spread 32 = .ok (.istore 6, 2) := by decide +kernel
theorem dX10_spread_34 : decode cX10_spread 34 = .ok (.iload 6, 2) := by decide +kernel
theorem dX10_spread_36 : decode cX10_spread 36 = .ok (.iconst 3, 1) := by decide +kernel
theorem dX10_spread_37 : decode cX10_spread 37 = .ok (.if_icmp .ge 51, 3) := by decide +kernel
theorem dX10_spread_40 : decode cX10_spread 40 = .ok (.iload_n 2, 1) := by decide +kernel
theorem dX10_spread_41 : decode cX10_spread 41 = .ok (.iload 6, 2) := by decide +kernel
theorem dX10_spread_43 : decode cX10_spread 43 = .ok (.invokestatic 108, 3) := by decide +kernel
theorem dX10_spread_46 : decode cX10_spread 46 = .ok (.istore 7, 2) := by decide +kernel
theorem dX10_spread_48 : decode cX10_spread 48 = .ok (.iload 7, 2) := by decide +kernel
theorem dX10_spread_50 : decode cX10_spread 50 = .ok (.invokestatic 49, 3) := by decide +kernel
theorem dX10_spread_53 : decode cX10_spread 53 = .ok (.ifCond .eq 29, 3) := by decide +kernel
theorem dX10_spread_56 : decode cX10_spread 56 = .ok (.aload_n 0, 1) := by decide +kernel
theorem dX10_spread_57 : decode cX10_spread 57 = .ok (.iload_n 1, 1) := by decide +kernel
theorem dX10_spread_58 : decode cX10_spread 58 = .ok (.aload_n 0, 1) := by decide +kernel
theorem dX10_spread_59 : decode cX10_spread 59 = .ok (.getfield 27, 3) := by decide +kernel
theorem dX10_spread_62 : decode cX10_spread 62 = .ok (.iadd, 1) := by decide +kernel
theorem dX10_spread_63 : decode cX10_spread 63 = .ok (.iload 7, 2) := by decide +kernel
theorem dX10_spread_65 : decode cX10_spread 65 = .ok (.aload_n 0, 1) := by decide +kernel
theorem dX10_spread_66 : decode cX10_spread 66 = .ok (.iload 7, 2) := by decide +kernel
theorem dX10_spread_68 : decode cX10_spread 68 = .ok (.iload_n 3, 1) := by decide +kernel
theorem dX10_spread_69 : decode cX10_spread 69 = .ok (.invokevirtual 87, 3) := by decide +kernel
theorem dX10_spread_72 : decode cX10_spread 72 = .ok (.iload 4, 2) := by decide +kernel
theorem dX10_spread_74 : decode cX10_spread 74 = .ok (.iload 5, 2) := by decide +kernel
theorem dX10_spread_76 : decode cX10_spread 76 = .ok (.invokestatic 93, 3) := by decide +kernel
theorem dX10_spread_79 : decode cX10_spread 79 = .ok (.invokevirtual 104, 3) := by decide +kernel
theorem dX10_spread_82 : decode cX10_spread 82 = .ok (.iinc 6 1, 3) := by decide +kernel
theorem dX10_spread_85 : decode cX10_spread 85 = .ok (.goto (-51), 3) := by decide +kernel
theorem dX10_spread_88 : decode cX10_spread 88 = .ok (.return_, 1) := by decide +kernel
theorem dX10_leastAt_0 : decode cX10_leastAt 0 = .ok (.iload_n 1, 1) := by decide +kernel
theorem dX10_leastAt_1 : decode cX10_leastAt 1 = .ok (.bipush 12, 2) := by decide +kernel
theorem dX10_leastAt_3 : decode cX10_leastAt 3 = .ok (.imul, 1) := by decide +kernel
theorem dX10_leastAt_4 : decode cX10_leastAt 4 = .ok (.iload_n 2, 1) := by decide +kernel
theorem dX10_leastAt_5 : decode cX10_leastAt 5 = .ok (.iadd, 1) := by decide +kernel
theorem dX10_leastAt_6 : decode cX10_leastAt 6 = .ok (.istore_n 3, 1) := by decide +kernel
theorem dX10_leastAt_7 : decode cX10_leastAt 7 = .ok (.iload_n 3, 1) := by decide +kernel
theorem dX10_leastAt_8 : decode cX10_leastAt 8 = .ok (.ifCond .lt 21, 3) := by decide +kernel
theorem dX10_leastAt_11 : decode cX10_leastAt 11 = .ok (.iload_n 3, 1) := by decide +kernel
theorem dX10_leastAt_12 : decode cX10_leastAt 12 = .ok (.aload_n 0, 1) := by decide +kernel
theorem dX10_leastAt_13 : decode cX10_leastAt 13 = .ok (.getfield 18, 3) := by decide +kernel
theorem dX10_leastAt_16 : decode cX10_leastAt 16 = .ok (.arraylength, 1) := by decide +kernel
theorem dX10_leastAt_17 : decode cX10_leastAt 17 = .ok (.if_icmp .ge 12, 3) := by decide +kernel
theorem dX10_leastAt_20 : decode cX10_leastAt 20 = .ok (.aload_n 0, 1) := by decide +kernel
theorem dX10_leastAt_21 : decode cX10_leastAt 21 = .ok (.getfield 18, 3) := by decide +kernel
theorem dX10_leastAt_24 : decode cX10_leastAt 24 = .ok (.iload_n 3, 1) := by decide +kernel
theorem dX10_leastAt_25 : decode cX10_leastAt 25 = .ok (.iaload, 1) := by decide +kernel
theorem dX10_leastAt_26 : decode cX10_leastAt 26 = .ok (.goto 4, 3) := by decide +kernel
theorem dX10_leastAt_29 : decode cX10_leastAt 29 = .ok (.iconst 3, 1) := by decide +kernel
theorem dX10_leastAt_30 : decode cX10_leastAt 30 = .ok (.ireturn, 1) := by decide +kernel
theorem dX10_lower_0 : decode cX10_lower 0 = .ok (.iload_n 1, 1) := by decide +kernel
theorem dX10_lower_1 : decode cX10_lower 1 = .ok (.bipush 12, 2) := by decide +kernel
theorem dX10_lower_3 : decode cX10_lower 3 = .ok (.imul, 1) := by decide +kernel
theorem dX10_lower_4 : decode cX10_lower 4 = .ok (.iload_n 2, 1) := by decide +kernel
theorem dX10_lower_5 : decode cX10_lower 5 = .ok (.iadd, 1) := by decide +kernel
theorem dX10_lower_6 : decode cX10_lower 6 = .ok (.istore 4, 2) := by decide +kernel
theorem dX10_lower_8 : decode cX10_lower 8 = .ok (.iload 4, 2) := by decide +kernel
theorem dX10_lower_10 : decode cX10_lower 10 = .ok (.ifCond .lt 32, 3) := by decide +kernel
theorem dX10_lower_13 : decode cX10_lower 13 = .ok (.iload 4, 2) := by decide +kernel
theorem dX10_lower_15 : decode cX10_lower 15 = .ok (.aload_n 0, 1) := by decide +kernel
theorem dX10_lower_16 : decode cX10_lower 16 = .ok (.getfield 18, 3) := by decide +kernel
theorem dX10_lower_19 : decode cX10_lower 19 = .ok (.arraylength, 1) := by decide +kernel
theorem dX10_lower_20 : decode cX10_lower 20 = .ok (.if_icmp .ge 22, 3) := by decide +kernel
theorem dX10_lower_23 : decode cX10_lower 23 = .ok (.iload_n 3, 1) := by decide +kernel
theorem dX10_lower_24 : decode cX10_lower 24 = .ok (.aload_n 0, 1) := by decide +kernel
theorem dX10_lower_25 : decode cX10_lower 25 = .ok (.getfield 18, 3) := by decide +kernel
theorem dX10_lower_28 : decode cX10_lower 28 = .ok (.iload 4, 2) := by decide +kernel
theorem dX10_lower_30 : decode cX10_lower 30 = .ok (.iaload, 1) := by decide +kernel
theorem dX10_lower_31 : decode cX10_lower 31 = .ok (.if_icmp .ge 11, 3) := by decide +kernel
theorem dX10_lower_34 : decode cX10_lower 34 = .ok (.aload_n 0, 1) := by decide +kernel
theorem dX10_lower_35 : decode cX10_lower 35 = .ok (.getfield 18, 3) := by decide +kernel
theorem dX10_lower_38 : decode cX10_lower 38 = .ok (.iload 4, 2) := by decide +kernel
theorem dX10_lower_40 : decode cX10_lower 40 = .ok (.iload_n 3, 1) := by decide +kernel
theorem dX10_lower_41 : decode cX10_lower 41 = .ok (.iastore, 1) := by decide +kernel
theorem dX10_lower_42 : decode cX10_lower 42 = .ok (.return_, 1) := by decide +kernel
theorem dX10_noiseAt_0 : decode cX10_noiseAt 0 = .ok (.iload_n 2, 1) := by decide +kernel
theorem dX10_noiseAt_1 : decode cX10_noiseAt 1 = .ok (.bipush 12, 2) := by decide +kernel
theorem dX10_noiseAt_3 : decode cX10_noiseAt 3 = .ok (.invokestatic 90, 3) := by decide +kernel
theorem dX10_noiseAt_6 : decode cX10_noiseAt 6 = .ok (.bipush 12, 2) := by decide +kernel
theorem dX10_noiseAt_8 : decode cX10_noiseAt 8 = .ok (.imul, 1) := by decide +kernel
theorem dX10_noiseAt_9 : decode cX10_noiseAt 9 = .ok (.iload_n 1, 1) := by decide +kernel
theorem dX10_noiseAt_10 : decode cX10_noiseAt 10 = .ok (.iadd, 1) := by decide +kernel
theorem dX10_noiseAt_11 : decode cX10_noiseAt 11 = .ok (.istore_n 3, 1) := by decide +kernel
theorem dX10_noiseAt_12 : decode cX10_noiseAt 12 = .ok (.iload_n 3, 1) := by decide +kernel
theorem dX10_noiseAt_13 : decode cX10_noiseAt 13 = .ok (.ifCond .lt 21, 3) := by decide +kernel
theorem dX10_noiseAt_16 : decode cX10_noiseAt 16 = .ok (.iload_n 3, 1) := by decide +kernel
theorem dX10_noiseAt_17 : decode cX10_noiseAt 17 = .ok (.aload_n 0, 1) := by decide +kernel
theorem dX10_noiseAt_18 : decode cX10_noiseAt 18 = .ok (.getfield 9, 3) := by decide +kernel
theorem dX10_noiseAt_21 : decode cX10_noiseAt 21 = .ok (.arraylength, 1) := by decide +kernel
theorem dX10_noiseAt_22 : decode cX10_noiseAt 22 = .ok (.if_icmp .ge 12, 3) := by decide +kernel
theorem dX10_noiseAt_25 : decode cX10_noiseAt 25 = .ok (.aload_n 0, 1) := by decide +kernel
theorem dX10_noiseAt_26 : decode cX10_noiseAt 26 = .ok (.getfield 9, 3) := by decide +kernel
theorem dX10_noiseAt_29 : decode cX10_noiseAt 29 = .ok (.iload_n 3, 1) := by decide +kernel
theorem dX10_noiseAt_30 : decode cX10_noiseAt 30 = .ok (.iaload, 1) := by decide +kernel
theorem dX10_noiseAt_31 : decode cX10_noiseAt 31 = .ok (.goto 4, 3) := by decide +kernel
theorem dX10_noiseAt_34 : decode cX10_noiseAt 34 = .ok (.iconst 0, 1) := by decide +kernel
theorem dX10_noiseAt_35 : decode cX10_noiseAt 35 = .ok (.ireturn, 1) := by decide +kernel
theorem dX10_seekQuietest_0 : decode cX10_seekQuietest 0 = .ok (.aload_n 0, 1) := by decide +kernel
theorem dX10_seekQuietest_1 : decode cX10_seekQuietest 1 = .ok (.ldc 111, 2) := by decide +kernel
theorem dX10_seekQuietest_3 : decode cX10_seekQuietest 3 = .ok (.putfield 112, 3) := by decide +kernel
theorem dX10_seekQuietest_6 : decode cX10_seekQuietest 6 = .ok (.aload_n 0, 1) := by decide +kernel
theorem dX10_seekQuietest_7 : decode cX10_seekQuietest 7 = .ok (.iconst 0, 1) := by decide +kernel
theorem dX10_seekQuietest_8 : decode cX10_seekQuietest 8 = .ok (.putfield 115, 3) := by decide +kernel
theorem dX10_seekQuietest_11 : decode cX10_seekQuietest 11 = .ok (.aload_n 0, 1) := by decide +kernel
theorem dX10_seekQuietest_12 : decode cX10_seekQuietest 12 = .ok (.iload_n 1, 1) := by decide +kernel
theorem dX10_seekQuietest_13 : decode cX10_seekQuietest 13 = .ok (.iload_n 2, 1) := by decide +kernel
theorem dX10_seekQuietest_14 : decode cX10_seekQuietest 14 = .ok (.iconst 1, 1) := by decide +kernel
theorem dX10_seekQuietest_15 : decode cX10_seekQuietest 15 = .ok (.iload_n 1, 1) := by decide +kernel
theorem dX10_seekQuietest_16 : decode cX10_seekQuietest 16 = .ok (.ishl, 1) := by decide +kernel
theorem dX10_seekQuietest_17 : decode cX10_seekQuietest 17 = .ok (.iconst 0, 1) := by decide +kernel
theorem dX10_seekQuietest_18 : decode cX10_seekQuietest 18 = .ok (.iconst 0, 1) := by decide +kernel
theorem dX10_seekQuietest_19 : decode cX10_seekQuietest 19 = .ok (.invokevirtual 118, 3) := by decide +kernel
theorem dX10_seekQuietest_22 : decode cX10_seekQuietest 22 = .ok (.return_, 1) := by decide +kernel
theorem dX10_seekAt_0 : decode cX10_seekAt 0 = .ok (.iload_n 1, 1) := by decide +kernel
theorem dX10_seekAt_1 : decode cX10_seekAt 1 = .ok (.aload_n 0, 1) := by decide +kernel
theorem dX10_seekAt_2 : decode cX10_seekAt 2 = .ok (.getfield 35, 3) := by decide +kernel
theorem dX10_seekAt_5 : decode cX10_seekAt 5 = .ok (.if_icmp .ne 45, 3) := by decide +kernel
theorem dX10_seekAt_8 : decode cX10_seekAt 8 = .ok (.iload 5, 2) := by decide +kernel
theorem dX10_seekAt_10 : decode cX10_seekAt 10 = .ok (.aload_n 0, 1) := by decide +kernel
theorem dX10_seekAt_11 : decode cX10_seekAt 11 = .ok (.getfield 112, 3) := by decide +kernel
theorem dX10_seekAt_14 : decode cX10_seekAt 14 = .ok (.if_icmp .lt 21, 3) := by decide +kernel
theorem dX10_seekAt_17 : decode cX10_seekAt 17 = .ok (.iload 5, 2) := by decide +kernel
theorem dX10_seekAt_19 : decode cX10_seekAt 19 = .ok (.aload_n 0, 1) := by decide +kernel
theorem dX10_seekAt_20 : decode cX10_seekAt 20 = .ok (.getfield 112, 3) := by decide +kernel
theorem dX10_seekAt_23 : decode cX10_seekAt 23 = .ok (.if_icmp .ne 52, 3) := by decide +kernel
theorem dX10_seekAt_26 : decode cX10_seekAt 26 = .ok (.iload 4, 2) := by decide +kernel
theorem dX10_seekAt_28 : decode cX10_seekAt 28 = .ok (.aload_n 0, 1) := by decide +kernel
theorem dX10_seekAt_29 : decode cX10_seekAt 29 = .ok (.getfield 115, 3) := by decide +kernel
theorem dX10_seekAt_32 : decode cX10_seekAt 32 = .ok (.if_icmp .ge 43, 3) := by decide +kernel
theorem dX10_seekAt_35 : decode cX10_seekAt 35 = .ok (.aload_n 0, 1) := by decide +kernel
theorem dX10_seekAt_36 : decode cX10_seekAt 36 = .ok (.iload 5, 2) := by decide +kernel
theorem dX10_seekAt_38 : decode cX10_seekAt 38 = .ok (.putfield 112, 3) := by decide +kernel
theorem dX10_seekAt_41 : decode cX10_seekAt 41 = .ok (.aload_n 0, 1) := by decide +kernel
theorem dX10_seekAt_42 : decode cX10_seekAt 42 = .ok (.iload 4, 2) := by decide +kernel
theorem dX10_seekAt_44 : decode cX10_seekAt 44 = .ok (.putfield 115, 3) := by decide +kernel
theorem dX10_seekAt_47 : decode cX10_seekAt 47 = .ok (.goto 28, 3) := by decide +kernel
theorem dX10_seekAt_50 : decode cX10_seekAt 50 = .ok (.iload 4, 2) := by decide +kernel
theorem dX10_seekAt_52 : decode cX10_seekAt 52 = .ok (.bipush 8, 2) := by decide +kernel
theorem dX10_seekAt_54 : decode cX10_seekAt 54 = .ok (.if_icmp .ge 21, 3) := by decide +kernel
theorem dX10_seekAt_57 : decode cX10_seekAt 57 = .ok (.aload_n 0, 1) := by decide +kernel
theorem dX10_seekAt_58 : decode cX10_seekAt 58 = .ok (.iload_n 1, 1) := by decide +kernel
theorem dX10_seekAt_59 : decode cX10_seekAt 59 = .ok (.iload_n 2, 1) := by decide +kernel
theorem dX10_seekAt_60 : decode cX10_seekAt 60 = .ok (.aload_n 0, 1) := by decide +kernel
theorem dX10_seekAt_61 : decode cX10_seekAt 61 = .ok (.getfield 27, 3) := by decide +kernel
theorem dX10_seekAt_64 : decode cX10_seekAt 64 = .ok (.iadd, 1) := by decide +kernel
theorem dX10_seekAt_65 : decode cX10_seekAt 65 = .ok (.iload_n 3, 1) := by decide +kernel
theorem dX10_seekAt_66 : decode cX10_seekAt 66 = .ok (.iload 4, 2) := by decide +kernel
theorem dX10_seekAt_68 : decode cX10_seekAt 68 = .ok (.iconst 1, 1) := by decide +kernel
theorem dX10_seekAt_69 : decode cX10_seekAt 69 = .ok (.iadd, 1) := by decide +kernel
theorem dX10_seekAt_70 : decode cX10_seekAt 70 = .ok (.iload 5, 2) := by decide +kernel
theorem dX10_seekAt_72 : decode cX10_seekAt 72 = .ok (.invokevirtual 122, 3) := by decide +kernel
theorem dX10_seekAt_75 : decode cX10_seekAt 75 = .ok (.return_, 1) := by decide +kernel
theorem dX10_seekBeside_0 : decode cX10_seekBeside 0 = .ok (.iconst 0, 1) := by decide +kernel
theorem dX10_seekBeside_1 : decode cX10_seekBeside 1 = .ok (.istore 6, 2) := by decide +kernel
theorem dX10_seekBeside_3 : decode cX10_seekBeside 3 = .ok (.iload 6, 2) := by decide +kernel
theorem dX10_seekBeside_5 : decode cX10_seekBeside 5 = .ok (.iconst 3, 1) := by decide +kernel
theorem dX10_seekBeside_6 : decode cX10_seekBeside 6 = .ok (.if_icmp .ge 59, 3) := by decide +kernel
theorem dX10_seekBeside_9 : decode cX10_seekBeside 9 = .ok (.iload_n 1, 1) := by decide +kernel
theorem dX10_seekBeside_10 : decode cX10_seekBeside 10 = .ok (.iload 6, 2) := by decide +kernel
theorem dX10_seekBeside_12 : decode cX10_seekBeside 12 = .ok (.invokestatic 108, 3) := by decide +kernel
theorem dX10_seekBeside_15 : decode cX10_seekBeside 15 = .ok (.istore 7, 2) := by decide +kernel
theorem dX10_seekBeside_17 : decode cX10_seekBeside 17 = .ok (.iload 7, 2) := by decide +kernel
theorem dX10_seekBeside_19 : decode cX10_seekBeside 19 = .ok (.invokestatic 49, 3) := by decide +kernel
theorem dX10_seekBeside_22 : decode cX10_seekBeside 22 = .ok (.ifCond .eq 37, 3) := by decide +kernel
theorem dX10_seekBeside_25 : decode cX10_seekBeside 25 = .ok (.iload_n 3, 1) := by decide +kernel
theorem dX10_seekBeside_26 : decode cX10_seekBeside 26 = .ok (.iload 7, 2) := by decide +kernel
theorem dX10_seekBeside_28 : decode cX10_seekBeside 28 = .ok (.ishr, 1) := by decide +kernel
theorem dX10_seekBeside_29 : decode cX10_seekBeside 29 = .ok (.iconst 1, 1) := by decide +kernel
theorem dX10_seekBeside_30 : decode cX10_seekBeside 30 = .ok (.iand, 1) := by decide +kernel
theorem dX10_seekBeside_31 : decode cX10_seekBeside 31 = .ok (.ifCond .ne 28, 3) := by decide +kernel
theorem dX10_seekBeside_34 : decode cX10_seekBeside 34 = .ok (.aload_n 0, 1) := by decide +kernel
theorem dX10_seekBeside_35 : decode cX10_seekBeside 35 = .ok (.iload 7, 2) := by decide +kernel
theorem dX10_seekBeside_37 : decode cX10_seekBeside 37 = .ok (.iload_n 2, 1) := by decide +kernel
theorem dX10_seekBeside_38 : decode cX10_seekBeside 38 = .ok (.iload_n 3, 1) := by decide +kernel
theorem dX10_seekBeside_39 : decode cX10_seekBeside 39 = .ok (.iconst 1, 1) := by decide +kernel
theorem dX10_seekBeside_40 : decode cX10_seekBeside 40 = .ok (.iload 7, 2) := by decide +kernel
theorem dX10_seekBeside_42 : decode cX10_seekBeside 42 = .ok (.ishl, 1) := by decide +kernel
theorem dX10_seekBeside_43 : decode cX10_seekBeside 43 = .ok (.ior, 1) := by decide +kernel
theorem dX10_seekBeside_44 : decode cX10_seekBeside 44 = .ok (.iload 4, 2) := by decide +kernel
theorem dX10_seekBeside_46 : decode cX10_seekBeside 46 = .ok (.iload 5, 2) := by decide +kernel
theorem dX10_seekBeside_48 : decode cX10_seekBeside 48 = .ok (.aload_n 0, 1) := by decide +kernel
theorem dX10_seekBeside_49 : decode cX10_seekBeside 49 = .ok (.iload 7, 2) := by decide +kernel
theorem dX10_seekBeside_51 : decode cX10_seekBeside 51 = .ok (.iload_n 2, 1) := by decide +kernel
theorem dX10_seekBeside_52 : decode cX10_seekBeside 52 = .ok (.invokevirtual 87, 3) := by decide +kernel
theorem dX10_seekBeside_55 : decode cX10_seekBeside 55 = .ok (.iadd, 1) := by decide +kernel
theorem dX10_seekBeside_56 : decode cX10_seekBeside 56 = .ok (.invokevirtual 118, 3) := by decide +kernel
theorem dX10_seekBeside_59 : decode cX10_seekBeside 59 = .ok (.iinc 6 1, 3) := by decide +kernel
theorem dX10_seekBeside_62 : decode cX10_seekBeside 62 = .ok (.goto (-59), 3) := by decide +kernel
theorem dX10_seekBeside_65 : decode cX10_seekBeside 65 = .ok (.return_, 1) := by decide +kernel
theorem dX11_init_0 : decode cX11_init 0 = .ok (.aload_n 0, 1) := by decide +kernel
theorem dX11_init_1 : decode cX11_init 1 = .ok (.invokespecial 3, 3) := by decide +kernel
theorem dX11_init_4 : decode cX11_init 4 = .ok (.aload_n 0, 1) := by decide +kernel
theorem dX11_init_5 : decode cX11_init 5 = .ok (.new 9, 3) := by decide +kernel
theorem dX11_init_8 : decode cX11_init 8 = .ok (.dup, 1) := by decide +kernel
theorem dX11_init_9 : decode cX11_init 9 = .ok (.invokespecial 11, 3) := by decide +kernel
theorem dX11_init_12 : decode cX11_init 12 = .ok (.putfield 12, 3) := by decide +kernel
theorem dX11_init_15 : decode cX11_init 15 = .ok (.aload_n 0, 1) := by decide +kernel
theorem dX11_init_16 : decode cX11_init 16 = .ok (.new 9, 3) := by decide +kernel
theorem dX11_init_19 : decode cX11_init 19 = .ok (.dup, 1) := by decide +kernel
theorem dX11_init_20 : decode cX11_init 20 = .ok (.invokespecial 11, 3) := by decide +kernel
theorem dX11_init_23 : decode cX11_init 23 = .ok (.putfield 18, 3) := by decide +kernel
theorem dX11_init_26 : decode cX11_init 26 = .ok (.aload_n 0, 1) := by decide +kernel
theorem dX11_init_27 : decode cX11_init 27 = .ok (.iconst 4, 1) := by decide +kernel
theorem dX11_init_28 : decode cX11_init 28 = .ok (.anewarray 21, 3) := by decide +kernel
theorem dX11_init_31 : decode cX11_init 31 = .ok (.putfield 23, 3) := by decide +kernel
theorem dX11_init_34 : decode cX11_init 34 = .ok (.aload_n 0, 1) := by decide +kernel
theorem dX11_init_35 : decode cX11_init 35 = .ok (.bipush 6, 2) := by decide +kernel
theorem dX11_init_37 : decode cX11_init 37 = .ok (.anewarray 27, 3) := by decide +kernel
theorem dX11_init_40 : decode cX11_init 40 = .ok (.putfield 29, 3) := by decide +kernel
theorem dX11_init_43 : decode cX11_init 43 = .ok (.aload_n 0, 1) := by decide +kernel
theorem dX11_init_44 : decode cX11_init 44 = .ok (.new 33, 3) := by decide +kernel
theorem dX11_init_47 : decode cX11_init 47 = .ok (.dup, 1) := by decide +kernel
theorem dX11_init_48 : decode cX11_init 48 = .ok (.invokespecial 35, 3) := by decide +kernel
theorem dX11_init_51 : decode cX11_init 51 = .ok (.putfield 36, 3) := by decide +kernel
theorem dX11_init_54 : decode cX11_init 54 = .ok (.aload_n 0, 1) := by decide +kernel
theorem dX11_init_55 : decode cX11_init 55 = .ok (.new 40, 3) := by decide +kernel
theorem dX11_init_58 : decode cX11_init 58 = .ok (.dup, 1) := by decide +kernel
theorem dX11_init_59 : decode cX11_init 59 = .ok (.invokespecial 42, 3) := by decide +kernel
theorem dX11_init_62 : decode cX11_init 62 = .ok (.putfield 43, 3) := by decide +kernel
theorem dX11_init_65 : decode cX11_init 65 = .ok (.aload_n 0, 1) := by decide +kernel
theorem dX11_init_66 : decode cX11_init 66 = .ok (.bipush 6, 2) := by decide +kernel
theorem dX11_init_68 : decode cX11_init 68 = .ok (.newarray .int, 2) := by decide +kernel
theorem dX11_init_70 : decode cX11_init 70 = .ok (.putfield 47, 3) := by decide +kernel
theorem dX11_init_73 : decode cX11_init 73 = .ok (.aload_n 0, 1) := by decide +kernel
theorem dX11_init_74 : decode cX11_init 74 = .ok (.bipush 6, 2) := by decide +kernel
theorem dX11_init_76 : decode cX11_init 76 = .ok (.newarray .int, 2) := by decide +kernel
theorem dX11_init_78 : decode cX11_init 78 = .ok (.putfield 51, 3) := by decide +kernel
theorem dX11_init_81 : decode cX11_init 81 = .ok (.aload_n 0, 1) := by decide +kernel
theorem dX11_init_82 : decode cX11_init 82 = .ok (.bipush 6, 2) := by decide +kernel
theorem dX11_init_84 : decode cX11_init 84 = .ok (.bipush 60, 2) := by decide +kernel
theorem dX11_init_86 : decode cX11_init 86 = .ok (.multianewarray 54 2, 4) := by decide +kernel
theorem dX11_init_90 : decode cX11_init 90 = .ok (.putfield 56, 3) := by decide +kernel
theorem dX11_init_93 : decode cX11_init 93 = .ok (.aload_n 0, 1) := by decide +kernel
theorem dX11_init_94 : decode cX11_init 94 = .ok (.bipush 60, 2) := by decide +kernel
theorem dX11_init_96 : decode cX11_init 96 = .ok (.newarray .long, 2) := by decide +kernel
theorem dX11_init_98 : decode cX11_init 98 = .ok (.putfield 59, 3) := by decide +kernel
theorem dX11_init_101 : decode cX11_init 101 = .ok (.iconst 0, 1) := by decide +kernel
theorem dX11_init_102 : decode cX11_init 102 = .ok (.istore_n 1, 1) := by decide +kernel
theorem dX11_init_103 : decode cX11_init 103 = .ok (.iload_n 1, 1) := by decide +kernel
theorem dX11_init_104 : decode cX11_init 104 = .ok (.bipush 6, 2) := by decide +kernel
theorem dX11_init_106 : decode cX11_init 106 = .ok (.if_icmp .ge 22, 3) := by decide +kernel
theorem dX11_init_109 : decode cX11_init 109 = .ok (.aload_n 0, 1) := by decide +kernel
theorem dX11_init_110 : decode cX11_init 110 = .ok (.getfield 29, 3) := by decide +kernel
theorem dX11_init_113 : decode cX11_init 113 = .ok (.iload_n 1, 1) := by decide +kernel
theorem dX11_init_114 : decode cX11_init 114 = .ok (.new 27, 3) := by decide +kernel
theorem dX11_init_117 : decode cX11_init 117 = .ok (.dup, 1) := by decide +kernel
theorem dX11_init_118 : decode cX11_init 118 = .ok (.invokespecial 63, 3) := by decide +kernel
theorem dX11_init_121 : decode cX11_init 121 = .ok (.aastore, 1) := by decide +kernel
theorem dX11_init_122 : decode cX11_init 122 = .ok (.iinc 1 1, 3) := by decide +kernel
theorem dX11_init_125 : decode cX11_init 125 = .ok (.goto (-22), 3) := by decide +kernel
theorem dX11_init_128 : decode cX11_init 128 = .ok (.iconst 0, 1) := by decide +kernel
theorem dX11_init_129 : decode cX11_init 129 = .ok (.istore_n 1, 1) := by decide +kernel
theorem dX11_init_130 : decode cX11_init 130 = .ok (.iload_n 1, 1) := by decide +kernel
theorem dX11_init_131 : decode cX11_init 131 = .ok (.bipush 6, 2) := by decide +kernel
theorem dX11_init_133 : decode cX11_init 133 = .ok (.if_icmp .ge 16, 3) := by decide +kernel
theorem dX11_init_136 : decode cX11_init 136 = .ok (.aload_n 0, 1) := by decide +kernel
theorem dX11_init_137 : decode cX11_init 137 = .ok (.getfield 47, 3) := by decide +kernel
theorem dX11_init_140 : decode cX11_init 140 = .ok (.iload_n 1, 1) := by decide +kernel
theorem dX11_init_141 : decode cX11_init 141 = .ok (.iconst (-1), 1) := by decide +kernel
theorem dX11_init_142 : decode cX11_init 142 = .ok (.iastore, 1) := by decide +kernel
theorem dX11_init_143 : decode cX11_init 143 = .ok (.iinc 1 1, 3) := by decide +kernel
theorem dX11_init_146 : decode cX11_init 146 = .ok (.goto (-16), 3) := by decide +kernel
theorem dX11_init_149 : decode cX11_init 149 = .ok (.return_, 1) := by decide +kernel
theorem dX11_creak_0 : decode cX11_creak 0 = .ok (.iload_n 1, 1) := by decide +kernel
theorem dX11_creak_1 : decode cX11_creak 1 = .ok (.invokestatic 64, 3) := by decide +kernel
theorem dX11_creak_4 : decode cX11_creak 4 = .ok (.ifCond .ne 5, 3) := by decide +kernel
theorem dX11_creak_7 : decode cX11_creak 7 = .ok (.iconst (-1), 1) := by decide +kernel
theorem dX11_creak_8 : decode cX11_creak 8 = .ok (.ireturn, 1) := by decide +kernel
theorem dX11_creak_9 : decode cX11_creak 9 = .ok (.iload_n 2, 1) := by decide +kernel
theorem dX11_creak_10 : decode cX11_creak 10 = .ok (.ifCond .lt 9, 3) := by decide +kernel
theorem dX11_creak_13 : decode cX11_creak 13 = .ok (.iload_n 2, 1) := by decide +kernel
theorem dX11_creak_14 : decode cX11_creak 14 = .ok (.bipush 9, 2) := by decide +kernel
theorem dX11_creak_16 : decode cX11_creak 16 = .ok (.if_icmp .le 6, 3) := by decide +kernel
theorem dX11_creak_19 : decode cX11_creak 19 = .ok (.bipush (-2), 2) := by decide +kernel
theorem dX11_creak_21 : decode cX11_creak 21 = .ok (.ireturn, 1) := by decide +kernel
theorem dX11_creak_22 : decode cX11_creak 22 = .ok (.aload_n 0, 1) := by decide +kernel
theorem dX11_creak_23 : decode cX11_creak 23 = .ok (.getfield 12, 3) := by decide +kernel
theorem dX11_creak_26 : decode cX11_creak 26 = .ok (.getfield 68, 3) := by decide +kernel
theorem dX11_creak_29 : decode cX11_creak 29 = .ok (.iload_n 1, 1) := by decide +kernel
theorem dX11_creak_30 : decode cX11_creak 30 = .ok (.iaload, 1) := by decide +kernel
theorem dX11_creak_31 : decode cX11_creak 31 = .ok (.istore_n 3, 1) := by decide +kernel
theorem dX11_creak_32 : decode cX11_creak 32 = .ok (.aload_n 0, 1) := by decide +kernel
theorem dX11_creak_33 : decode cX11_creak 33 = .ok (.getfield 12, 3) := by decide +kernel
theorem dX11_creak_36 : decode cX11_creak 36 = .ok (.getfield 68, 3) := by decide +kernel
theorem dX11_creak_39 : decode cX11_creak 39 = .ok (.iload_n 1, 1) := by decide +kernel
theorem dX11_creak_40 : decode cX11_creak 40 = .ok (.iload_n 2, 1) := by decide +kernel
theorem dX11_creak_41 : decode cX11_creak 41 = .ok (.iastore, 1) := by decide +kernel
theorem dX11_creak_42 : decode cX11_creak 42 = .ok (.iload_n 3, 1) := by decide +kernel
theorem dX11_creak_43 : decode cX11_creak 43 = .ok (.ireturn, 1) := by decide +kernel
theorem dX11_toy_0 : decode cX11_toy 0 = .ok (.iload_n 1, 1) := by decide +kernel
theorem dX11_toy_1 : decode cX11_toy 1 = .ok (.invokestatic 64, 3) := by decide +kernel
theorem dX11_toy_4 : decode cX11_toy 4 = .ok (.ifCond .ne 5, 3) := by decide +kernel
theorem dX11_toy_7 : decode cX11_toy 7 = .ok (.iconst (-1), 1) := by decide +kernel
theorem dX11_toy_8 : decode cX11_toy 8 = .ok (.ireturn, 1) := by decide +kernel
theorem dX11_toy_9 : decode cX11_toy 9 = .ok (.aload_n 0, 1) := by decide +kernel
theorem dX11_toy_10 : decode cX11_toy 10 = .ok (.getfield 12, 3) := by decide +kernel
theorem dX11_toy_13 : decode cX11_toy 13 = .ok (.iload_n 1, 1) := by decide +kernel
theorem dX11_toy_14 : decode cX11_toy 14 = .ok (.invokevirtual 71, 3) := by decide +kernel
theorem dX11_toy_17 : decode cX11_toy 17 = .ok (.istore_n 3, 1) := by decide +kernel
theorem dX11_toy_18 : decode cX11_toy 18 = .ok (.iconst 1, 1) := by decide +kernel
theorem dX11_toy_19 : decode cX11_toy 19 = .ok (.iload_n 1, 1) := by decide +kernel
theorem dX11_toy_20 : decode cX11_toy 20 = .ok (.ishl, 1) := by decide +kernel
theorem dX11_toy_21 : decode cX11_toy 21 = .ok (.istore 4, 2) := by decide +kernel
theorem dX11_toy_23 : decode cX11_toy 23 = .ok (.aload_n 0, 1) := by decide +kernel
theorem dX11_toy_24 : decode cX11_toy 24 = .ok (.getfield 12, 3) := by decide +kernel
theorem dX11_toy_27 : decode cX11_toy 27 = .ok (.iload_n 2, 1) := by decide +kernel
theorem dX11_toy_28 : decode cX11_toy 28 = .ok (.ifCond .eq 16, 3) := by decide +kernel
theorem dX11_toy_31 : decode cX11_toy 31 = .ok (.aload_n 0, 1) := by decide +kernel
theorem dX11_toy_32 : decode cX11_toy 32 = .ok (.getfield 12, 3) := by decide +kernel
theorem dX11_toy_35 : decode cX11_toy 35 = .ok (.getfield 75, 3) := by decide +kernel
theorem dX11_toy_38 : decode cX11_toy 38 = .ok (.iload 4, 2) := by decide +kernel
theorem dX11_toy_40 : decode cX11_toy 40 = .ok (.ior, 1) := by decide +kernel
theorem dX11_toy_41 : decode cX11_toy 41 = .ok (.goto 15, 3) := by decide +kernel
theorem dX11_toy_44 : decode cX11_toy 44 = .ok (.aload_n 0, 1) := by decide +kernel
theorem dX11_toy_45 : decode cX11_toy 45 = .ok (.getfield 12, 3) := by decide +kernel
theorem dX11_toy_48 : decode cX11_toy 48 = .ok (.getfield 75, 3) := by decide +kernel
theorem dX11_toy_51 : decode cX11_toy 51 = .ok (.iload 4, 2) := by decide +kernel
theorem dX11_toy_53 : decode cX11_toy 53 = .ok (.iconst (-1), 1) := by decide +kernel
theorem dX11_toy_54 : decode cX11_toy 54 = .ok (.ixor, 1) := by decide +kernel
theorem dX11_toy_55 : decode cX11_toy 55 = .ok (.iand, 1) := by decide +kernel
theorem dX11_toy_56 : decode cX11_toy 56 = .ok (.putfield 75, 3) := by decide +kernel
theorem dX11_toy_59 : decode cX11_toy 59 = .ok (.iload_n 3, 1) := by decide +kernel
theorem dX11_toy_60 : decode cX11_toy 60 = .ok (.ireturn, 1) := by decide +kernel
theorem dX11_door_0 : decode cX11_door 0 = .ok (.iload_n 1, 1) := by decide +kernel
theorem dX11_door_1 : decode cX11_door 1 = .ok (.invokestatic 64, 3) := by decide +kernel
theorem dX11_door_4 : decode cX11_door 4 = .ok (.ifCond .ne 5, 3) := by decide +kernel
theorem dX11_door_7 : decode cX11_door 7 = .ok (.iconst (-1), 1) := by decide +kernel
theorem dX11_door_8 : decode cX11_door 8 = .ok (.ireturn, 1) := by decide +kernel
theorem dX11_door_9 : decode cX11_door 9 = .ok (.aload_n 0, 1) := by decide +kernel
theorem dX11_door_10 : decode cX11_door 10 = .ok (.getfield 12, 3) := by decide +kernel
theorem dX11_door_13 : decode cX11_door 13 = .ok (.getfield 79, 3) := by decide +kernel
theorem dX11_door_16 : decode cX11_door 16 = .ok (.istore_n 2, 1) := by decide +kernel
theorem dX11_door_17 : decode cX11_door 17 = .ok (.aload_n 0, 1) := by decide +kernel
theorem dX11_door_18 : decode cX11_door 18 = .ok (.getfield 12, 3) := by decide +kernel
theorem dX11_door_21 : decode cX11_door 21 = .ok (.iload_n 1, 1) := by decide +kernel
theorem dX11_door_22 : decode cX11_door 22 = .ok (.putfield 79, 3) := by decide +kernel
theorem dX11_door_25 : decode cX11_door 25 = .ok (.iload_n 2, 1) := by decide +kernel
theorem dX11_door_26 : decode cX11_door 26 = .ok (.ireturn, 1) := by decide +kernel
theorem dX11_walker_0 : decode cX11_walker 0 = .ok (.iload_n 1, 1) := by decide +kernel
theorem dX11_walker_1 : decode cX11_walker 1 = .ok (.ifCond .lt 16, 3) := by decide +kernel
theorem dX11_walker_4 : decode cX11_walker 4 = .ok (.iload_n 1, 1) := by decide +kernel
theorem dX11_walker_5 : decode cX11_walker 5 = .ok (.bipush 7, 2) := by decide +kernel
theorem dX11_walker_7 : decode cX11_walker 7 = .ok (.if_icmp .ge 10, 3) := by decide +kernel
theorem dX11_walker_10 : decode cX11_walker 10 = .ok (.iload_n 3, 1) := by decide +kernel
theorem dX11_walker_11 : decode cX11_walker 11 = .ok (.invokestatic 64, 3) := by decide +kernel
theorem dX11_walker_14 : decode cX11_walker 14 = .ok (.ifCond .ne 5, 3) := by decide +kernel
theorem dX11_walker_17 : decode cX11_walker 17 = .ok (.iconst (-1), 1) := by decide +kernel
theorem dX11_walker_18 : decode cX11_walker 18 = .ok (.ireturn, 1) := by decide +kernel
theorem dX11_walker_19 : decode cX11_walker 19 = .ok (.iload_n 2, 1) := by decide +kernel
theorem dX11_walker_20 : decode cX11_walker 20 = .ok (.ifCond .lt 9, 3) := by decide +kernel
theorem dX11_walker_23 : decode cX11_walker 23 = .ok (.iload_n 2, 1) := by decide +kernel
theorem dX11_walker_24 : decode cX11_walker 24 = .ok (.bipush 9, 2) := by decide +kernel
theorem dX11_walker_26 : decode cX11_walker 26 = .ok (.if_icmp .le 6, 3) := by decide +kernel
theorem dX11_walker_29 : decode cX11_walker 29 = .ok (.bipush (-2), 2) := by decide +kernel
theorem dX11_walker_31 : decode cX11_walker 31 = .ok (.ireturn, 1) := by decide +kernel
theorem dX11_walker_32 : decode cX11_walker 32 = .ok (.aload_n 0, 1) := by decide +kernel
theorem dX11_walker_33 : decode cX11_walker 33 = .ok (.getfield 12, 3) := by decide +kernel
theorem dX11_walker_36 : decode cX11_walker 36 = .ok (.getfield 82, 3) := by decide +kernel
theorem dX11_walker_39 : decode cX11_walker 39 = .ok (.istore 4, 2) := by decide +kernel
theorem dX11_walker_41 : decode cX11_walker 41 = .ok (.iload 4, 2) := by decide +kernel
theorem dX11_walker_43 : decode cX11_walker 43 = .ok (.ifCond .lt 9, 3) := by decide +kernel
theorem dX11_walker_46 : decode cX11_walker 46 = .ok (.iload 4, 2) := by decide +kernel
theorem dX11_walker_48 : decode cX11_walker 48 = .ok (.iconst 4, 1) := by decide +kernel
theorem dX11_walker_49 : decode cX11_walker 49 = .ok (.if_icmp .lt 6, 3) := by decide +kernel
theorem dX11_walker_52 : decode cX11_walker 52 = .ok (.bipush (-4), 2) := by decide +kernel
theorem dX11_walker_54 : decode cX11_walker 54 = .ok (.ireturn, 1) := by decide +kernel
theorem dX11_walker_55 : decode cX11_walker 55 = .ok (.aload_n 0, 1) := by decide +kernel
theorem dX11_walker_56 : decode cX11_walker 56 = .ok (.getfield 23, 3) := by decide +kernel
theorem dX11_walker_59 : decode cX11_walker 59 = .ok (.iload 4, 2) := by decide +kernel
theorem dX11_walker_61 : decode cX11_walker 61 = .ok (.iload_n 1, 1) := by decide +kernel
theorem dX11_walker_62 : decode cX11_walker 62 = .ok (.iload 4, 2) := by decide +kernel
theorem dX11_walker_64 : decode cX11_walker 64 = .ok (.iload_n 2, 1) := by decide +kernel
theorem dX11_walker_65 : decode cX11_walker 65 = .ok (.iload_n 3, 1) := by decide +kernel
theorem dX11_walker_66 : decode cX11_walker 66 = .ok (.invokestatic 85, 3) := by decide +kernel
theorem dX11_walker_69 : decode cX11_walker 69 = .ok (.aastore, 1) := by decide +kernel
theorem dX11_walker_70 : decode cX11_walker 70 = .ok (.aload_n 0, 1) := by decide +kernel
theorem dX11_walker_71 : decode cX11_walker 71 = .ok (.getfield 12, 3) := by decide +kernel
theorem dX11_walker_74 : decode cX11_walker 74 = .ok (.iload 4, 2) := by decide +kernel
theorem dX11_walker_76 : decode cX11_walker 76 = .ok (.iconst 1, 1) := by decide +kernel
theorem dX11_walker_77 : decode cX11_walker 77 = .ok (.iadd, 1) := by decide +kernel
theorem dX11_walker_78 : decode cX11_walker 78 = .ok (.putfield 82, 3) := by decide +kernel
theorem dX11_walker_81 : decode cX11_walker 81 = .ok (.iload 4, 2) := by decide +kernel
theorem dX11_walker_83 : decode cX11_walker 83 = .ok (.ireturn, 1) := by decide +kernel
theorem dX11_of_0 : decode cX11_of 0 = .ok (.aload_n 0, 1) := by decide +kernel
theorem dX11_of_1 : decode cX11_of 1 = .ok (.iload_n 1, 1) := by decide +kernel
theorem dX11_of_2 : decode cX11_of 2 = .ok (.invokevirtual 89, 3) := by decide +kernel
theorem dX11_of_5 : decode cX11_of 5 = .ok (.astore_n 3, 1) := by decide +kernel
theorem dX11_of_6 : decode cX11_of 6 = .ok (.aload_n 3, 1) := by decide +kernel
theorem dX11_of_7 : decode cX11_of 7 = .ok (.ifnonnull 5, 3) := by decide +kernel
theorem dX11_of_10 : decode cX11_of 10 = .ok (.iconst (-1), 1) := by decide +kernel
theorem dX11_of_11 : decode cX11_of 11 = .ok (.ireturn, 1) := by decide +kernel
theorem dX11_of_12 : decode cX11_of 12 = .ok (.iload_n 2, 1) := by decide +kernel
theorem dX11_of_13 : decode cX11_of 13 = .ok (.ifCond .ne 8, 3) := by decide +kernel
theorem dX11_of_16 : decode cX11_of 16 = .ok (.aload_n 3, 1) := by decide +kernel
theorem dX11_of_17 : decode cX11_of 17 = .ok (.invokevirtual 93, 3) := by decide +kernel
theorem dX11_of_20 : decode cX11_of 20 = .ok (.ireturn, 1) := by decide +kernel
theorem dX11_of_21 : decode cX11_of 21 = .ok (.iload_n 2, 1) := by decide +kernel
theorem dX11_of_22 : decode cX11_of 22 = .ok (.iconst 1, 1) := by decide +kernel
theorem dX11_of_23 : decode cX11_of 23 = .ok (.if_icmp .ne 8, 3) := by decide +kernel
theorem dX11_of_26 : decode cX11_of 26 = .ok (.aload_n 3, 1) := by decide +kernel
theorem dX11_of_27 : decode cX11_of 27 = .ok (.getfield 97, 3) := by decide +kernel
theorem dX11_of_30 : decode cX11_of 30 = .ok (.ireturn, 1) := by decide +kernel
theorem dX11_of_31 : decode cX11_of 31 = .ok (.iload_n 2, 1) := by decide +kernel
theorem dX11_of_32 : decode cX11_of 32 = .ok (.iconst 2, 1) := by decide +kernel
theorem dX11_of_33 : decode cX11_of 33 = .ok (.if_icmp .ne 8, 3) := by decide +kernel
theorem dX11_of_36 : decode cX11_of 36 = .ok (.aload_n 3, 1) := by decide +kernel
theorem dX11_of_37 : decode cX11_of 37 = .ok (.getfield 100, 3) := by decide +kernel
theorem dX11_of_40 : decode cX11_of 40 = .ok (.ireturn, 1) := by decide +kernel
theorem dX11_of_41 : decode cX11_of 41 = .ok (.iload_n 2, 1) := by decide +kernel
theorem dX11_of_42 : decode cX11_of 42 = .ok (.bipush 10, 2) := by decide +kernel
theorem dX11_of_44 : decode cX11_of 44 = .ok (.if_icmp .lt 9, 3) := by decide +kernel
theorem dX11_of_47 : decode cX11_of 47 = .ok (.iload_n 2, 1) := by decide +kernel
theorem dX11_of_48 : decode cX11_of 48 = .ok (.bipush 22, 2) := by decide +kernel
theorem dX11_of_50 : decode cX11_of 50 = .ok (.if_icmp .lt 5, 3) := by decide +kernel
theorem dX11_of_53 : decode cX11_of 53 = .ok (.iconst (-1), 1) := by decide +kernel
theorem dX11_of_54 : decode cX11_of 54 = .ok (.ireturn, 1) := by decide +kernel
theorem dX11_of_55 : decode cX11_of 55 = .ok (.aload_n 0, 1) := by decide +kernel
theorem dX11_of_56 : decode cX11_of 56 = .ok (.getfield 12, 3) := by decide +kernel
theorem dX11_of_59 : decode cX11_of 59 = .ok (.aload_n 3, 1) := by decide +kernel
theorem dX11_of_60 : decode cX11_of 60 = .ok (.iload_n 2, 1) := by decide +kernel
theorem dX11_of_61 : decode cX11_of 61 = .ok (.bipush 10, 2) := by decide +kernel
theorem dX11_of_63 : decode cX11_of 63 = .ok (.isub, 1) := by decide +kernel
theorem dX11_of_64 : decode cX11_of 64 = .ok (.aload_n 0, 1) := by decide +kernel
theorem dX11_of_65 : decode cX11_of 65 = .ok (.getfield 12, 3) := by decide +kernel
theorem dX11_of_68 : decode cX11_of 68 = .ok (.getfield 103, 3) := by decide +kernel
theorem dX11_of_71 : decode cX11_of 71 = .ok (.invokevirtual 106, 3) := by decide +kernel
theorem dX11_of_74 : decode cX11_of 74 = .ok (.ireturn, 1) := by decide +kernel
theorem dX11_put_0 : decode cX11_put 0 = .ok (.aload_n 0, 1) := by decide +kernel
theorem dX11_put_1 : decode cX11_put 1 = .ok (.iload_n 1, 1) := by decide +kernel
theorem dX11_put_2 : decode cX11_put 2 = .ok (.invokevirtual 89, 3) := by decide +kernel
theorem dX11_put_5 : decode cX11_put 5 = .ok (.astore_n 3, 1) := by decide +kernel
theorem dX11_put_6 : decode cX11_put 6 = .ok (.aload_n 3, 1) := by decide +kernel
theorem dX11_put_7 : decode cX11_put 7 = .ok (.ifnull 10, 3) := by decide +kernel
theorem dX11_put_10 : decode cX11_put 10 = .ok (.iload_n 2, 1) := by decide +kernel
theorem dX11_put_11 : decode cX11_put 11 = .ok (.invokestatic 64, 3) := by decide +kernel
theorem dX11_put_14 : decode cX11_put 14 = .ok (.ifCond .ne 5, 3) := by decide +kernel
theorem dX11_put_17 : decode cX11_put 17 = .ok (.iconst (-1), 1) := by decide +kernel
theorem dX11_put_18 : decode cX11_put 18 = .ok (.ireturn, 1) := by decide +kernel
theorem dX11_put_19 : decode cX11_put 19 = .ok (.aload_n 3, 1) := by decide +kernel
theorem dX11_put_20 : decode cX11_put 20 = .ok (.getfield 100, 3) := by decide +kernel
theorem dX11_put_23 : decode cX11_put 23 = .ok (.istore 4, 2) := by decide +kernel
theorem dX11_put_25 : decode cX11_put 25 = .ok (.aload_n 3, 1) := by decide +kernel
theorem dX11_put_26 : decode cX11_put 26 = .ok (.iload_n 2, 1) := by decide +kernel
theorem dX11_put_27 : decode cX11_put 27 = .ok (.putfield 100, 3) := by decide +kernel
theorem dX11_put_30 : decode cX11_put 30 = .ok (.iload 4, 2) := by decide +kernel
theorem dX11_put_32 : decode cX11_put 32 = .ok (.ireturn, 1) := by decide +kernel
theorem dX11_row_0 : decode cX11_row 0 = .ok (.aload_n 0, 1) := by decide +kernel
theorem dX11_row_1 : decode cX11_row 1 = .ok (.iload_n 1, 1) := by decide +kernel
theorem dX11_row_2 : decode cX11_row 2 = .ok (.invokevirtual 89, 3) := by decide +kernel
theorem dX11_row_5 : decode cX11_row 5 = .ok (.astore 4, 2) := by decide +kernel
theorem dX11_row_7 : decode cX11_row 7 = .ok (.aload 4, 2) := by decide +kernel
theorem dX11_row_9 : decode cX11_row 9 = .ok (.ifnull 12, 3) := by decide +kernel
theorem dX11_row_12 : decode cX11_row 12 = .ok (.iload_n 2, 1) := by decide +kernel
theorem dX11_row_13 : decode cX11_row 13 = .ok (.ifCond .lt 8, 3) := by decide +kernel
theorem dX11_row_16 : decode cX11_row 16 = .ok (.iload_n 2, 1) := by decide +kernel
theorem dX11_row_17 : decode cX11_row 17 = .ok (.iconst 4, 1) := by decide +kernel
theorem dX11_row_18 : decode cX11_row 18 = .ok (.if_icmp .lt 5, 3) := by decide +kernel
theorem dX11_row_21 : decode cX11_row 21 = .ok (.iconst (-1), 1) := by decide +kernel
theorem dX11_row_22 : decode cX11_row 22 = .ok (.ireturn, 1) := by decide +kernel
theorem dX11_row_23 : decode cX11_row 23 = .ok (.iload_n 3, 1) := by decide +kernel
theorem dX11_row_24 : decode cX11_row 24 = .ok (.ifCond .lt 9, 3) := by decide +kernel
theorem dX11_row_27 : decode cX11_row 27 = .ok (.iload_n 3, 1) := by decide +kernel
theorem dX11_row_28 : decode cX11_row 28 = .ok (.bipush 9, 2) := by decide +kernel
theorem dX11_row_30 : decode cX11_row 30 = .ok (.if_icmp .le 6, 3) := by decide +kernel
theorem dX11_row_33 : decode cX11_row 33 = .ok (.bipush (-2), 2) := by decide +kernel
theorem dX11_row_35 : decode cX11_row 35 = .ok (.ireturn, 1) := by decide +kernel
theorem dX11_row_36 : decode cX11_row 36 = .ok (.aload 4, 2) := by decide +kernel
theorem dX11_row_38 : decode cX11_row 38 = .ok (.instanceof 110, 3) := by decide +kernel
theorem dX11_row_41 : decode cX11_row 41 = .ok (.ifCond .eq 30, 3) := by decide +kernel
theorem dX11_row_44 : decode cX11_row 44 = .ok (.aload 4, 2) := by decide +kernel
theorem dX11_row_46 : decode cX11_row 46 = .ok (.checkcast 110, 3) := by decide +kernel
theorem dX11_row_49 : decode cX11_row 49 = .ok (.astore 5, 2) := by decide +kernel
theorem dX11_row_51 : decode cX11_row 51 = .ok (.aload 5, 2) := by decide +kernel
theorem dX11_row_53 : decode cX11_row 53 = .ok (.getfield 112, 3) := by decide +kernel
theorem dX11_row_56 : decode cX11_row 56 = .ok (.iload_n 2, 1) := by decide +kernel
theorem dX11_row_57 : decode cX11_row 57 = .ok (.iaload, 1) := by decide +kernel
theorem dX11_row_58 : decode cX11_row 58 = .ok (.istore 6, 2) := by decide +kernel
theorem dX11_row_60 : decode cX11_row 60 = .ok (.aload 5, 2) := by decide +kernel
theorem dX11_row_62 : decode cX11_row 62 = .ok (.getfield 112, 3) := by decide +kernel
theorem dX11_row_65 : decode cX11_row 65 = .ok (.iload_n 2, 1) := by decide +kernel
theorem dX11_row_66 : decode cX11_row 66 = .ok (.iload_n 3, 1) := by decide +kernel
theorem dX11_row_67 : decode cX11_row 67 = .ok (.iastore, 1) := by decide +kernel
theorem dX11_row_68 : decode cX11_row 68 = .ok (.iload 6, 2) := by decide +kernel
theorem dX11_row_70 : decode cX11_row 70 = .ok (.ireturn, 1) := by decide +kernel
theorem dX11_row_71 : decode cX11_row 71 = .ok (.bipush (-3), 2) := by decide +kernel
theorem dX11_row_73 : decode cX11_row 73 = .ok (.ireturn, 1) := by decide +kernel
theorem dX11_feed_0 : decode cX11_feed 0 = .ok (.iload_n 1, 1) := by decide +kernel
theorem dX11_feed_1 : decode cX11_feed 1 = .ok (.ifCond .lt 9, 3) := by decide +kernel
theorem dX11_feed_4 : decode cX11_feed 4 = .ok (.iload_n 1, 1) := by decide +kernel
theorem dX11_feed_5 : decode cX11_feed 5 = .ok (.bipush 127, 2) := by decide +kernel
theorem dX11_feed_7 : decode cX11_feed 7 = .ok (.if_icmp .le 6, 3) := by decide +kernel
theorem dX11_feed_10 : decode cX11_feed 10 = .ok (.bipush (-2), 2) := by decide +kernel
theorem dX11_feed_12 : decode cX11_feed 12 = .ok (.ireturn, 1) := by decide +kernel
theorem dX11_feed_13 : decode cX11_feed 13 = .ok (.aload_n 0, 1) := by decide +kernel
theorem dX11_feed_14 : decode cX11_feed 14 = .ok (.getfield 36, 3) := by decide +kernel
theorem dX11_feed_17 : decode cX11_feed 17 = .ok (.iload_n 1, 1) := by decide +kernel
theorem dX11_feed_18 : decode cX11_feed 18 = .ok (.i2b, 1) := by decide +kernel
theorem dX11_feed_19 : decode cX11_feed 19 = .ok (.invokevirtual 115, 3) := by decide +kernel
theorem dX11_feed_22 : decode cX11_feed 22 = .ok (.ifCond .eq 13, 3) := by decide +kernel
theorem dX11_feed_25 : decode cX11_feed 25 = .ok (.aload_n 0, 1) := by decide +kernel
theorem dX11_feed_26 : decode cX11_feed 26 = .ok (.getfield 36, 3) := by decide +kernel
theorem dX11_feed_29 : decode cX11_feed 29 = .ok (.getfield 119, 3) := by decide +kernel
theorem dX11_feed_32 : decode cX11_feed 32 = .ok (.goto 5, 3) := by decide +kernel
theorem dX11_feed_35 : decode cX11_feed 35 = .ok (.bipush (-4), 2) := by decide +kernel
theorem dX11_feed_37 : decode cX11_feed 37 = .ok (.ireturn, 1) := by decide +kernel
theorem dX11_night_0 : decode cX11_night 0 = .ok (.aload_n 0, 1) := by decide +kernel
theorem dX11_night_1 : decode cX11_night 1 = .ok (.getfield 122, 3) := by decide +kernel
theorem dX11_night_4 : decode cX11_night 4 = .ok (.ifCond .lt 12, 3) := by decide +kernel
theorem dX11_night_7 : decode cX11_night 7 = .ok (.aload_n 0, 1) := by decide +kernel
theorem dX11_night_8 : decode cX11_night 8 = .ok (.getfield 122, 3) := by decide +kernel
theorem dX11_night_11 : decode cX11_night 11 = .ok (.bipush 6, 2) := by decide +kernel
theorem dX11_night_13 : decode cX11_night 13 = .ok (.if_icmp .lt 6, 3) := by decide +kernel
theorem dX11_night_16 : decode cX11_night 16 = .ok (.bipush (-4), 2) := by decide +kernel
theorem dX11_night_18 : decode cX11_night 18 = .ok (.ireturn, 1) := by decide +kernel
theorem dX11_night_19 : decode cX11_night 19 = .ok (.aload_n 0, 1) := by decide +kernel
theorem dX11_night_20 : decode cX11_night 20 = .ok (.getfield 36, 3) := by decide +kernel
theorem dX11_night_23 : decode cX11_night 23 = .ok (.aload_n 0, 1) := by decide +kernel
theorem dX11_night_24 : decode cX11_night 24 = .ok (.getfield 29, 3) := by decide +kernel
theorem dX11_night_27 : decode cX11_night 27 = .ok (.aload_n 0, 1) := by decide +kernel
theorem dX11_night_28 : decode cX11_night 28 = .ok (.getfield 122, 3) := by decide +kernel
theorem dX11_night_31 : decode cX11_night 31 = .ok (.aaload, 1) := by decide +kernel
theorem dX11_night_32 : decode cX11_night 32 = .ok (.invokevirtual 125, 3) := by decide +kernel
theorem dX11_night_35 : decode cX11_night 35 = .ok (.istore_n 1, 1) := by decide +kernel
theorem dX11_night_36 : decode cX11_night 36 = .ok (.aload_n 0, 1) := by decide +kernel
theorem dX11_night_37 : decode cX11_night 37 = .ok (.getfield 36, 3) := by decide +kernel
theorem dX11_night_40 : decode cX11_night 40 = .ok (.iconst 0, 1) := by decide +kernel
theorem dX11_night_41 : decode cX11_night 41 = .ok (.putfield 119, 3) := by decide +kernel
theorem dX11_night_44 : decode cX11_night 44 = .ok (.iload_n 1, 1) := by decide +kernel
theorem dX11_night_45 : decode cX11_night 45 = .ok (.bipush (-5), 2) := by decide +kernel
theorem dX11_night_47 : decode cX11_night 47 = .ok (.if_icmp .eq 8, 3) := by decide +kernel
theorem dX11_night_50 : decode cX11_night 50 = .ok (.bipush (-10), 2) := by decide +kernel
theorem dX11_night_52 : decode cX11_night 52 = .ok (.iload_n 1, 1) := by decide +kernel
theorem dX11_night_53 : decode cX11_night 53 = .ok (.isub, 1) := by decide +kernel
theorem dX11_night_54 : decode cX11_night 54 = .ok (.ireturn, 1) := by decide +kernel
theorem dX11_night_55 : decode cX11_night 55 = .ok (.aload_n 0, 1) := by decide +kernel
theorem dX11_night_56 : decode cX11_night 56 = .ok (.getfield 12, 3) := by decide +kernel
theorem dX11_night_59 : decode cX11_night 59 = .ok (.aload_n 0, 1) := by decide +kernel
theorem dX11_night_60 : decode cX11_night 60 = .ok (.getfield 29, 3) := by decide +kernel
theorem dX11_night_63 : decode cX11_night 63 = .ok (.aload_n 0, 1) := by decide +kernel
theorem dX11_night_64 : decode cX11_night 64 = .ok (.getfield 122, 3) := by decide +kernel
theorem dX11_night_67 : decode cX11_night 67 = .ok (.aaload, 1) := by decide +kernel
theorem dX11_night_68 : decode cX11_night 68 = .ok (.putfield 129, 3) := by decide +kernel
theorem dX11_night_71 : decode cX11_night 71 = .ok (.aload_n 0, 1) := by decide +kernel
theorem dX11_night_72 : decode cX11_night 72 = .ok (.dup, 1) := by decide +kernel
theorem dX11_night_73 : decode cX11_night 73 = .ok (.getfield 122, 3) := by decide +kernel
theorem dX11_night_76 : decode cX11_night 76 = .ok (.iconst 1, 1) := by decide +kernel
theorem dX11_night_77 : decode cX11_night 77 = .ok (.iadd, 1) := by decide +kernel
theorem dX11_night_78 : decode cX11_night 78 = .ok (.putfield 122, 3) := by decide +kernel
theorem dX11_night_81 : decode cX11_night 81 = .ok (.aload_n 0, 1) := by decide +kernel
theorem dX11_night_82 : decode cX11_night 82 = .ok (.getfield 122, 3) := by decide +kernel
theorem dX11_night_85 : decode cX11_night 85 = .ok (.iconst 1, 1) := by decide +kernel
theorem dX11_night_86 : decode cX11_night 86 = .ok (.isub, 1) := by decide +kernel
theorem dX11_night_87 : decode cX11_night 87 = .ok (.ireturn, 1) := by decide +kernel
theorem dX11_told_0 : decode cX11_told 0 = .ok (.iload_n 1, 1) := by decide +kernel
theorem dX11_told_1 : decode cX11_told 1 = .ok (.tableswitch 102 0 5 #[39, 47, 55, 71, 86, 94], 39) := by decide +kernel
theorem dX11_told_40 : decode cX11_told 40 = .ok (.aload_n 0, 1) := by decide +kernel
theorem dX11_told_41 : decode cX11_told 41 = .ok (.getfield 12, 3) := by decide +kernel
theorem dX11_told_44 : decode cX11_told 44 = .ok (.getfield 103, 3) := by decide +kernel
theorem dX11_told_47 : decode cX11_told 47 = .ok (.ireturn, 1) := by decide +kernel
theorem dX11_told_48 : decode cX11_told 48 = .ok (.aload_n 0, 1) := by decide +kernel
theorem dX11_told_49 : decode cX11_told 49 = .ok (.getfield 12, 3) := by decide +kernel
theorem dX11_told_52 : decode cX11_told 52 = .ok (.getfield 133, 3) := by decide +kernel
theorem dX11_told_55 : decode cX11_told 55 = .ok (.ireturn, 1) := by decide +kernel
theorem dX11_told_56 : decode cX11_told 56 = .ok (.aload_n 0, 1) := by decide +kernel
theorem dX11_told_57 : decode cX11_told 57 = .ok (.getfield 12, 3) := by decide +kernel
theorem dX11_told_60 : decode cX11_told 60 = .ok (.getfield 136, 3) := by decide +kernel
theorem dX11_told_63 : decode cX11_told 63 = .ok (.ifCond .eq 7, 3) := by decide +kernel
theorem dX11_told_66 : decode cX11_told 66 = .ok (.iconst 1, 1) := by decide +kernel
theorem dX11_told_67 : decode cX11_told 67 = .ok (.goto 4, 3) := by decide +kernel
theorem dX11_told_70 : decode cX11_told 70 = .ok (.iconst 0, 1) := by decide +kernel
theorem dX11_told_71 : decode cX11_told 71 = .ok (.ireturn, 1) := by decide +kernel
theorem dX11_told_72 : decode cX11_told 72 = .ok (.aload_n 0, 1) := by decide +kernel
theorem dX11_told_73 : decode cX11_told 73 = .ok (.getfield 12, 3) := by decide +kernel
theorem dX11_told_76 : decode cX11_told 76 = .ok (.aload_n 0, 1) := by decide +kernel
theorem dX11_told_77 : decode cX11_told 77 = .ok (.getfield 12, 3) := by decide +kernel
theorem dX11_told_80 : decode cX11_told 80 = .ok (.getfield 103, 3) := by decide +kernel
theorem dX11_told_83 : decode cX11_told 83 = .ok (.invokevirtual 140, 3) := by decide +kernel
theorem dX11_told_86 : decode cX11_told 86 = .ok (.ireturn, 1) := by decide +kernel
theorem dX11_told_87 : decode cX11_told 87 = .ok (.aload_n 0, 1) := by decide +kernel
theorem dX11_told_88 : decode cX11_told 88 = .ok (.getfield 12, 3) := by decide +kernel
theorem dX11_told_91 : decode cX11_told 91 = .ok (.getfield 79, 3) := by decide +kernel
theorem dX11_told_94 : decode cX11_told 94 = .ok (.ireturn, 1) := by decide +kernel
theorem dX11_told_95 : decode cX11_told 95 = .ok (.aload_n 0, 1) := by decide +kernel
theorem dX11_told_96 : decode cX11_told 96 = .ok (.getfield 12, 3) := by decide +kernel
theorem dX11_told_99 : decode cX11_told 99 = .ok (.getfield 75, 3) := by decide +kernel
theorem dX11_told_102 : decode cX11_told 102 = .ok (.ireturn, 1) := by decide +kernel
theorem dX11_told_103 : decode cX11_told 103 = .ok (.iconst (-1), 1) := by decide +kernel
theorem dX11_told_104 : decode cX11_told 104 = .ok (.ireturn, 1) := by decide +kernel
theorem dX11_step_0 : decode cX11_step 0 = .ok (.aload_n 0, 1) := by decide +kernel
theorem dX11_step_1 : decode cX11_step 1 = .ok (.iload_n 1, 1) := by decide +kernel
theorem dX11_step_2 : decode cX11_step 2 = .ok (.invokevirtual 89, 3) := by decide +kernel
theorem dX11_step_5 : decode cX11_step 5 = .ok (.astore_n 3, 1) := by decide +kernel
theorem dX11_step_6 : decode cX11_step 6 = .ok (.aload_n 3, 1) := by decide +kernel
theorem dX11_step_7 : decode cX11_step 7 = .ok (.ifnull 10, 3) := by decide +kernel
theorem dX11_step_10 : decode cX11_step 10 = .ok (.iload_n 2, 1) := by decide +kernel
theorem dX11_step_11 : decode cX11_step 11 = .ok (.invokestatic 64, 3) := by decide +kernel
theorem dX11_step_14 : decode cX11_step 14 = .ok (.ifCond .ne 5, 3) := by decide +kernel
theorem dX11_step_17 : decode cX11_step 17 = .ok (.iconst (-1), 1) := by decide +kernel
theorem dX11_step_18 : decode cX11_step 18 = .ok (.ireturn, 1) := by decide +kernel
theorem dX11_step_19 : decode cX11_step 19 = .ok (.aload_n 3, 1) := by decide +kernel
theorem dX11_step_20 : decode cX11_step 20 = .ok (.getfield 100, 3) := by decide +kernel
theorem dX11_step_23 : decode cX11_step 23 = .ok (.iload_n 2, 1) := by decide +kernel
theorem dX11_step_24 : decode cX11_step 24 = .ok (.invokestatic 143, 3) := by decide +kernel
theorem dX11_step_27 : decode cX11_step 27 = .ok (.ifCond .ne 6, 3) := by decide +kernel
theorem dX11_step_30 : decode cX11_step 30 = .ok (.bipush (-2), 2) := by decide +kernel
theorem dX11_step_32 : decode cX11_step 32 = .ok (.ireturn, 1) := by decide +kernel
theorem dX11_step_33 : decode cX11_step 33 = .ok (.aload_n 0, 1) := by decide +kernel
theorem dX11_step_34 : decode cX11_step 34 = .ok (.getfield 12, 3) := by decide +kernel
theorem dX11_step_37 : decode cX11_step 37 = .ok (.getfield 136, 3) := by decide +kernel
theorem dX11_step_40 : decode cX11_step 40 = .ok (.ifCond .ne 16, 3) := by decide +kernel
theorem dX11_step_43 : decode cX11_step 43 = .ok (.aload_n 0, 1) := by decide +kernel
theorem dX11_step_44 : decode cX11_step 44 = .ok (.getfield 12, 3) := by decide +kernel
theorem dX11_step_47 : decode cX11_step 47 = .ok (.getfield 103, 3) := by decide +kernel
theorem dX11_step_50 : decode cX11_step 50 = .ok (.sipush 9990, 3) := by decide +kernel
theorem dX11_step_53 : decode cX11_step 53 = .ok (.if_icmp .le 6, 3) := by decide +kernel
theorem dX11_step_56 : decode cX11_step 56 = .ok (.bipush (-3), 2) := by decide +kernel
theorem dX11_step_58 : decode cX11_step 58 = .ok (.ireturn, 1) := by decide +kernel
theorem dX11_step_59 : decode cX11_step 59 = .ok (.aload_n 0, 1) := by decide +kernel
theorem dX11_step_60 : decode cX11_step 60 = .ok (.getfield 12, 3) := by decide +kernel
theorem dX11_step_63 : decode cX11_step 63 = .ok (.dup, 1) := by decide +kernel
theorem dX11_step_64 : decode cX11_step 64 = .ok (.getfield 103, 3) := by decide +kernel
theorem dX11_step_67 : decode cX11_step 67 = .ok (.aload_n 3, 1) := by decide +kernel
theorem dX11_step_68 : decode cX11_step 68 = .ok (.invokevirtual 147, 3) := by decide +kernel
theorem dX11_step_71 : decode cX11_step 71 = .ok (.iadd, 1) := by decide +kernel
theorem dX11_step_72 : decode cX11_step 72 = .ok (.putfield 103, 3) := by decide +kernel
theorem dX11_step_75 : decode cX11_step 75 = .ok (.aload_n 3, 1) := by decide +kernel
theorem dX11_step_76 : decode cX11_step 76 = .ok (.iload_n 2, 1) := by decide +kernel
theorem dX11_step_77 : decode cX11_step 77 = .ok (.putfield 100, 3) := by decide +kernel
theorem dX11_step_80 : decode cX11_step 80 = .ok (.aload_n 0, 1) := by decide +kernel
theorem dX11_step_81 : decode cX11_step 81 = .ok (.getfield 12, 3) := by decide +kernel
theorem dX11_step_84 : decode cX11_step 84 = .ok (.aload_n 3, 1) := by decide +kernel
theorem dX11_step_85 : decode cX11_step 85 = .ok (.iload_n 2, 1) := by decide +kernel
theorem dX11_step_86 : decode cX11_step 86 = .ok (.aload_n 0, 1) := by decide +kernel
theorem dX11_step_87 : decode cX11_step 87 = .ok (.getfield 12, 3) := by decide +kernel
theorem dX11_step_90 : decode cX11_step 90 = .ok (.getfield 103, 3) := by decide +kernel
theorem dX11_step_93 : decode cX11_step 93 = .ok (.invokevirtual 106, 3) := by decide +kernel
theorem dX11_step_96 : decode cX11_step 96 = .ok (.istore 4, 2) := by decide +kernel
theorem dX11_step_98 : decode cX11_step 98 = .ok (.iload 4, 2) := by decide +kernel
theorem dX11_step_100 : decode cX11_step 100 = .ok (.aload_n 0, 1) := by decide +kernel
theorem dX11_step_101 : decode cX11_step 101 = .ok (.getfield 12, 3) := by decide +kernel
theorem dX11_step_104 : decode cX11_step 104 = .ok (.aload_n 0, 1) := by decide +kernel
theorem dX11_step_105 : decode cX11_step 105 = .ok (.getfield 12, 3) := by decide +kernel
theorem dX11_step_108 : decode cX11_step 108 = .ok (.getfield 103, 3) := by decide +kernel
theorem dX11_step_111 : decode cX11_step 111 = .ok (.invokevirtual 140, 3) := by decide +kernel
theorem dX11_step_114 : decode cX11_step 114 = .ok (.aload_n 0, 1) := by decide +kernel
theorem dX11_step_115 : decode cX11_step 115 = .ok (.getfield 12, 3) := by decide +kernel
theorem dX11_step_118 : decode cX11_step 118 = .ok (.getfield 133, 3) := by decide +kernel
theorem dX11_step_121 : decode cX11_step 121 = .ok (.invokestatic 150, 3) := by decide +kernel
theorem dX11_step_124 : decode cX11_step 124 = .ok (.istore 5, 2) := by decide +kernel
theorem dX11_step_126 : decode cX11_step 126 = .ok (.aload_n 0, 1) := by decide +kernel
theorem dX11_step_127 : decode cX11_step 127 = .ok (.getfield 12, 3) := by decide +kernel
theorem dX11_step_130 : decode cX11_step 130 = .ok (.iload 5, 2) := by decide +kernel
theorem dX11_step_132 : decode cX11_step 132 = .ok (.iconst 3, 1) := by decide +kernel
theorem dX11_step_133 : decode cX11_step 133 = .ok (.if_icmp .lt 7, 3) := by decide +kernel
theorem dX11_step_136 : decode cX11_step 136 = .ok (.iconst 1, 1) := by decide +kernel
theorem dX11_step_137 : decode cX11_step 137 = .ok (.goto 4, 3) := by decide +kernel
theorem dX11_step_140 : decode cX11_step 140 = .ok (.iconst 0, 1) := by decide +kernel
theorem dX11_step_141 : decode cX11_step 141 = .ok (.putfield 136, 3) := by decide +kernel
theorem dX11_step_144 : decode cX11_step 144 = .ok (.aload_n 0, 1) := by decide +kernel
theorem dX11_step_145 : decode cX11_step 145 = .ok (.getfield 12, 3) := by decide +kernel
theorem dX11_step_148 : decode cX11_step 148 = .ok (.aload_n 0, 1) := by decide +kernel
theorem dX11_step_149 : decode cX11_step 149 = .ok (.getfield 12, 3) := by decide +kernel
theorem dX11_step_152 : decode cX11_step 152 = .ok (.getfield 136, 3) := by decide +kernel
theorem dX11_step_155 : decode cX11_step 155 = .ok (.ifCond .eq 7, 3) := by decide +kernel
theorem dX11_step_158 : decode cX11_step 158 = .ok (.iconst 0, 1) := by decide +kernel
theorem dX11_step_159 : decode cX11_step 159 = .ok (.goto 5, 3) := by decide +kernel
theorem dX11_step_162 : decode cX11_step 162 = .ok (.iload 5, 2) := by decide +kernel
theorem dX11_step_164 : decode cX11_step 164 = .ok (.putfield 133, 3) := by decide +kernel
theorem dX11_step_167 : decode cX11_step 167 = .ok (.iload 4, 2) := by decide +kernel
theorem dX11_step_169 : decode cX11_step 169 = .ok (.ireturn, 1) := by decide +kernel
theorem dX11_still_0 : decode cX11_still 0 = .ok (.iload_n 1, 1) := by decide +kernel
theorem dX11_still_1 : decode cX11_still 1 = .ok (.ifCond .lt 9, 3) := by decide +kernel
theorem dX11_still_4 : decode cX11_still 4 = .ok (.iload_n 1, 1) := by decide +kernel
theorem dX11_still_5 : decode cX11_still 5 = .ok (.bipush 30, 2) := by decide +kernel
theorem dX11_still_7 : decode cX11_still 7 = .ok (.if_icmp .le 6, 3) := by decide +kernel
theorem dX11_still_10 : decode cX11_still 10 = .ok (.bipush (-2), 2) := by decide +kernel
theorem dX11_still_12 : decode cX11_still 12 = .ok (.ireturn, 1) := by decide +kernel
theorem dX11_still_13 : decode cX11_still 13 = .ok (.aload_n 0, 1) := by decide +kernel
theorem dX11_still_14 : decode cX11_still 14 = .ok (.getfield 12, 3) := by decide +kernel
theorem dX11_still_17 : decode cX11_still 17 = .ok (.getfield 103, 3) := by decide +kernel
theorem dX11_still_20 : decode cX11_still 20 = .ok (.sipush 9960, 3) := by decide +kernel
theorem dX11_still_23 : decode cX11_still 23 = .ok (.if_icmp .le 6, 3) := by decide +kernel
theorem dX11_still_26 : decode cX11_still 26 = .ok (.bipush (-3), 2) := by decide +kernel
theorem dX11_still_28 : decode cX11_still 28 = .ok (.ireturn, 1) := by decide +kernel
theorem dX11_still_29 : decode cX11_still 29 = .ok (.aload_n 0, 1) := by decide +kernel
theorem dX11_still_30 : decode cX11_still 30 = .ok (.getfield 12, 3) := by decide +kernel
theorem dX11_still_33 : decode cX11_still 33 = .ok (.dup, 1) := by decide +kernel
theorem dX11_still_34 : decode cX11_still 34 = .ok (.getfield 103, 3) := by decide +kernel
theorem dX11_still_37 : decode cX11_still 37 = .ok (.iload_n 1, 1) := by decide +kernel
theorem dX11_still_38 : decode cX11_still 38 = .ok (.iadd, 1) := by decide +kernel
theorem dX11_still_39 : decode cX11_still 39 = .ok (.putfield 103, 3) := by decide +kernel
theorem dX11_still_42 : decode cX11_still 42 = .ok (.aload_n 0, 1) := by decide +kernel
theorem dX11_still_43 : decode cX11_still 43 = .ok (.getfield 12, 3) := by decide +kernel
theorem dX11_still_46 : decode cX11_still 46 = .ok (.iconst 0, 1) := by decide +kernel
theorem dX11_still_47 : decode cX11_still 47 = .ok (.aload_n 0, 1) := by decide +kernel
theorem dX11_still_48 : decode cX11_still 48 = .ok (.getfield 12, 3) := by decide +kernel
theorem dX11_still_51 : decode cX11_still 51 = .ok (.getfield 133, 3) := by decide +kernel
theorem dX11_still_54 : decode cX11_still 54 = .ok (.iload_n 1, 1) := by decide +kernel
theorem dX11_still_55 : decode cX11_still 55 = .ok (.isub, 1) := by decide +kernel
theorem dX11_still_56 : decode cX11_still 56 = .ok (.invokestatic 154, 3) := by decide +kernel
theorem dX11_still_59 : decode cX11_still 59 = .ok (.putfield 133, 3) := by decide +kernel
theorem dX11_still_62 : decode cX11_still 62 = .ok (.aload_n 0, 1) := by decide +kernel
theorem dX11_still_63 : decode cX11_still 63 = .ok (.getfield 12, 3) := by decide +kernel
theorem dX11_still_66 : decode cX11_still 66 = .ok (.getfield 103, 3) := by decide +kernel
theorem dX11_still_69 : decode cX11_still 69 = .ok (.ireturn, 1) := by decide +kernel
theorem dX11_lull_0 : decode cX11_lull 0 = .ok (.aload_n 0, 1) := by decide +kernel
theorem dX11_lull_1 : decode cX11_lull 1 = .ok (.getfield 12, 3) := by decide +kernel
theorem dX11_lull_4 : decode cX11_lull 4 = .ok (.getfield 136, 3) := by decide +kernel
theorem dX11_lull_7 : decode cX11_lull 7 = .ok (.ifCond .eq 7, 3) := by decide +kernel
theorem dX11_lull_10 : decode cX11_lull 10 = .ok (.iconst 1, 1) := by decide +kernel
theorem dX11_lull_11 : decode cX11_lull 11 = .ok (.goto 4, 3) := by decide +kernel
theorem dX11_lull_14 : decode cX11_lull 14 = .ok (.iconst 0, 1) := by decide +kernel
theorem dX11_lull_15 : decode cX11_lull 15 = .ok (.istore_n 1, 1) := by decide +kernel
theorem dX11_lull_16 : decode cX11_lull 16 = .ok (.aload_n 0, 1) := by decide +kernel
theorem dX11_lull_17 : decode cX11_lull 17 = .ok (.getfield 12, 3) := by decide +kernel
theorem dX11_lull_20 : decode cX11_lull 20 = .ok (.iconst 0, 1) := by decide +kernel
theorem dX11_lull_21 : decode cX11_lull 21 = .ok (.putfield 136, 3) := by decide +kernel
theorem dX11_lull_24 : decode cX11_lull 24 = .ok (.aload_n 0, 1) := by decide +kernel
theorem dX11_lull_25 : decode cX11_lull 25 = .ok (.getfield 12, 3) := by decide +kernel
theorem dX11_lull_28 : decode cX11_lull 28 = .ok (.iconst 0, 1) := by decide +kernel
theorem dX11_lull_29 : decode cX11_lull 29 = .ok (.putfield 133, 3) := by decide +kernel
theorem dX11_lull_32 : decode cX11_lull 32 = .ok (.iload_n 1, 1) := by decide +kernel
theorem dX11_lull_33 : decode cX11_lull 33 = .ok (.ireturn, 1) := by decide +kernel
theorem dX11_way_0 : decode cX11_way 0 = .ok (.iload_n 1, 1) := by decide +kernel
theorem dX11_way_1 : decode cX11_way 1 = .ok (.iconst (-1), 1) := by decide +kernel
theorem dX11_way_2 : decode cX11_way 2 = .ok (.if_icmp .ne 13, 3) := by decide +kernel
theorem dX11_way_5 : decode cX11_way 5 = .ok (.aload_n 0, 1) := by decide +kernel
theorem dX11_way_6 : decode cX11_way 6 = .ok (.getfield 12, 3) := by decide +kernel
theorem dX11_way_9 : decode cX11_way 9 = .ok (.iconst 0, 1) := by decide +kernel
theorem dX11_way_10 : decode cX11_way 10 = .ok (.putfield 160, 3) := by decide +kernel
theorem dX11_way_13 : decode cX11_way 13 = .ok (.iconst 0, 1) := by decide +kernel
theorem dX11_way_14 : decode cX11_way 14 = .ok (.ireturn, 1) := by decide +kernel
theorem dX11_way_15 : decode cX11_way 15 = .ok (.iload_n 1, 1) := by decide +kernel
theorem dX11_way_16 : decode cX11_way 16 = .ok (.invokestatic 64, 3) := by decide +kernel
theorem dX11_way_19 : decode cX11_way 19 = .ok (.ifCond .ne 11, 3) := by decide +kernel
theorem dX11_way_22 : decode cX11_way 22 = .ok (.iload_n 1, 1) := by decide +kernel
theorem dX11_way_23 : decode cX11_way 23 = .ok (.bipush (-2), 2) := by decide +kernel
theorem dX11_way_25 : decode cX11_way 25 = .ok (.if_icmp .eq 5, 3) := by decide +kernel
theorem dX11_way_28 : decode cX11_way 28 = .ok (.iconst (-1), 1) := by decide +kernel
theorem dX11_way_29 : decode cX11_way 29 = .ok (.ireturn, 1) := by decide +kernel
theorem dX11_way_30 : decode cX11_way 30 = .ok (.aload_n 0, 1) := by decide +kernel
theorem dX11_way_31 : decode cX11_way 31 = .ok (.getfield 12, 3) := by decide +kernel
theorem dX11_way_34 : decode cX11_way 34 = .ok (.getfield 160, 3) := by decide +kernel
theorem dX11_way_37 : decode cX11_way 37 = .ok (.ifCond .lt 15, 3) := by decide +kernel
theorem dX11_way_40 : decode cX11_way 40 = .ok (.aload_n 0, 1) := by decide +kernel
theorem dX11_way_41 : decode cX11_way 41 = .ok (.getfield 12, 3) := by decide +kernel
theorem dX11_way_44 : decode cX11_way 44 = .ok (.getfield 160, 3) := by decide +kernel
theorem dX11_way_47 : decode cX11_way 47 = .ok (.bipush 12, 2) := by decide +kernel
theorem dX11_way_49 : decode cX11_way 49 = .ok (.if_icmp .lt 6, 3) := by decide +kernel
theorem dX11_way_52 : decode cX11_way 52 = .ok (.bipush (-4), 2) := by decide +kernel
theorem dX11_way_54 : decode cX11_way 54 = .ok (.ireturn, 1) := by decide +kernel
theorem dX11_way_55 : decode cX11_way 55 = .ok (.aload_n 0, 1) := by decide +kernel
theorem dX11_way_56 : decode cX11_way 56 = .ok (.getfield 12, 3) := by decide +kernel
theorem dX11_way_59 : decode cX11_way 59 = .ok (.getfield 163, 3) := by decide +kernel
theorem dX11_way_62 : decode cX11_way 62 = .ok (.aload_n 0, 1) := by decide +kernel
theorem dX11_way_63 : decode cX11_way 63 = .ok (.getfield 12, 3) := by decide +kernel
theorem dX11_way_66 : decode cX11_way 66 = .ok (.getfield 160, 3) := by decide +kernel
theorem dX11_way_69 : decode cX11_way 69 = .ok (.iload_n 1, 1) := by decide +kernel
theorem dX11_way_70 : decode cX11_way 70 = .ok (.iastore, 1) := by decide +kernel
theorem dX11_way_71 : decode cX11_way 71 = .ok (.aload_n 0, 1) := by decide +kernel
theorem dX11_way_72 : decode cX11_way 72 = .ok (.getfield 12, 3) := by decide +kernel
theorem dX11_way_75 : decode cX11_way 75 = .ok (.dup, 1) := by decide +kernel
theorem dX11_way_76 : decode cX11_way 76 = .ok (.getfield 160, 3) := by decide +kernel
theorem dX11_way_79 : decode cX11_way 79 = .ok (.iconst 1, 1) := by decide +kernel
theorem dX11_way_80 : decode cX11_way 80 = .ok (.iadd, 1) := by decide +kernel
theorem dX11_way_81 : decode cX11_way 81 = .ok (.putfield 160, 3) := by decide +kernel
theorem dX11_way_84 : decode cX11_way 84 = .ok (.aload_n 0, 1) := by decide +kernel
theorem dX11_way_85 : decode cX11_way 85 = .ok (.getfield 12, 3) := by decide +kernel
theorem dX11_way_88 : decode cX11_way 88 = .ok (.getfield 160, 3) := by decide +kernel
theorem dX11_way_91 : decode cX11_way 91 = .ok (.ireturn, 1) := by decide +kernel
theorem dX11_goes_0 : decode cX11_goes 0 = .ok (.aload_n 0, 1) := by decide +kernel
theorem dX11_goes_1 : decode cX11_goes 1 = .ok (.iload_n 1, 1) := by decide +kernel
theorem dX11_goes_2 : decode cX11_goes 2 = .ok (.invokevirtual 89, 3) := by decide +kernel
theorem dX11_goes_5 : decode cX11_goes 5 = .ok (.astore_n 3, 1) := by decide +kernel
theorem dX11_goes_6 : decode cX11_goes 6 = .ok (.aload_n 3, 1) := by decide +kernel
theorem dX11_goes_7 : decode cX11_goes 7 = .ok (.ifnull 12, 3) := by decide +kernel
theorem dX11_goes_10 : decode cX11_goes 10 = .ok (.iload_n 2, 1) := by decide +kernel
theorem dX11_goes_11 : decode cX11_goes 11 = .ok (.ifCond .lt 8, 3) := by decide +kernel
theorem dX11_goes_14 : decode cX11_goes 14 = .ok (.iload_n 2, 1) := by decide +kernel
theorem dX11_goes_15 : decode cX11_goes 15 = .ok (.iconst 3, 1) := by decide +kernel
theorem dX11_goes_16 : decode cX11_goes 16 = .ok (.if_icmp .le 5, 3) := by decide +kernel
theorem dX11_goes_19 : decode cX11_goes 19 = .ok (.iconst (-1), 1) := by decide +kernel
theorem dX11_goes_20 : decode cX11_goes 20 = .ok (.ireturn, 1) := by decide +kernel
theorem dX11_goes_21 : decode cX11_goes 21 = .ok (.aload_n 0, 1) := by decide +kernel
theorem dX11_goes_22 : decode cX11_goes 22 = .ok (.getfield 43, 3) := by decide +kernel
theorem dX11_goes_25 : decode cX11_goes 25 = .ok (.aload_n 0, 1) := by decide +kernel
theorem dX11_goes_26 : decode cX11_goes 26 = .ok (.getfield 12, 3) := by decide +kernel
theorem dX11_goes_29 : decode cX11_goes 29 = .ok (.aload_n 3, 1) := by decide +kernel
theorem dX11_goes_30 : decode cX11_goes 30 = .ok (.invokevirtual 166, 3) := by decide +kernel
theorem dX11_goes_33 : decode cX11_goes 33 = .ok (.aload_n 0, 1) := by decide +kernel
theorem dX11_goes_34 : decode cX11_goes 34 = .ok (.getfield 43, 3) := by decide +kernel
theorem dX11_goes_37 : decode cX11_goes 37 = .ok (.aload_n 0, 1) := by decide +kernel
theorem dX11_goes_38 : decode cX11_goes 38 = .ok (.getfield 12, 3) := by decide +kernel
theorem dX11_goes_41 : decode cX11_goes 41 = .ok (.aload_n 3, 1) := by decide +kernel
theorem dX11_goes_42 : decode cX11_goes 42 = .ok (.getfield 100, 3) := by decide +kernel
theorem dX11_goes_45 : decode cX11_goes 45 = .ok (.aload_n 0, 1) := by decide +kernel
theorem dX11_goes_46 : decode cX11_goes 46 = .ok (.getfield 12, 3) := by decide +kernel
theorem dX11_goes_49 : decode cX11_goes 49 = .ok (.getfield 103, 3) := by decide +kernel
theorem dX11_goes_52 : decode cX11_goes 52 = .ok (.aload_n 0, 1) := by decide +kernel
theorem dX11_goes_53 : decode cX11_goes 53 = .ok (.getfield 12, 3) := by decide +kernel
theorem dX11_goes_56 : decode cX11_goes 56 = .ok (.getfield 133, 3) := by decide +kernel
theorem dX11_goes_59 : decode cX11_goes 59 = .ok (.invokevirtual 170, 3) := by decide +kernel
theorem dX11_goes_62 : decode cX11_goes 62 = .ok (.istore 4, 2) := by decide +kernel
theorem dX11_goes_64 : decode cX11_goes 64 = .ok (.iload_n 2, 1) := by decide +kernel
theorem dX11_goes_65 : decode cX11_goes 65 = .ok (.tableswitch 46 0 2 #[27, 30, 38], 27) := by decide +kernel
theorem dX11_goes_92 : decode cX11_goes 92 = .ok (.iload 4, 2) := by decide +kernel
theorem dX11_goes_94 : decode cX11_goes 94 = .ok (.ireturn, 1) := by decide +kernel
theorem dX11_goes_95 : decode cX11_goes 95 = .ok (.aload_n 0, 1) := by decide +kernel
theorem dX11_goes_96 : decode cX11_goes 96 = .ok (.getfield 43, 3) := by decide +kernel
theorem dX11_goes_99 : decode cX11_goes 99 = .ok (.getfield 174, 3) := by decide +kernel
theorem dX11_goes_102 : decode cX11_goes 102 = .ok (.ireturn, 1) := by decide +kernel
theorem dX11_goes_103 : decode cX11_goes 103 = .ok (.aload_n 0, 1) := by decide +kernel
theorem dX11_goes_104 : decode cX11_goes 104 = .ok (.getfield 43, 3) := by decide +kernel
theorem dX11_goes_107 : decode cX11_goes 107 = .ok (.getfield 177, 3) := by decide +kernel
theorem dX11_goes_110 : decode cX11_goes 110 = .ok (.ireturn, 1) := by decide +kernel
theorem dX11_goes_111 : decode cX11_goes 111 = .ok (.aload_n 0, 1) := by decide +kernel
theorem dX11_goes_112 : decode cX11_goes 112 = .ok (.getfield 43, 3) := by decide +kernel
theorem dX11_goes_115 : decode cX11_goes 115 = .ok (.getfield 180, 3) := by decide +kernel
theorem dX11_goes_118 : decode cX11_goes 118 = .ok (.ireturn, 1) := by decide +kernel
theorem dX11_out_0 : decode cX11_out 0 = .ok (.aload_n 0, 1) := by decide +kernel
theorem dX11_out_1 : decode cX11_out 1 = .ok (.iload_n 1, 1) := by decide +kernel
theorem dX11_out_2 : decode cX11_out 2 = .ok (.invokevirtual 89, 3) := by decide +kernel
theorem dX11_out_5 : decode cX11_out 5 = .ok (.astore_n 2, 1) := by decide +kernel
theorem dX11_out_6 : decode cX11_out 6 = .ok (.aload_n 2, 1) := by decide +kernel
theorem dX11_out_7 : decode cX11_out 7 = .ok (.ifnonnull 5, 3) := by decide +kernel
theorem dX11_out_10 : decode cX11_out 10 = .ok (.iconst (-1), 1) := by decide +kernel
theorem dX11_out_11 : decode cX11_out 11 = .ok (.ireturn, 1) := by decide +kernel
theorem dX11_out_12 : decode cX11_out 12 = .ok (.aload_n 0, 1) := by decide +kernel
theorem dX11_out_13 : decode cX11_out 13 = .ok (.getfield 43, 3) := by decide +kernel
theorem dX11_out_16 : decode cX11_out 16 = .ok (.aload_n 0, 1) := by decide +kernel
theorem dX11_out_17 : decode cX11_out 17 = .ok (.getfield 12, 3) := by decide +kernel
theorem dX11_out_20 : decode cX11_out 20 = .ok (.aload_n 2, 1) := by decide +kernel
theorem dX11_out_21 : decode cX11_out 21 = .ok (.invokevirtual 166, 3) := by decide +kernel
theorem dX11_out_24 : decode cX11_out 24 = .ok (.aload_n 0, 1) := by decide +kernel
theorem dX11_out_25 : decode cX11_out 25 = .ok (.getfield 43, 3) := by decide +kernel
theorem dX11_out_28 : decode cX11_out 28 = .ok (.aload_n 2, 1) := by decide +kernel
theorem dX11_out_29 : decode cX11_out 29 = .ok (.getfield 100, 3) := by decide +kernel
theorem dX11_out_32 : decode cX11_out 32 = .ok (.aload_n 0, 1) := by decide +kernel
theorem dX11_out_33 : decode cX11_out 33 = .ok (.getfield 12, 3) := by decide +kernel
theorem dX11_out_36 : decode cX11_out 36 = .ok (.getfield 103, 3) := by decide +kernel
theorem dX11_out_39 : decode cX11_out 39 = .ok (.aload_n 0, 1) := by decide +kernel
theorem dX11_out_40 : decode cX11_out 40 = .ok (.getfield 12, 3) := by decide +kernel
theorem dX11_out_43 : decode cX11_out 43 = .ok (.getfield 133, 3) := by decide +kernel
theorem dX11_out_46 : decode cX11_out 46 = .ok (.iconst 0, 1) := by decide +kernel
theorem dX11_out_47 : decode cX11_out 47 = .ok (.invokevirtual 183, 3) := by decide +kernel
theorem dX11_out_50 : decode cX11_out 50 = .ok (.ireturn, 1) := by decide +kernel
theorem dX11_quiet_0 : decode cX11_quiet 0 = .ok (.aload_n 0, 1) := by decide +kernel
theorem dX11_quiet_1 : decode cX11_quiet 1 = .ok (.iload_n 1, 1) := by decide +kernel
theorem dX11_quiet_2 : decode cX11_quiet 2 = .ok (.invokevirtual 89, 3) := by decide +kernel
theorem dX11_quiet_5 : decode cX11_quiet 5 = .ok (.astore_n 3, 1) := by decide +kernel
theorem dX11_quiet_6 : decode cX11_quiet 6 = .ok (.aload_n 3, 1) := by decide +kernel
theorem dX11_quiet_7 : decode cX11_quiet 7 = .ok (.ifnull 12, 3) := by decide +kernel
theorem dX11_quiet_10 : decode cX11_quiet 10 = .ok (.iload_n 2, 1) := by decide +kernel
theorem dX11_quiet_11 : decode cX11_quiet 11 = .ok (.ifCond .lt 8, 3) := by decide +kernel
theorem dX11_quiet_14 : decode cX11_quiet 14 = .ok (.iload_n 2, 1) := by decide +kernel
theorem dX11_quiet_15 : decode cX11_quiet 15 = .ok (.iconst 1, 1) := by decide +kernel
theorem dX11_quiet_16 : decode cX11_quiet 16 = .ok (.if_icmp .le 5, 3) := by decide +kernel
theorem dX11_quiet_19 : decode cX11_quiet 19 = .ok (.iconst (-1), 1) := by decide +kernel
theorem dX11_quiet_20 : decode cX11_quiet 20 = .ok (.ireturn, 1) := by decide +kernel
theorem dX11_quiet_21 : decode cX11_quiet 21 = .ok (.aload_n 0, 1) := by decide +kernel
theorem dX11_quiet_22 : decode cX11_quiet 22 = .ok (.getfield 43, 3) := by decide +kernel
theorem dX11_quiet_25 : decode cX11_quiet 25 = .ok (.aload_n 0, 1) := by decide +kernel
theorem dX11_quiet_26 : decode cX11_quiet 26 = .ok (.getfield 12, 3) := by decide +kernel
theorem dX11_quiet_29 : decode cX11_quiet 29 = .ok (.aload_n 3, 1) := by decide +kernel
theorem dX11_quiet_30 : decode cX11_quiet 30 = .ok (.invokevirtual 166, 3) := by decide +kernel
theorem dX11_quiet_33 : decode cX11_quiet 33 = .ok (.aload_n 0, 1) := by decide +kernel
theorem dX11_quiet_34 : decode cX11_quiet 34 = .ok (.getfield 43, 3) := by decide +kernel
theorem dX11_quiet_37 : decode cX11_quiet 37 = .ok (.aload_n 3, 1) := by decide +kernel
theorem dX11_quiet_38 : decode cX11_quiet 38 = .ok (.getfield 100, 3) := by decide +kernel
theorem dX11_quiet_41 : decode cX11_quiet 41 = .ok (.aload_n 0, 1) := by decide +kernel
theorem dX11_quiet_42 : decode cX11_quiet 42 = .ok (.getfield 12, 3) := by decide +kernel
theorem dX11_quiet_45 : decode cX11_quiet 45 = .ok (.getfield 103, 3) := by decide +kernel
theorem dX11_quiet_48 : decode cX11_quiet 48 = .ok (.invokevirtual 187, 3) := by decide +kernel
theorem dX11_quiet_51 : decode cX11_quiet 51 = .ok (.iload_n 2, 1) := by decide +kernel
theorem dX11_quiet_52 : decode cX11_quiet 52 = .ok (.ifCond .ne 13, 3) := by decide +kernel
theorem dX11_quiet_55 : decode cX11_quiet 55 = .ok (.aload_n 0, 1) := by decide +kernel
theorem dX11_quiet_56 : decode cX11_quiet 56 = .ok (.getfield 43, 3) := by decide +kernel
theorem dX11_quiet_59 : decode cX11_quiet 59 = .ok (.getfield 191, 3) := by decide +kernel
theorem dX11_quiet_62 : decode cX11_quiet 62 = .ok (.goto 10, 3) := by decide +kernel
theorem dX11_quiet_65 : decode cX11_quiet 65 = .ok (.aload_n 0, 1) := by decide +kernel
theorem dX11_quiet_66 : decode cX11_quiet 66 = .ok (.getfield 43, 3) := by decide +kernel
theorem dX11_quiet_69 : decode cX11_quiet 69 = .ok (.getfield 194, 3) := by decide +kernel
theorem dX11_quiet_72 : decode cX11_quiet 72 = .ok (.ireturn, 1) := by decide +kernel
theorem dX11_set_0 : decode cX11_set 0 = .ok (.aload_n 0, 1) := by decide +kernel
theorem dX11_set_1 : decode cX11_set 1 = .ok (.iload_n 1, 1) := by decide +kernel
theorem dX11_set_2 : decode cX11_set 2 = .ok (.invokevirtual 89, 3) := by decide +kernel
theorem dX11_set_5 : decode cX11_set 5 = .ok (.astore_n 3, 1) := by decide +kernel
theorem dX11_set_6 : decode cX11_set 6 = .ok (.aload_n 3, 1) := by decide +kernel
theorem dX11_set_7 : decode cX11_set 7 = .ok (.ifnull 12, 3) := by decide +kernel
theorem dX11_set_10 : decode cX11_set 10 = .ok (.iload_n 2, 1) := by decide +kernel
theorem dX11_set_11 : decode cX11_set 11 = .ok (.ifCond .lt 8, 3) := by decide +kernel
theorem dX11_set_14 : decode cX11_set 14 = .ok (.iload_n 2, 1) := by decide +kernel
theorem dX11_set_15 : decode cX11_set 15 = .ok (.iconst 1, 1) := by decide +kernel
theorem dX11_set_16 : decode cX11_set 16 = .ok (.if_icmp .le 5, 3) := by decide +kernel
theorem dX11_set_19 : decode cX11_set 19 = .ok (.iconst (-1), 1) := by decide +kernel
theorem dX11_set_20 : decode cX11_set 20 = .ok (.ireturn, 1) := by decide +kernel
theorem dX11_set_21 : decode cX11_set 21 = .ok (.aload_n 0, 1) := by decide +kernel
theorem dX11_set_22 : decode cX11_set 22 = .ok (.getfield 43, 3) := by decide +kernel
theorem dX11_set_25 : decode cX11_set 25 = .ok (.aload_n 0, 1) := by decide +kernel
theorem dX11_set_26 : decode cX11_set 26 = .ok (.getfield 12, 3) := by decide +kernel
theorem dX11_set_29 : decode cX11_set 29 = .ok (.aload_n 3, 1) := by decide +kernel
theorem dX11_set_30 : decode cX11_set 30 = .ok (.invokevirtual 166, 3) := by decide +kernel
theorem dX11_set_33 : decode cX11_set 33 = .ok (.bipush (-5), 2) := by decide +kernel
theorem dX11_set_35 : decode cX11_set 35 = .ok (.istore 4, 2) := by decide +kernel
theorem dX11_set_37 : decode cX11_set 37 = .ok (.bipush (-5), 2) := by decide +kernel
theorem dX11_set_39 : decode cX11_set 39 = .ok (.istore 5, 2) := by decide +kernel
theorem dX11_set_41 : decode cX11_set 41 = .ok (.iconst 0, 1) := by decide +kernel
theorem dX11_set_42 : decode cX11_set 42 = .ok (.istore 6, 2) := by decide +kernel
theorem dX11_set_44 : decode cX11_set 44 = .ok (.iload 6, 2) := by decide +kernel
theorem dX11_set_46 : decode cX11_set 46 = .ok (.bipush 20, 2) := by decide +kernel
theorem dX11_set_48 : decode cX11_set 48 = .ok (.if_icmp .gt 65, 3) := by decide +kernel
theorem dX11_set_51 : decode cX11_set 51 = .ok (.aload_n 0, 1) := by decide +kernel
theorem dX11_set_52 : decode cX11_set 52 = .ok (.getfield 43, 3) := by decide +kernel
theorem dX11_set_55 : decode cX11_set 55 = .ok (.aload_n 3, 1) := by decide +kernel
theorem dX11_set_56 : decode cX11_set 56 = .ok (.getfield 100, 3) := by decide +kernel
theorem dX11_set_59 : decode cX11_set 59 = .ok (.aload_n 0, 1) := by decide +kernel
theorem dX11_set_60 : decode cX11_set 60 = .ok (.getfield 12, 3) := by decide +kernel
theorem dX11_set_63 : decode cX11_set 63 = .ok (.getfield 103, 3) := by decide +kernel
theorem dX11_set_66 : decode cX11_set 66 = .ok (.iload 6, 2) := by decide +kernel
theorem dX11_set_68 : decode cX11_set 68 = .ok (.iadd, 1) := by decide +kernel
theorem dX11_set_69 : decode cX11_set 69 = .ok (.iconst 0, 1) := by decide +kernel
theorem dX11_set_70 : decode cX11_set 70 = .ok (.aload_n 0, 1) := by decide +kernel
theorem dX11_set_71 : decode cX11_set 71 = .ok (.getfield 12, 3) := by decide +kernel
theorem dX11_set_74 : decode cX11_set 74 = .ok (.getfield 133, 3) := by decide +kernel
theorem dX11_set_77 : decode cX11_set 77 = .ok (.iload 6, 2) := by decide +kernel
theorem dX11_set_79 : decode cX11_set 79 = .ok (.isub, 1) := by decide +kernel
theorem dX11_set_80 : decode cX11_set 80 = .ok (.invokestatic 154, 3) := by decide +kernel
theorem dX11_set_83 : decode cX11_set 83 = .ok (.iconst 0, 1) := by decide +kernel
theorem dX11_set_84 : decode cX11_set 84 = .ok (.invokevirtual 183, 3) := by decide +kernel
theorem dX11_set_87 : decode cX11_set 87 = .ok (.istore 7, 2) := by decide +kernel
theorem dX11_set_89 : decode cX11_set 89 = .ok (.iload 7, 2) := by decide +kernel
theorem dX11_set_91 : decode cX11_set 91 = .ok (.iload 5, 2) := by decide +kernel
theorem dX11_set_93 : decode cX11_set 93 = .ok (.invokestatic 197, 3) := by decide +kernel
theorem dX11_set_96 : decode cX11_set 96 = .ok (.ifCond .eq 11, 3) := by decide +kernel
theorem dX11_set_99 : decode cX11_set 99 = .ok (.iload 7, 2) := by decide +kernel
theorem dX11_set_101 : decode cX11_set 101 = .ok (.istore 5, 2) := by decide +kernel
theorem dX11_set_103 : decode cX11_set 103 = .ok (.iload 6, 2) := by decide +kernel
theorem dX11_set_105 : decode cX11_set 105 = .ok (.istore 4, 2) := by decide +kernel
theorem dX11_set_107 : decode cX11_set 107 = .ok (.iinc 6 1, 3) := by decide +kernel
theorem dX11_set_110 : decode cX11_set 110 = .ok (.goto (-66), 3) := by decide +kernel
theorem dX11_set_113 : decode cX11_set 113 = .ok (.iload_n 2, 1) := by decide +kernel
theorem dX11_set_114 : decode cX11_set 114 = .ok (.ifCond .ne 8, 3) := by decide +kernel
theorem dX11_set_117 : decode cX11_set 117 = .ok (.iload 4, 2) := by decide +kernel
theorem dX11_set_119 : decode cX11_set 119 = .ok (.goto 5, 3) := by decide +kernel
theorem dX11_set_122 : decode cX11_set 122 = .ok (.iload 5, 2) := by decide +kernel
theorem dX11_set_124 : decode cX11_set 124 = .ok (.ireturn, 1) := by decide +kernel
theorem dX11_mend_0 : decode cX11_mend 0 = .ok (.aload_n 0, 1) := by decide +kernel
theorem dX11_mend_1 : decode cX11_mend 1 = .ok (.iload_n 1, 1) := by decide +kernel
theorem dX11_mend_2 : decode cX11_mend 2 = .ok (.invokevirtual 89, 3) := by decide +kernel
theorem dX11_mend_5 : decode cX11_mend 5 = .ok (.astore_n 2, 1) := by decide +kernel
theorem dX11_mend_6 : decode cX11_mend 6 = .ok (.aload_n 2, 1) := by decide +kernel
theorem dX11_mend_7 : decode cX11_mend 7 = .ok (.ifnonnull 5, 3) := by decide +kernel
theorem dX11_mend_10 : decode cX11_mend 10 = .ok (.iconst (-1), 1) := by decide +kernel
theorem dX11_mend_11 : decode cX11_mend 11 = .ok (.ireturn, 1) := by decide +kernel
theorem dX11_mend_12 : decode cX11_mend 12 = .ok (.aload_n 0, 1) := by decide +kernel
theorem dX11_mend_13 : decode cX11_mend 13 = .ok (.getfield 43, 3) := by decide +kernel
theorem dX11_mend_16 : decode cX11_mend 16 = .ok (.aload_n 0, 1) := by decide +kernel
theorem dX11_mend_17 : decode cX11_mend 17 = .ok (.getfield 12, 3) := by decide +kernel
theorem dX11_mend_20 : decode cX11_mend 20 = .ok (.aload_n 2, 1) := by decide +kernel
theorem dX11_mend_21 : decode cX11_mend 21 = .ok (.invokevirtual 166, 3) := by decide +kernel
theorem dX11_mend_24 : decode cX11_mend 24 = .ok (.aload_n 0, 1) := by decide +kernel
theorem dX11_mend_25 : decode cX11_mend 25 = .ok (.aload_n 2, 1) := by decide +kernel
theorem dX11_mend_26 : decode cX11_mend 26 = .ok (.iconst 0, 1) := by decide +kernel
theorem dX11_mend_27 : decode cX11_mend 27 = .ok (.invokevirtual 200, 3) := by decide +kernel
theorem dX11_mend_30 : decode cX11_mend 30 = .ok (.ireturn, 1) := by decide +kernel
theorem dX11_away_0 : decode cX11_away 0 = .ok (.aload_n 0, 1) := by decide +kernel
theorem dX11_away_1 : decode cX11_away 1 = .ok (.iload_n 1, 1) := by decide +kernel
theorem dX11_away_2 : decode cX11_away 2 = .ok (.invokevirtual 89, 3) := by decide +kernel
theorem dX11_away_5 : decode cX11_away 5 = .ok (.astore_n 2, 1) := by decide +kernel
theorem dX11_away_6 : decode cX11_away 6 = .ok (.aload_n 2, 1) := by decide +kernel
theorem dX11_away_7 : decode cX11_away 7 = .ok (.ifnonnull 5, 3) := by decide +kernel
theorem dX11_away_10 : decode cX11_away 10 = .ok (.iconst (-1), 1) := by decide +kernel
theorem dX11_away_11 : decode cX11_away 11 = .ok (.ireturn, 1) := by decide +kernel
theorem dX11_away_12 : decode cX11_away 12 = .ok (.aload_n 0, 1) := by decide +kernel
theorem dX11_away_13 : decode cX11_away 13 = .ok (.getfield 43, 3) := by decide +kernel
theorem dX11_away_16 : decode cX11_away 16 = .ok (.aload_n 0, 1) := by decide +kernel
theorem dX11_away_17 : decode cX11_away 17 = .ok (.getfield 12, 3) := by decide +kernel
theorem dX11_away_20 : decode cX11_away 20 = .ok (.aload_n 2, 1) := by decide +kernel
theorem dX11_away_21 : decode cX11_away 21 = .ok (.invokevirtual 166, 3) := by decide +kernel
theorem dX11_away_24 : decode cX11_away 24 = .ok (.aload_n 0, 1) := by decide +kernel
theorem dX11_away_25 : decode cX11_away 25 = .ok (.aload_n 2, 1) := by decide +kernel
theorem dX11_away_26 : decode cX11_away 26 = .ok (.iconst 1, 1) := by decide +kernel
theorem dX11_away_27 : decode cX11_away 27 = .ok (.invokevirtual 200, 3) := by decide +kernel
theorem dX11_away_30 : decode cX11_away 30 = .ok (.ireturn, 1) := by decide +kernel
theorem dX11_from_0 : decode cX11_from 0 = .ok (.aload_n 0, 1) := by decide +kernel
theorem dX11_from_1 : decode cX11_from 1 = .ok (.iload_n 1, 1) := by decide +kernel
theorem dX11_from_2 : decode cX11_from 2 = .ok (.invokevirtual 89, 3) := by decide +kernel
theorem dX11_from_5 : decode cX11_from 5 = .ok (.astore_n 2, 1) := by decide +kernel
theorem dX11_from_6 : decode cX11_from 6 = .ok (.aload_n 2, 1) := by decide +kernel
theorem dX11_from_7 : decode cX11_from 7 = .ok (.ifnonnull 5, 3) := by decide +kernel
theorem dX11_from_10 : decode cX11_from 10 = .ok (.iconst (-1), 1) := by decide +kernel
theorem dX11_from_11 : decode cX11_from 11 = .ok (.ireturn, 1) := by decide +kernel
theorem dX11_from_12 : decode cX11_from 12 = .ok (.aload_n 0, 1) := by decide +kernel
theorem dX11_from_13 : decode cX11_from 13 = .ok (.getfield 43, 3) := by decide +kernel
theorem dX11_from_16 : decode cX11_from 16 = .ok (.aload_n 0, 1) := by decide +kernel
theorem dX11_from_17 : decode cX11_from 17 = .ok (.getfield 12, 3) := by decide +kernel
theorem dX11_from_20 : decode cX11_from 20 = .ok (.aload_n 2, 1) := by decide +kernel
theorem dX11_from_21 : decode cX11_from 21 = .ok (.invokevirtual 166, 3) := by decide +kernel
theorem dX11_from_24 : decode cX11_from 24 = .ok (.iconst 0, 1) := by decide +kernel
theorem dX11_from_25 : decode cX11_from 25 = .ok (.istore_n 3, 1) := by decide +kernel
theorem dX11_from_26 : decode cX11_from 26 = .ok (.iconst 0, 1) := by decide +kernel
theorem dX11_from_27 : decode cX11_from 27 = .ok (.istore 4, 2) := by decide +kernel
theorem dX11_from_29 : decode cX11_from 29 = .ok (.iload 4, 2) := by decide +kernel
theorem dX11_from_31 : decode cX11_from 31 = .ok (.bipush 12, 2) := by decide +kernel
theorem dX11_from_33 : decode cX11_from 33 = .ok (.if_icmp .ge 45, 3) := by decide +kernel
theorem dX11_from_36 : decode cX11_from 36 = .ok (.aload_n 0, 1) := by decide +kernel
theorem dX11_from_37 : decode cX11_from 37 = .ok (.getfield 43, 3) := by decide +kernel
theorem dX11_from_40 : decode cX11_from 40 = .ok (.iload 4, 2) := by decide +kernel
theorem dX11_from_42 : decode cX11_from 42 = .ok (.aload_n 0, 1) := by decide +kernel
theorem dX11_from_43 : decode cX11_from 43 = .ok (.getfield 12, 3) := by decide +kernel
theorem dX11_from_46 : decode cX11_from 46 = .ok (.getfield 103, 3) := by decide +kernel
theorem dX11_from_49 : decode cX11_from 49 = .ok (.aload_n 0, 1) := by decide +kernel
theorem dX11_from_50 : decode cX11_from 50 = .ok (.getfield 12, 3) := by decide +kernel
theorem dX11_from_53 : decode cX11_from 53 = .ok (.getfield 133, 3) := by decide +kernel
theorem dX11_from_56 : decode cX11_from 56 = .ok (.iconst 0, 1) := by decide +kernel
theorem dX11_from_57 : decode cX11_from 57 = .ok (.invokevirtual 183, 3) := by decide +kernel
theorem dX11_from_60 : decode cX11_from 60 = .ok (.bipush (-5), 2) := by decide +kernel
theorem dX11_from_62 : decode cX11_from 62 = .ok (.if_icmp .eq 10, 3) := by decide +kernel
theorem dX11_from_65 : decode cX11_from 65 = .ok (.iload_n 3, 1) := by decide +kernel
theorem dX11_from_66 : decode cX11_from 66 = .ok (.iconst 1, 1) := by decide +kernel
theorem dX11_from_67 : decode cX11_from 67 = .ok (.iload 4, 2) := by decide +kernel
theorem dX11_from_69 : decode cX11_from 69 = .ok (.ishl, 1) := by decide +kernel
theorem dX11_from_70 : decode cX11_from 70 = .ok (.ior, 1) := by decide +kernel
theorem dX11_from_71 : decode cX11_from 71 = .ok (.istore_n 3, 1) := by decide +kernel
theorem dX11_from_72 : decode cX11_from 72 = .ok (.iinc 4 1, 3) := by decide +kernel
theorem dX11_from_75 : decode cX11_from 75 = .ok (.goto (-46), 3) := by decide +kernel
theorem dX11_from_78 : decode cX11_from 78 = .ok (.iload_n 3, 1) := by decide +kernel
theorem dX11_from_79 : decode cX11_from 79 = .ok (.ireturn, 1) := by decide +kernel
theorem dX11_deeper_0 : decode cX11_deeper 0 = .ok (.aload_n 0, 1) := by decide +kernel
theorem dX11_deeper_1 : decode cX11_deeper 1 = .ok (.iload_n 1, 1) := by decide +kernel
theorem dX11_deeper_2 : decode cX11_deeper 2 = .ok (.invokevirtual 89, 3) := by decide +kernel
theorem dX11_deeper_5 : decode cX11_deeper 5 = .ok (.astore_n 2, 1) := by decide +kernel
theorem dX11_deeper_6 : decode cX11_deeper 6 = .ok (.aload_n 2, 1) := by decide +kernel
theorem dX11_deeper_7 : decode cX11_deeper 7 = .ok (.ifnonnull 5, 3) := by decide +kernel
theorem dX11_deeper_10 : decode cX11_deeper 10 = .ok (.iconst (-1), 1) := by decide +kernel
theorem dX11_deeper_11 : decode cX11_deeper 11 = .ok (.ireturn, 1) := by decide +kernel
theorem dX11_deeper_12 : decode cX11_deeper 12 = .ok (.aload_n 0, 1) := by decide +kernel
theorem dX11_deeper_13 : decode cX11_deeper 13 = .ok (.getfield 43, 3) := by decide +kernel
theorem dX11_deeper_16 : decode cX11_deeper 16 = .ok (.aload_n 0, 1) := by decide +kernel
theorem dX11_deeper_17 : decode cX11_deeper 17 = .ok (.getfield 12, 3) := by decide +kernel
theorem dX11_deeper_20 : decode cX11_deeper 20 = .ok (.aload_n 2, 1) := by decide +kernel
theorem dX11_deeper_21 : decode cX11_deeper 21 = .ok (.invokevirtual 166, 3) := by decide +kernel
theorem dX11_deeper_24 : decode cX11_deeper 24 = .ok (.iconst (-1), 1) := by decide +kernel
theorem dX11_deeper_25 : decode cX11_deeper 25 = .ok (.istore_n 3, 1) := by decide +kernel
theorem dX11_deeper_26 : decode cX11_deeper 26 = .ok (.bipush 31, 2) := by decide +kernel
theorem dX11_deeper_28 : decode cX11_deeper 28 = .ok (.istore 4, 2) := by decide +kernel
theorem dX11_deeper_30 : decode cX11_deeper 30 = .ok (.iconst 0, 1) := by decide +kernel
theorem dX11_deeper_31 : decode cX11_deeper 31 = .ok (.istore 5, 2) := by decide +kernel
theorem dX11_deeper_33 : decode cX11_deeper 33 = .ok (.iload 5, 2) := by decide +kernel
theorem dX11_deeper_35 : decode cX11_deeper 35 = .ok (.bipush 30, 2) := by decide +kernel
theorem dX11_deeper_37 : decode cX11_deeper 37 = .ok (.if_icmp .gt 67, 3) := by decide +kernel
theorem dX11_deeper_40 : decode cX11_deeper 40 = .ok (.iload 4, 2) := by decide +kernel
theorem dX11_deeper_42 : decode cX11_deeper 42 = .ok (.iload_n 3, 1) := by decide +kernel
theorem dX11_deeper_43 : decode cX11_deeper 43 = .ok (.isub, 1) := by decide +kernel
theorem dX11_deeper_44 : decode cX11_deeper 44 = .ok (.iconst 1, 1) := by decide +kernel
theorem dX11_deeper_45 : decode cX11_deeper 45 = .ok (.if_icmp .le 59, 3) := by decide +kernel
theorem dX11_deeper_48 : decode cX11_deeper 48 = .ok (.iload_n 3, 1) := by decide +kernel
theorem dX11_deeper_49 : decode cX11_deeper 49 = .ok (.iload 4, 2) := by decide +kernel
theorem dX11_deeper_51 : decode cX11_deeper 51 = .ok (.iadd, 1) := by decide +kernel
theorem dX11_deeper_52 : decode cX11_deeper 52 = .ok (.iconst 2, 1) := by decide +kernel
theorem dX11_deeper_53 : decode cX11_deeper 53 = .ok (.idiv, 1) := by decide +kernel
theorem dX11_deeper_54 : decode cX11_deeper 54 = .ok (.istore 6, 2) := by decide +kernel
theorem dX11_deeper_56 : decode cX11_deeper 56 = .ok (.aload_n 0, 1) := by decide +kernel
theorem dX11_deeper_57 : decode cX11_deeper 57 = .ok (.getfield 43, 3) := by decide +kernel
theorem dX11_deeper_60 : decode cX11_deeper 60 = .ok (.aload_n 2, 1) := by decide +kernel
theorem dX11_deeper_61 : decode cX11_deeper 61 = .ok (.getfield 100, 3) := by decide +kernel
theorem dX11_deeper_64 : decode cX11_deeper 64 = .ok (.aload_n 0, 1) := by decide +kernel
theorem dX11_deeper_65 : decode cX11_deeper 65 = .ok (.getfield 12, 3) := by decide +kernel
theorem dX11_deeper_68 : decode cX11_deeper 68 = .ok (.getfield 103, 3) := by decide +kernel
theorem dX11_deeper_71 : decode cX11_deeper 71 = .ok (.aload_n 0, 1) := by decide +kernel
theorem dX11_deeper_72 : decode cX11_deeper 72 = .ok (.getfield 12, 3) := by decide +kernel
theorem dX11_deeper_75 : decode cX11_deeper 75 = .ok (.getfield 133, 3) := by decide +kernel
theorem dX11_deeper_78 : decode cX11_deeper 78 = .ok (.iload 6, 2) := by decide +kernel
theorem dX11_deeper_80 : decode cX11_deeper 80 = .ok (.invokevirtual 183, 3) := by decide +kernel
theorem dX11_deeper_83 : decode cX11_deeper 83 = .ok (.bipush (-5), 2) := by decide +kernel
theorem dX11_deeper_85 : decode cX11_deeper 85 = .ok (.if_icmp .ne 9, 3) := by decide +kernel
theorem dX11_deeper_88 : decode cX11_deeper 88 = .ok (.iload 6, 2) := by decide +kernel
theorem dX11_deeper_90 : decode cX11_deeper 90 = .ok (.istore_n 3, 1) := by decide +kernel
theorem dX11_deeper_91 : decode cX11_deeper 91 = .ok (.goto 7, 3) := by decide +kernel
theorem dX11_deeper_94 : decode cX11_deeper 94 = .ok (.iload 6, 2) := by decide +kernel
theorem dX11_deeper_96 : decode cX11_deeper 96 = .ok (.istore 4, 2) := by decide +kernel
theorem dX11_deeper_98 : decode cX11_deeper 98 = .ok (.iinc 5 1, 3) := by decide +kernel
theorem dX11_deeper_101 : decode cX11_deeper 101 = .ok (.goto (-68), 3) := by decide +kernel
theorem dX11_deeper_104 : decode cX11_deeper 104 = .ok (.iload 4, 2) := by decide +kernel
theorem dX11_deeper_106 : decode cX11_deeper 106 = .ok (.bipush 30, 2) := by decide +kernel
theorem dX11_deeper_108 : decode cX11_deeper 108 = .ok (.if_icmp .le 8, 3) := by decide +kernel
theorem dX11_deeper_111 : decode cX11_deeper 111 = .ok (.bipush (-5), 2) := by decide +kernel
theorem dX11_deeper_113 : decode cX11_deeper 113 = .ok (.goto 5, 3) := by decide +kernel
theorem dX11_deeper_116 : decode cX11_deeper 116 = .ok (.iload 4, 2) := by decide +kernel
theorem dX11_deeper_118 : decode cX11_deeper 118 = .ok (.ireturn, 1) := by decide +kernel
theorem dX11_see_0 : decode cX11_see 0 = .ok (.iload_n 1, 1) := by decide +kernel
theorem dX11_see_1 : decode cX11_see 1 = .ok (.iconst (-1), 1) := by decide +kernel
theorem dX11_see_2 : decode cX11_see 2 = .ok (.if_icmp .ne 13, 3) := by decide +kernel
theorem dX11_see_5 : decode cX11_see 5 = .ok (.aload_n 0, 1) := by decide +kernel
theorem dX11_see_6 : decode cX11_see 6 = .ok (.getfield 12, 3) := by decide +kernel
theorem dX11_see_9 : decode cX11_see 9 = .ok (.iconst 0, 1) := by decide +kernel
theorem dX11_see_10 : decode cX11_see 10 = .ok (.putfield 204, 3) := by decide +kernel
theorem dX11_see_13 : decode cX11_see 13 = .ok (.iconst 0, 1) := by decide +kernel
theorem dX11_see_14 : decode cX11_see 14 = .ok (.ireturn, 1) := by decide +kernel
theorem dX11_see_15 : decode cX11_see 15 = .ok (.iload_n 1, 1) := by decide +kernel
theorem dX11_see_16 : decode cX11_see 16 = .ok (.invokestatic 64, 3) := by decide +kernel
theorem dX11_see_19 : decode cX11_see 19 = .ok (.ifCond .ne 5, 3) := by decide +kernel
theorem dX11_see_22 : decode cX11_see 22 = .ok (.iconst (-1), 1) := by decide +kernel
theorem dX11_see_23 : decode cX11_see 23 = .ok (.ireturn, 1) := by decide +kernel
theorem dX11_see_24 : decode cX11_see 24 = .ok (.iload_n 2, 1) := by decide +kernel
theorem dX11_see_25 : decode cX11_see 25 = .ok (.ifCond .lt 9, 3) := by decide +kernel
theorem dX11_see_28 : decode cX11_see 28 = .ok (.iload_n 2, 1) := by decide +kernel
theorem dX11_see_29 : decode cX11_see 29 = .ok (.bipush 30, 2) := by decide +kernel
theorem dX11_see_31 : decode cX11_see 31 = .ok (.if_icmp .le 6, 3) := by decide +kernel
theorem dX11_see_34 : decode cX11_see 34 = .ok (.bipush (-2), 2) := by decide +kernel
theorem dX11_see_36 : decode cX11_see 36 = .ok (.ireturn, 1) := by decide +kernel
theorem dX11_see_37 : decode cX11_see 37 = .ok (.aload_n 0, 1) := by decide +kernel
theorem dX11_see_38 : decode cX11_see 38 = .ok (.getfield 12, 3) := by decide +kernel
theorem dX11_see_41 : decode cX11_see 41 = .ok (.getfield 204, 3) := by decide +kernel
theorem dX11_see_44 : decode cX11_see 44 = .ok (.istore 4, 2) := by decide +kernel
theorem dX11_see_46 : decode cX11_see 46 = .ok (.iload 4, 2) := by decide +kernel
theorem dX11_see_48 : decode cX11_see 48 = .ok (.ifCond .lt 10, 3) := by decide +kernel
theorem dX11_see_51 : decode cX11_see 51 = .ok (.iload 4, 2) := by decide +kernel
theorem dX11_see_53 : decode cX11_see 53 = .ok (.bipush 6, 2) := by decide +kernel
theorem dX11_see_55 : decode cX11_see 55 = .ok (.if_icmp .lt 6, 3) := by decide +kernel
theorem dX11_see_58 : decode cX11_see 58 = .ok (.bipush (-4), 2) := by decide +kernel
theorem dX11_see_60 : decode cX11_see 60 = .ok (.ireturn, 1) := by decide +kernel
theorem dX11_see_61 : decode cX11_see 61 = .ok (.aload_n 0, 1) := by decide +kernel
theorem dX11_see_62 : decode cX11_see 62 = .ok (.getfield 12, 3) := by decide +kernel
theorem dX11_see_65 : decode cX11_see 65 = .ok (.getfield 207, 3) := by decide +kernel
theorem dX11_see_68 : decode cX11_see 68 = .ok (.iload 4, 2) := by decide +kernel
theorem dX11_see_70 : decode cX11_see 70 = .ok (.iload_n 1, 1) := by decide +kernel
theorem dX11_see_71 : decode cX11_see 71 = .ok (.iastore, 1) := by decide +kernel
theorem dX11_see_72 : decode cX11_see 72 = .ok (.aload_n 0, 1) := by decide +kernel
theorem dX11_see_73 : decode cX11_see 73 = .ok (.getfield 12, 3) := by decide +kernel
theorem dX11_see_76 : decode cX11_see 76 = .ok (.getfield 210, 3) := by decide +kernel
theorem dX11_see_79 : decode cX11_see 79 = .ok (.iload 4, 2) := by decide +kernel
theorem dX11_see_81 : decode cX11_see 81 = .ok (.iload_n 2, 1) := by decide +kernel
theorem dX11_see_82 : decode cX11_see 82 = .ok (.iastore, 1) := by decide +kernel
theorem dX11_see_83 : decode cX11_see 83 = .ok (.aload_n 0, 1) := by decide +kernel
theorem dX11_see_84 : decode cX11_see 84 = .ok (.getfield 12, 3) := by decide +kernel
theorem dX11_see_87 : decode cX11_see 87 = .ok (.getfield 213, 3) := by decide +kernel
theorem dX11_see_90 : decode cX11_see 90 = .ok (.iload 4, 2) := by decide +kernel
theorem dX11_see_92 : decode cX11_see 92 = .ok (.iload_n 3, 1) := by decide +kernel
theorem dX11_see_93 : decode cX11_see 93 = .ok (.ifCond .eq 7, 3) := by decide +kernel
theorem dX11_see_96 : decode cX11_see 96 = .ok (.iconst 1, 1) := by decide +kernel
theorem dX11_see_97 : decode cX11_see 97 = .ok (.goto 4, 3) := by decide +kernel
theorem dX11_see_100 : decode cX11_see 100 = .ok (.iconst 0, 1) := by decide +kernel
theorem dX11_see_101 : decode cX11_see 101 = .ok (.iastore, 1) := by decide +kernel
theorem dX11_see_102 : decode cX11_see 102 = .ok (.aload_n 0, 1) := by decide +kernel
theorem dX11_see_103 : decode cX11_see 103 = .ok (.getfield 12, 3) := by decide +kernel
theorem dX11_see_106 : decode cX11_see 106 = .ok (.iload 4, 2) := by decide +kernel
theorem dX11_see_108 : decode cX11_see 108 = .ok (.iconst 1, 1) := by decide +kernel
theorem dX11_see_109 : decode cX11_see 109 = .ok (.iadd, 1) := by decide +kernel
theorem dX11_see_110 : decode cX11_see 110 = .ok (.putfield 204, 3) := by decide +kernel
theorem dX11_see_113 : decode cX11_see 113 = .ok (.aload_n 0, 1) := by decide +kernel
theorem dX11_see_114 : decode cX11_see 114 = .ok (.getfield 12, 3) := by decide +kernel
theorem dX11_see_117 : decode cX11_see 117 = .ok (.getfield 204, 3) := by decide +kernel
theorem dX11_see_120 : decode cX11_see 120 = .ok (.ireturn, 1) := by decide +kernel
theorem dX11_who_0 : decode cX11_who 0 = .ok (.iconst 0, 1) := by decide +kernel
theorem dX11_who_1 : decode cX11_who 1 = .ok (.istore_n 1, 1) := by decide +kernel
theorem dX11_who_2 : decode cX11_who 2 = .ok (.iconst 0, 1) := by decide +kernel
theorem dX11_who_3 : decode cX11_who 3 = .ok (.istore_n 2, 1) := by decide +kernel
theorem dX11_who_4 : decode cX11_who 4 = .ok (.iload_n 2, 1) := by decide +kernel
theorem dX11_who_5 : decode cX11_who 5 = .ok (.aload_n 0, 1) := by decide +kernel
theorem dX11_who_6 : decode cX11_who 6 = .ok (.getfield 12, 3) := by decide +kernel
theorem dX11_who_9 : decode cX11_who 9 = .ok (.getfield 82, 3) := by decide +kernel
theorem dX11_who_12 : decode cX11_who 12 = .ok (.if_icmp .ge 36, 3) := by decide +kernel
theorem dX11_who_15 : decode cX11_who 15 = .ok (.aload_n 0, 1) := by decide +kernel
theorem dX11_who_16 : decode cX11_who 16 = .ok (.iload_n 2, 1) := by decide +kernel
theorem dX11_who_17 : decode cX11_who 17 = .ok (.invokevirtual 89, 3) := by decide +kernel
theorem dX11_who_20 : decode cX11_who 20 = .ok (.astore_n 3, 1) := by decide +kernel
theorem dX11_who_21 : decode cX11_who 21 = .ok (.aload_n 3, 1) := by decide +kernel
theorem dX11_who_22 : decode cX11_who 22 = .ok (.ifnull 20, 3) := by decide +kernel
theorem dX11_who_25 : decode cX11_who 25 = .ok (.aload_n 0, 1) := by decide +kernel
theorem dX11_who_26 : decode cX11_who 26 = .ok (.getfield 12, 3) := by decide +kernel
theorem dX11_who_29 : decode cX11_who 29 = .ok (.aload_n 3, 1) := by decide +kernel
theorem dX11_who_30 : decode cX11_who 30 = .ok (.invokevirtual 216, 3) := by decide +kernel
theorem dX11_who_33 : decode cX11_who 33 = .ok (.ifCond .eq 9, 3) := by decide +kernel
theorem dX11_who_36 : decode cX11_who 36 = .ok (.iload_n 1, 1) := by decide +kernel
theorem dX11_who_37 : decode cX11_who 37 = .ok (.iconst 1, 1) := by decide +kernel
theorem dX11_who_38 : decode cX11_who 38 = .ok (.iload_n 2, 1) := by decide +kernel
theorem dX11_who_39 : decode cX11_who 39 = .ok (.ishl, 1) := by decide +kernel
theorem dX11_who_40 : decode cX11_who 40 = .ok (.ior, 1) := by decide +kernel
theorem dX11_who_41 : decode cX11_who 41 = .ok (.istore_n 1, 1) := by decide +kernel
theorem dX11_who_42 : decode cX11_who 42 = .ok (.iinc 2 1, 3) := by decide +kernel
theorem dX11_who_45 : decode cX11_who 45 = .ok (.goto (-41), 3) := by decide +kernel
theorem dX11_who_48 : decode cX11_who 48 = .ok (.iload_n 1, 1) := by decide +kernel
theorem dX11_who_49 : decode cX11_who 49 = .ok (.ireturn, 1) := by decide +kernel
theorem dX11_odds_0 : decode cX11_odds 0 = .ok (.aload_n 0, 1) := by decide +kernel
theorem dX11_odds_1 : decode cX11_odds 1 = .ok (.iload_n 1, 1) := by decide +kernel
theorem dX11_odds_2 : decode cX11_odds 2 = .ok (.invokevirtual 89, 3) := by decide +kernel
theorem dX11_odds_5 : decode cX11_odds 5 = .ok (.astore_n 3, 1) := by decide +kernel
theorem dX11_odds_6 : decode cX11_odds 6 = .ok (.aload_n 3, 1) := by decide +kernel
theorem dX11_odds_7 : decode cX11_odds 7 = .ok (.ifnull 12, 3) := by decide +kernel
theorem dX11_odds_10 : decode cX11_odds 10 = .ok (.iload_n 2, 1) := by decide +kernel
theorem dX11_odds_11 : decode cX11_odds 11 = .ok (.ifCond .lt 8, 3) := by decide +kernel
theorem dX11_odds_14 : decode cX11_odds 14 = .ok (.iload_n 2, 1) := by decide +kernel
theorem dX11_odds_15 : decode cX11_odds 15 = .ok (.iconst 1, 1) := by decide +kernel
theorem dX11_odds_16 : decode cX11_odds 16 = .ok (.if_icmp .le 7, 3) := by decide +kernel
theorem dX11_odds_19 : decode cX11_odds 19 = .ok (.ldc2_w 220, 3) := by decide +kernel
theorem dX11_odds_22 : decode cX11_odds 22 = .ok (.lreturn, 1) := by decide +kernel
theorem dX11_odds_23 : decode cX11_odds 23 = .ok (.aload_n 0, 1) := by decide +kernel
theorem dX11_odds_24 : decode cX11_odds 24 = .ok (.getfield 43, 3) := by decide +kernel
theorem dX11_odds_27 : decode cX11_odds 27 = .ok (.aload_n 0, 1) := by decide +kernel
theorem dX11_odds_28 : decode cX11_odds 28 = .ok (.getfield 12, 3) := by decide +kernel
theorem dX11_odds_31 : decode cX11_odds 31 = .ok (.aload_n 3, 1) := by decide +kernel
theorem dX11_odds_32 : decode cX11_odds 32 = .ok (.invokevirtual 166, 3) := by decide +kernel
theorem dX11_odds_35 : decode cX11_odds 35 = .ok (.iconst 0, 1) := by decide +kernel
theorem dX11_odds_36 : decode cX11_odds 36 = .ok (.istore 4, 2) := by decide +kernel
theorem dX11_odds_38 : decode cX11_odds 38 = .ok (.iconst 0, 1) := by decide +kernel
theorem dX11_odds_39 : decode cX11_odds 39 = .ok (.istore 5, 2) := by decide +kernel
theorem dX11_odds_41 : decode cX11_odds 41 = .ok (.iload 5, 2) := by decide +kernel
theorem dX11_odds_43 : decode cX11_odds 43 = .ok (.bipush 12, 2) := by decide +kernel
theorem dX11_odds_45 : decode cX11_odds 45 = .ok (.if_icmp .ge 56, 3) := by decide +kernel
theorem dX11_odds_48 : decode cX11_odds 48 = .ok (.aload_n 0, 1) := by decide +kernel
theorem dX11_odds_49 : decode cX11_odds 49 = .ok (.getfield 43, 3) := by decide +kernel
theorem dX11_odds_52 : decode cX11_odds 52 = .ok (.aload_n 0, 1) := by decide +kernel
theorem dX11_odds_53 : decode cX11_odds 53 = .ok (.getfield 12, 3) := by decide +kernel
theorem dX11_odds_56 : decode cX11_odds 56 = .ok (.aload_n 3, 1) := by decide +kernel
theorem dX11_odds_57 : decode cX11_odds 57 = .ok (.getfield 100, 3) := by decide +kernel
theorem dX11_odds_60 : decode cX11_odds 60 = .ok (.aload_n 0, 1) := by decide +kernel
theorem dX11_odds_61 : decode cX11_odds 61 = .ok (.getfield 12, 3) := by decide +kernel
theorem dX11_odds_64 : decode cX11_odds 64 = .ok (.getfield 103, 3) := by decide +kernel
theorem dX11_odds_67 : decode cX11_odds 67 = .ok (.iload 5, 2) := by decide +kernel
theorem dX11_odds_69 : decode cX11_odds 69 = .ok (.iadd, 1) := by decide +kernel
theorem dX11_odds_70 : decode cX11_odds 70 = .ok (.iconst 0, 1) := by decide +kernel
theorem dX11_odds_71 : decode cX11_odds 71 = .ok (.aload_n 0, 1) := by decide +kernel
theorem dX11_odds_72 : decode cX11_odds 72 = .ok (.getfield 12, 3) := by decide +kernel
theorem dX11_odds_75 : decode cX11_odds 75 = .ok (.getfield 133, 3) := by decide +kernel
theorem dX11_odds_78 : decode cX11_odds 78 = .ok (.iload 5, 2) := by decide +kernel
theorem dX11_odds_80 : decode cX11_odds 80 = .ok (.isub, 1) := by decide +kernel
theorem dX11_odds_81 : decode cX11_odds 81 = .ok (.invokestatic 154, 3) := by decide +kernel
theorem dX11_odds_84 : decode cX11_odds 84 = .ok (.invokevirtual 170, 3) := by decide +kernel
theorem dX11_odds_87 : decode cX11_odds 87 = .ok (.bipush (-5), 2) := by decide +kernel
theorem dX11_odds_89 : decode cX11_odds 89 = .ok (.if_icmp .ne 6, 3) := by decide +kernel
theorem dX11_odds_92 : decode cX11_odds 92 = .ok (.iinc 4 1, 3) := by decide +kernel
theorem dX11_odds_95 : decode cX11_odds 95 = .ok (.iinc 5 1, 3) := by decide +kernel
theorem dX11_odds_98 : decode cX11_odds 98 = .ok (.goto (-57), 3) := by decide +kernel
theorem dX11_odds_101 : decode cX11_odds 101 = .ok (.iload 4, 2) := by decide +kernel
theorem dX11_odds_103 : decode cX11_odds 103 = .ok (.bipush 12, 2) := by decide +kernel
theorem dX11_odds_105 : decode cX11_odds 105 = .ok (.iload_n 2, 1) := by decide +kernel
theorem dX11_odds_106 : decode cX11_odds 106 = .ok (.invokestatic 222, 3) := by decide +kernel
theorem dX11_odds_109 : decode cX11_odds 109 = .ok (.lreturn, 1) := by decide +kernel
theorem dX11_mean_0 : decode cX11_mean 0 = .ok (.iload_n 1, 1) := by decide +kernel
theorem dX11_mean_1 : decode cX11_mean 1 = .ok (.invokestatic 64, 3) := by decide +kernel
theorem dX11_mean_4 : decode cX11_mean 4 = .ok (.ifCond .eq 23, 3) := by decide +kernel
theorem dX11_mean_7 : decode cX11_mean 7 = .ok (.iload_n 2, 1) := by decide +kernel
theorem dX11_mean_8 : decode cX11_mean 8 = .ok (.ifCond .lt 19, 3) := by decide +kernel
theorem dX11_mean_11 : decode cX11_mean 11 = .ok (.iload_n 2, 1) := by decide +kernel
theorem dX11_mean_12 : decode cX11_mean 12 = .ok (.iconst 1, 1) := by decide +kernel
theorem dX11_mean_13 : decode cX11_mean 13 = .ok (.if_icmp .gt 14, 3) := by decide +kernel
theorem dX11_mean_16 : decode cX11_mean 16 = .ok (.aload_n 0, 1) := by decide +kernel
theorem dX11_mean_17 : decode cX11_mean 17 = .ok (.getfield 12, 3) := by decide +kernel
theorem dX11_mean_20 : decode cX11_mean 20 = .ok (.getfield 82, 3) := by decide +kernel
theorem dX11_mean_23 : decode cX11_mean 23 = .ok (.iconst 1, 1) := by decide +kernel
theorem dX11_mean_24 : decode cX11_mean 24 = .ok (.if_icmp .ge 7, 3) := by decide +kernel
theorem dX11_mean_27 : decode cX11_mean 27 = .ok (.ldc2_w 220, 3) := by decide +kernel
theorem dX11_mean_30 : decode cX11_mean 30 = .ok (.lreturn, 1) := by decide +kernel
theorem dX11_mean_31 : decode cX11_mean 31 = .ok (.iconst 0, 1) := by decide +kernel
theorem dX11_mean_32 : decode cX11_mean 32 = .ok (.istore_n 3, 1) := by decide +kernel
theorem dX11_mean_33 : decode cX11_mean 33 = .ok (.iconst 0, 1) := by decide +kernel
theorem dX11_mean_34 : decode cX11_mean 34 = .ok (.istore 4, 2) := by decide +kernel
theorem dX11_mean_36 : decode cX11_mean 36 = .ok (.iload 4, 2) := by decide +kernel
theorem dX11_mean_38 : decode cX11_mean 38 = .ok (.aload_n 0, 1) := by decide +kernel
theorem dX11_mean_39 : decode cX11_mean 39 = .ok (.getfield 12, 3) := by decide +kernel
theorem dX11_mean_42 : decode cX11_mean 42 = .ok (.getfield 82, 3) := by decide +kernel
theorem dX11_mean_45 : decode cX11_mean 45 = .ok (.if_icmp .ge 42, 3) := by decide +kernel
theorem dX11_mean_48 : decode cX11_mean 48 = .ok (.aload_n 0, 1) := by decide +kernel
theorem dX11_mean_49 : decode cX11_mean 49 = .ok (.iload 4, 2) := by decide +kernel
theorem dX11_mean_51 : decode cX11_mean 51 = .ok (.invokevirtual 89, 3) := by decide +kernel
theorem dX11_mean_54 : decode cX11_mean 54 = .ok (.astore 5, 2) := by decide +kernel
theorem dX11_mean_56 : decode cX11_mean 56 = .ok (.aload 5, 2) := by decide +kernel
theorem dX11_mean_58 : decode cX11_mean 58 = .ok (.ifnull 23, 3) := by decide +kernel
theorem dX11_mean_61 : decode cX11_mean 61 = .ok (.iload_n 3, 1) := by decide +kernel
theorem dX11_mean_62 : decode cX11_mean 62 = .ok (.aload_n 0, 1) := by decide +kernel
theorem dX11_mean_63 : decode cX11_mean 63 = .ok (.getfield 12, 3) := by decide +kernel
theorem dX11_mean_66 : decode cX11_mean 66 = .ok (.aload 5, 2) := by decide +kernel
theorem dX11_mean_68 : decode cX11_mean 68 = .ok (.iload_n 1, 1) := by decide +kernel
theorem dX11_mean_69 : decode cX11_mean 69 = .ok (.aload_n 0, 1) := by decide +kernel
theorem dX11_mean_70 : decode cX11_mean 70 = .ok (.getfield 12, 3) := by decide +kernel
theorem dX11_mean_73 : decode cX11_mean 73 = .ok (.getfield 103, 3) := by decide +kernel
theorem dX11_mean_76 : decode cX11_mean 76 = .ok (.invokevirtual 106, 3) := by decide +kernel
theorem dX11_mean_79 : decode cX11_mean 79 = .ok (.iadd, 1) := by decide +kernel
theorem dX11_mean_80 : decode cX11_mean 80 = .ok (.istore_n 3, 1) := by decide +kernel
theorem dX11_mean_81 : decode cX11_mean 81 = .ok (.iinc 4 1, 3) := by decide +kernel
theorem dX11_mean_84 : decode cX11_mean 84 = .ok (.goto (-48), 3) := by decide +kernel
theorem dX11_mean_87 : decode cX11_mean 87 = .ok (.iload_n 3, 1) := by decide +kernel
theorem dX11_mean_88 : decode cX11_mean 88 = .ok (.aload_n 0, 1) := by decide +kernel
theorem dX11_mean_89 : decode cX11_mean 89 = .ok (.getfield 12, 3) := by decide +kernel
theorem dX11_mean_92 : decode cX11_mean 92 = .ok (.getfield 82, 3) := by decide +kernel
theorem dX11_mean_95 : decode cX11_mean 95 = .ok (.iload_n 2, 1) := by decide +kernel
theorem dX11_mean_96 : decode cX11_mean 96 = .ok (.invokestatic 222, 3) := by decide +kernel
theorem dX11_mean_99 : decode cX11_mean 99 = .ok (.lreturn, 1) := by decide +kernel
theorem dX11_book_0 : decode cX11_book 0 = .ok (.iload_n 1, 1) := by decide +kernel
theorem dX11_book_1 : decode cX11_book 1 = .ok (.iconst (-1), 1) := by decide +kernel
theorem dX11_book_2 : decode cX11_book 2 = .ok (.if_icmp .ne 13, 3) := by decide +kernel
theorem dX11_book_5 : decode cX11_book 5 = .ok (.aload_n 0, 1) := by decide +kernel
theorem dX11_book_6 : decode cX11_book 6 = .ok (.getfield 12, 3) := by decide +kernel
theorem dX11_book_9 : decode cX11_book 9 = .ok (.iconst 0, 1) := by decide +kernel
theorem dX11_book_10 : decode cX11_book 10 = .ok (.putfield 226, 3) := by decide +kernel
theorem dX11_book_13 : decode cX11_book 13 = .ok (.iconst 0, 1) := by decide +kernel
theorem dX11_book_14 : decode cX11_book 14 = .ok (.ireturn, 1) := by decide +kernel
theorem dX11_book_15 : decode cX11_book 15 = .ok (.iload_n 1, 1) := by decide +kernel
theorem dX11_book_16 : decode cX11_book 16 = .ok (.ifCond .lt 10, 3) := by decide +kernel
theorem dX11_book_19 : decode cX11_book 19 = .ok (.iload_n 1, 1) := by decide +kernel
theorem dX11_book_20 : decode cX11_book 20 = .ok (.sipush 999, 3) := by decide +kernel
theorem dX11_book_23 : decode cX11_book 23 = .ok (.if_icmp .le 6, 3) := by decide +kernel
theorem dX11_book_26 : decode cX11_book 26 = .ok (.bipush (-2), 2) := by decide +kernel
theorem dX11_book_28 : decode cX11_book 28 = .ok (.ireturn, 1) := by decide +kernel
theorem dX11_book_29 : decode cX11_book 29 = .ok (.aload_n 0, 1) := by decide +kernel
theorem dX11_book_30 : decode cX11_book 30 = .ok (.getfield 12, 3) := by decide +kernel
theorem dX11_book_33 : decode cX11_book 33 = .ok (.getfield 226, 3) := by decide +kernel
theorem dX11_book_36 : decode cX11_book 36 = .ok (.ifCond .lt 15, 3) := by decide +kernel
theorem dX11_book_39 : decode cX11_book 39 = .ok (.aload_n 0, 1) := by decide +kernel
theorem dX11_book_40 : decode cX11_book 40 = .ok (.getfield 12, 3) := by decide +kernel
theorem dX11_book_43 : decode cX11_book 43 = .ok (.getfield 226, 3) := by decide +kernel
theorem dX11_book_46 : decode cX11_book 46 = .ok (.bipush 12, 2) := by decide +kernel
theorem dX11_book_48 : decode cX11_book 48 = .ok (.if_icmp .lt 6, 3) := by decide +kernel
theorem dX11_book_51 : decode cX11_book 51 = .ok (.bipush (-4), 2) := by decide +kernel
theorem dX11_book_53 : decode cX11_book 53 = .ok (.ireturn, 1) := by decide +kernel
theorem dX11_book_54 : decode cX11_book 54 = .ok (.aload_n 0, 1) := by decide +kernel
theorem dX11_book_55 : decode cX11_book 55 = .ok (.getfield 12, 3) := by decide +kernel
theorem dX11_book_58 : decode cX11_book 58 = .ok (.getfield 229, 3) := by decide +kernel
theorem dX11_book_61 : decode cX11_book 61 = .ok (.aload_n 0, 1) := by decide +kernel
theorem dX11_book_62 : decode cX11_book 62 = .ok (.getfield 12, 3) := by decide +kernel
theorem dX11_book_65 : decode cX11_book 65 = .ok (.getfield 226, 3) := by decide +kernel
theorem dX11_book_68 : decode cX11_book 68 = .ok (.iload_n 1, 1) := by decide +kernel
theorem dX11_book_69 : decode cX11_book 69 = .ok (.iastore, 1) := by decide +kernel
theorem dX11_book_70 : decode cX11_book 70 = .ok (.aload_n 0, 1) := by decide +kernel
theorem dX11_book_71 : decode cX11_book 71 = .ok (.getfield 12, 3) := by decide +kernel
theorem dX11_book_74 : decode cX11_book 74 = .ok (.dup, 1) := by decide +kernel
theorem dX11_book_75 : decode cX11_book 75 = .ok (.getfield 226, 3) := by decide +kernel
theorem dX11_book_78 : decode cX11_book 78 = .ok (.iconst 1, 1) := by decide +kernel
theorem dX11_book_79 : decode cX11_book 79 = .ok (.iadd, 1) := by decide +kernel
theorem dX11_book_80 : decode cX11_book 80 = .ok (.putfield 226, 3) := by decide +kernel
theorem dX11_book_83 : decode cX11_book 83 = .ok (.aload_n 0, 1) := by decide +kernel
theorem dX11_book_84 : decode cX11_book 84 = .ok (.getfield 12, 3) := by decide +kernel
theorem dX11_book_87 : decode cX11_book 87 = .ok (.getfield 226, 3) := by decide +kernel
theorem dX11_book_90 : decode cX11_book 90 = .ok (.ireturn, 1) := by decide +kernel
theorem dX11_looked_0 : decode cX11_looked 0 = .ok (.iconst 0, 1) := by decide +kernel
theorem dX11_looked_1 : decode cX11_looked 1 = .ok (.istore_n 1, 1) := by decide +kernel
theorem dX11_looked_2 : decode cX11_looked 2 = .ok (.iload_n 1, 1) := by decide +kernel
theorem dX11_looked_3 : decode cX11_looked 3 = .ok (.aload_n 0, 1) := by decide +kernel
theorem dX11_looked_4 : decode cX11_looked 4 = .ok (.getfield 12, 3) := by decide +kernel
theorem dX11_looked_7 : decode cX11_looked 7 = .ok (.getfield 226, 3) := by decide +kernel
theorem dX11_looked_10 : decode cX11_looked 10 = .ok (.if_icmp .ge 47, 3) := by decide +kernel
theorem dX11_looked_13 : decode cX11_looked 13 = .ok (.iload_n 1, 1) := by decide +kernel
theorem dX11_looked_14 : decode cX11_looked 14 = .ok (.bipush 12, 2) := by decide +kernel
theorem dX11_looked_16 : decode cX11_looked 16 = .ok (.if_icmp .ge 41, 3) := by decide +kernel
theorem dX11_looked_19 : decode cX11_looked 19 = .ok (.aload_n 0, 1) := by decide +kernel
theorem dX11_looked_20 : decode cX11_looked 20 = .ok (.getfield 12, 3) := by decide +kernel
theorem dX11_looked_23 : decode cX11_looked 23 = .ok (.getfield 229, 3) := by decide +kernel
theorem dX11_looked_26 : decode cX11_looked 26 = .ok (.iload_n 1, 1) := by decide +kernel
theorem dX11_looked_27 : decode cX11_looked 27 = .ok (.iaload, 1) := by decide +kernel
theorem dX11_looked_28 : decode cX11_looked 28 = .ok (.aload_n 0, 1) := by decide +kernel
theorem dX11_looked_29 : decode cX11_looked 29 = .ok (.getfield 12, 3) := by decide +kernel
theorem dX11_looked_32 : decode cX11_looked 32 = .ok (.aload_n 0, 1) := by decide +kernel
theorem dX11_looked_33 : decode cX11_looked 33 = .ok (.getfield 12, 3) := by decide +kernel
theorem dX11_looked_36 : decode cX11_looked 36 = .ok (.getfield 103, 3) := by decide +kernel
theorem dX11_looked_39 : decode cX11_looked 39 = .ok (.iload_n 1, 1) := by decide +kernel
theorem dX11_looked_40 : decode cX11_looked 40 = .ok (.iadd, 1) := by decide +kernel
theorem dX11_looked_41 : decode cX11_looked 41 = .ok (.iconst 1, 1) := by decide +kernel
theorem dX11_looked_42 : decode cX11_looked 42 = .ok (.iadd, 1) := by decide +kernel
theorem dX11_looked_43 : decode cX11_looked 43 = .ok (.invokevirtual 140, 3) := by decide +kernel
theorem dX11_looked_46 : decode cX11_looked 46 = .ok (.if_icmp .eq 5, 3) := by decide +kernel
theorem dX11_looked_49 : decode cX11_looked 49 = .ok (.iload_n 1, 1) := by decide +kernel
theorem dX11_looked_50 : decode cX11_looked 50 = .ok (.ireturn, 1) := by decide +kernel
theorem dX11_looked_51 : decode cX11_looked 51 = .ok (.iinc 1 1, 3) := by decide +kernel
theorem dX11_looked_54 : decode cX11_looked 54 = .ok (.goto (-52), 3) := by decide +kernel
theorem dX11_looked_57 : decode cX11_looked 57 = .ok (.bipush (-5), 2) := by decide +kernel
theorem dX11_looked_59 : decode cX11_looked 59 = .ok (.ireturn, 1) := by decide +kernel
theorem dX11_judge_0 : decode cX11_judge 0 = .ok (.iload_n 1, 1) := by decide +kernel
theorem dX11_judge_1 : decode cX11_judge 1 = .ok (.invokestatic 232, 3) := by decide +kernel
theorem dX11_judge_4 : decode cX11_judge 4 = .ok (.ifCond .ne 5, 3) := by decide +kernel
theorem dX11_judge_7 : decode cX11_judge 7 = .ok (.iconst (-1), 1) := by decide +kernel
theorem dX11_judge_8 : decode cX11_judge 8 = .ok (.ireturn, 1) := by decide +kernel
theorem dX11_judge_9 : decode cX11_judge 9 = .ok (.aload_n 0, 1) := by decide +kernel
theorem dX11_judge_10 : decode cX11_judge 10 = .ok (.getfield 47, 3) := by decide +kernel
theorem dX11_judge_13 : decode cX11_judge 13 = .ok (.iload_n 1, 1) := by decide +kernel
theorem dX11_judge_14 : decode cX11_judge 14 = .ok (.iaload, 1) := by decide +kernel
theorem dX11_judge_15 : decode cX11_judge 15 = .ok (.iconst (-1), 1) := by decide +kernel
theorem dX11_judge_16 : decode cX11_judge 16 = .ok (.if_icmp .eq 15, 3) := by decide +kernel
theorem dX11_judge_19 : decode cX11_judge 19 = .ok (.aload_n 0, 1) := by decide +kernel
theorem dX11_judge_20 : decode cX11_judge 20 = .ok (.getfield 47, 3) := by decide +kernel
theorem dX11_judge_23 : decode cX11_judge 23 = .ok (.iload_n 1, 1) := by decide +kernel
theorem dX11_judge_24 : decode cX11_judge 24 = .ok (.iaload, 1) := by decide +kernel
theorem dX11_judge_25 : decode cX11_judge 25 = .ok (.ifCond .eq 6, 3) := by decide +kernel
theorem dX11_judge_28 : decode cX11_judge 28 = .ok (.bipush (-12), 2) := by decide +kernel
theorem dX11_judge_30 : decode cX11_judge 30 = .ok (.ireturn, 1) := by decide +kernel
theorem dX11_judge_31 : decode cX11_judge 31 = .ok (.aload_n 0, 1) := by decide +kernel
theorem dX11_judge_32 : decode cX11_judge 32 = .ok (.getfield 47, 3) := by decide +kernel
theorem dX11_judge_35 : decode cX11_judge 35 = .ok (.iload_n 1, 1) := by decide +kernel
theorem dX11_judge_36 : decode cX11_judge 36 = .ok (.iaload, 1) := by decide +kernel
theorem dX11_judge_37 : decode cX11_judge 37 = .ok (.ifCond .ne 17, 3) := by decide +kernel
theorem dX11_judge_40 : decode cX11_judge 40 = .ok (.aload_n 0, 1) := by decide +kernel
theorem dX11_judge_41 : decode cX11_judge 41 = .ok (.getfield 51, 3) := by decide +kernel
theorem dX11_judge_44 : decode cX11_judge 44 = .ok (.iload_n 1, 1) := by decide +kernel
theorem dX11_judge_45 : decode cX11_judge 45 = .ok (.iaload, 1) := by decide +kernel
theorem dX11_judge_46 : decode cX11_judge 46 = .ok (.bipush 60, 2) := by decide +kernel
theorem dX11_judge_48 : decode cX11_judge 48 = .ok (.invokestatic 235, 3) := by decide +kernel
theorem dX11_judge_51 : decode cX11_judge 51 = .ok (.goto 4, 3) := by decide +kernel
theorem dX11_judge_54 : decode cX11_judge 54 = .ok (.iconst 0, 1) := by decide +kernel
theorem dX11_judge_55 : decode cX11_judge 55 = .ok (.istore_n 3, 1) := by decide +kernel
theorem dX11_judge_56 : decode cX11_judge 56 = .ok (.iload_n 2, 1) := by decide +kernel
theorem dX11_judge_57 : decode cX11_judge 57 = .ok (.ifCond .lt 8, 3) := by decide +kernel
theorem dX11_judge_60 : decode cX11_judge 60 = .ok (.iload_n 2, 1) := by decide +kernel
theorem dX11_judge_61 : decode cX11_judge 61 = .ok (.iload_n 3, 1) := by decide +kernel
theorem dX11_judge_62 : decode cX11_judge 62 = .ok (.if_icmp .lt 6, 3) := by decide +kernel
theorem dX11_judge_65 : decode cX11_judge 65 = .ok (.bipush 100, 2) := by decide +kernel
theorem dX11_judge_67 : decode cX11_judge 67 = .ok (.ireturn, 1) := by decide +kernel
theorem dX11_judge_68 : decode cX11_judge 68 = .ok (.iconst 0, 1) := by decide +kernel
theorem dX11_judge_69 : decode cX11_judge 69 = .ok (.istore 4, 2) := by decide +kernel
theorem dX11_judge_71 : decode cX11_judge 71 = .ok (.iload 4, 2) := by decide +kernel
theorem dX11_judge_73 : decode cX11_judge 73 = .ok (.bipush 12, 2) := by decide +kernel
theorem dX11_judge_75 : decode cX11_judge 75 = .ok (.if_icmp .ge 54, 3) := by decide +kernel
theorem dX11_judge_78 : decode cX11_judge 78 = .ok (.iload_n 2, 1) := by decide +kernel
theorem dX11_judge_79 : decode cX11_judge 79 = .ok (.iload 4, 2) := by decide +kernel
theorem dX11_judge_81 : decode cX11_judge 81 = .ok (.iadd, 1) := by decide +kernel
theorem dX11_judge_82 : decode cX11_judge 82 = .ok (.istore 5, 2) := by decide +kernel
theorem dX11_judge_84 : decode cX11_judge 84 = .ok (.iload 5, 2) := by decide +kernel
theorem dX11_judge_86 : decode cX11_judge 86 = .ok (.iload_n 3, 1) := by decide +kernel
theorem dX11_judge_87 : decode cX11_judge 87 = .ok (.if_icmp .lt 9, 3) := by decide +kernel
theorem dX11_judge_90 : decode cX11_judge 90 = .ok (.bipush 100, 2) := by decide +kernel
theorem dX11_judge_92 : decode cX11_judge 92 = .ok (.iload 4, 2) := by decide +kernel
theorem dX11_judge_94 : decode cX11_judge 94 = .ok (.iadd, 1) := by decide +kernel
theorem dX11_judge_95 : decode cX11_judge 95 = .ok (.ireturn, 1) := by decide +kernel
theorem dX11_judge_96 : decode cX11_judge 96 = .ok (.aload_n 0, 1) := by decide +kernel
theorem dX11_judge_97 : decode cX11_judge 97 = .ok (.getfield 56, 3) := by decide +kernel
theorem dX11_judge_100 : decode cX11_judge 100 = .ok (.iload_n 1, 1) := by decide +kernel
theorem dX11_judge_101 : decode cX11_judge 101 = .ok (.aaload, 1) := by decide +kernel
theorem dX11_judge_102 : decode cX11_judge 102 = .ok (.iload 5, 2) := by decide +kernel
theorem dX11_judge_104 : decode cX11_judge 104 = .ok (.laload, 1) := by decide +kernel
theorem dX11_judge_105 : decode cX11_judge 105 = .ok (.aload_n 0, 1) := by decide +kernel
theorem dX11_judge_106 : decode cX11_judge 106 = .ok (.getfield 12, 3) := by decide +kernel
theorem dX11_judge_109 : decode cX11_judge 109 = .ok (.getfield 68, 3) := by decide +kernel
theorem dX11_judge_112 : decode cX11_judge 112 = .ok (.iload 4, 2) := by decide +kernel
theorem dX11_judge_114 : decode cX11_judge 114 = .ok (.iaload, 1) := by decide +kernel
theorem dX11_judge_115 : decode cX11_judge 115 = .ok (.i2l, 1) := by decide +kernel
theorem dX11_judge_116 : decode cX11_judge 116 = .ok (.lcmp, 1) := by decide +kernel
theorem dX11_judge_117 : decode cX11_judge 117 = .ok (.ifCond .eq 6, 3) := by decide +kernel
theorem dX11_judge_120 : decode cX11_judge 120 = .ok (.iload 4, 2) := by decide +kernel
theorem dX11_judge_122 : decode cX11_judge 122 = .ok (.ireturn, 1) := by decide +kernel
theorem dX11_judge_123 : decode cX11_judge 123 = .ok (.iinc 4 1, 3) := by decide +kernel
theorem dX11_judge_126 : decode cX11_judge 126 = .ok (.goto (-55), 3) := by decide +kernel
theorem dX11_judge_129 : decode cX11_judge 129 = .ok (.bipush (-5), 2) := by decide +kernel
theorem dX11_judge_131 : decode cX11_judge 131 = .ok (.ireturn, 1) := by decide +kernel
theorem dX11_image_0 : decode cX11_image 0 = .ok (.aload_n 0, 1) := by decide +kernel
theorem dX11_image_1 : decode cX11_image 1 = .ok (.getfield 18, 3) := by decide +kernel
theorem dX11_image_4 : decode cX11_image 4 = .ok (.aload_n 0, 1) := by decide +kernel
theorem dX11_image_5 : decode cX11_image 5 = .ok (.getfield 12, 3) := by decide +kernel
theorem dX11_image_8 : decode cX11_image 8 = .ok (.invokevirtual 238, 3) := by decide +kernel
