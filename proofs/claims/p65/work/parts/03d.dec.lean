theorem dX1_init_0 : decode cX1_init 0 = .ok (.aload_n 0, 1) := by decide +kernel
theorem dX1_init_1 : decode cX1_init 1 = .ok (.invokespecial 3, 3) := by decide +kernel
theorem dX1_init_4 : decode cX1_init 4 = .ok (.aload_n 0, 1) := by decide +kernel
theorem dX1_init_5 : decode cX1_init 5 = .ok (.bipush 8, 2) := by decide +kernel
theorem dX1_init_7 : decode cX1_init 7 = .ok (.anewarray 9, 3) := by decide +kernel
theorem dX1_init_10 : decode cX1_init 10 = .ok (.putfield 11, 3) := by decide +kernel
theorem dX1_init_13 : decode cX1_init 13 = .ok (.iconst 0, 1) := by decide +kernel
theorem dX1_init_14 : decode cX1_init 14 = .ok (.istore_n 2, 1) := by decide +kernel
theorem dX1_init_15 : decode cX1_init 15 = .ok (.iload_n 2, 1) := by decide +kernel
theorem dX1_init_16 : decode cX1_init 16 = .ok (.aload_n 0, 1) := by decide +kernel
theorem dX1_init_17 : decode cX1_init 17 = .ok (.getfield 11, 3) := by decide +kernel
theorem dX1_init_20 : decode cX1_init 20 = .ok (.arraylength, 1) := by decide +kernel
theorem dX1_init_21 : decode cX1_init 21 = .ok (.if_icmp .ge 23, 3) := by decide +kernel
theorem dX1_init_24 : decode cX1_init 24 = .ok (.aload_n 0, 1) := by decide +kernel
theorem dX1_init_25 : decode cX1_init 25 = .ok (.getfield 11, 3) := by decide +kernel
theorem dX1_init_28 : decode cX1_init 28 = .ok (.iload_n 2, 1) := by decide +kernel
theorem dX1_init_29 : decode cX1_init 29 = .ok (.new 9, 3) := by decide +kernel
theorem dX1_init_32 : decode cX1_init 32 = .ok (.dup, 1) := by decide +kernel
theorem dX1_init_33 : decode cX1_init 33 = .ok (.aload_n 1, 1) := by decide +kernel
theorem dX1_init_34 : decode cX1_init 34 = .ok (.invokespecial 17, 3) := by decide +kernel
theorem dX1_init_37 : decode cX1_init 37 = .ok (.aastore, 1) := by decide +kernel
theorem dX1_init_38 : decode cX1_init 38 = .ok (.iinc 2 1, 3) := by decide +kernel
theorem dX1_init_41 : decode cX1_init 41 = .ok (.goto (-26), 3) := by decide +kernel
theorem dX1_init_44 : decode cX1_init 44 = .ok (.return_, 1) := by decide +kernel
theorem dX1_clear_0 : decode cX1_clear 0 = .ok (.aload_n 0, 1) := by decide +kernel
theorem dX1_clear_1 : decode cX1_clear 1 = .ok (.iconst 0, 1) := by decide +kernel
theorem dX1_clear_2 : decode cX1_clear 2 = .ok (.putfield 20, 3) := by decide +kernel
theorem dX1_clear_5 : decode cX1_clear 5 = .ok (.return_, 1) := by decide +kernel
theorem dX1_push_0 : decode cX1_push 0 = .ok (.aload_n 0, 1) := by decide +kernel
theorem dX1_push_1 : decode cX1_push 1 = .ok (.getfield 24, 3) := by decide +kernel
theorem dX1_push_4 : decode cX1_push 4 = .ok (.ifCond .lt 15, 3) := by decide +kernel
theorem dX1_push_7 : decode cX1_push 7 = .ok (.aload_n 0, 1) := by decide +kernel
theorem dX1_push_8 : decode cX1_push 8 = .ok (.getfield 24, 3) := by decide +kernel
theorem dX1_push_11 : decode cX1_push 11 = .ok (.aload_n 0, 1) := by decide +kernel
theorem dX1_push_12 : decode cX1_push 12 = .ok (.getfield 11, 3) := by decide +kernel
theorem dX1_push_15 : decode cX1_push 15 = .ok (.arraylength, 1) := by decide +kernel
theorem dX1_push_16 : decode cX1_push 16 = .ok (.if_icmp .lt 4, 3) := by decide +kernel
theorem dX1_push_19 : decode cX1_push 19 = .ok (.return_, 1) := by decide +kernel
theorem dX1_push_20 : decode cX1_push 20 = .ok (.aload_n 0, 1) := by decide +kernel
theorem dX1_push_21 : decode cX1_push 21 = .ok (.getfield 11, 3) := by decide +kernel
theorem dX1_push_24 : decode cX1_push 24 = .ok (.aload_n 0, 1) := by decide +kernel
theorem dX1_push_25 : decode cX1_push 25 = .ok (.getfield 24, 3) := by decide +kernel
theorem dX1_push_28 : decode cX1_push 28 = .ok (.aaload, 1) := by decide +kernel
theorem dX1_push_29 : decode cX1_push 29 = .ok (.astore_n 2, 1) := by decide +kernel
theorem dX1_push_30 : decode cX1_push 30 = .ok (.aload_n 2, 1) := by decide +kernel
theorem dX1_push_31 : decode cX1_push 31 = .ok (.ifnull 48, 3) := by decide +kernel
theorem dX1_push_34 : decode cX1_push 34 = .ok (.aload_n 2, 1) := by decide +kernel
theorem dX1_push_35 : decode cX1_push 35 = .ok (.aload_n 1, 1) := by decide +kernel
theorem dX1_push_36 : decode cX1_push 36 = .ok (.invokevirtual 27, 3) := by decide +kernel
theorem dX1_push_39 : decode cX1_push 39 = .ok (.aload_n 0, 1) := by decide +kernel
theorem dX1_push_40 : decode cX1_push 40 = .ok (.aload_n 0, 1) := by decide +kernel
theorem dX1_push_41 : decode cX1_push 41 = .ok (.getfield 24, 3) := by decide +kernel
theorem dX1_push_44 : decode cX1_push 44 = .ok (.iconst 1, 1) := by decide +kernel
theorem dX1_push_45 : decode cX1_push 45 = .ok (.iadd, 1) := by decide +kernel
theorem dX1_push_46 : decode cX1_push 46 = .ok (.bipush 8, 2) := by decide +kernel
theorem dX1_push_48 : decode cX1_push 48 = .ok (.if_icmp .ge 12, 3) := by decide +kernel
theorem dX1_push_51 : decode cX1_push 51 = .ok (.aload_n 0, 1) := by decide +kernel
theorem dX1_push_52 : decode cX1_push 52 = .ok (.getfield 24, 3) := by decide +kernel
theorem dX1_push_55 : decode cX1_push 55 = .ok (.iconst 1, 1) := by decide +kernel
theorem dX1_push_56 : decode cX1_push 56 = .ok (.iadd, 1) := by decide +kernel
theorem dX1_push_57 : decode cX1_push 57 = .ok (.goto 4, 3) := by decide +kernel
theorem dX1_push_60 : decode cX1_push 60 = .ok (.iconst 0, 1) := by decide +kernel
theorem dX1_push_61 : decode cX1_push 61 = .ok (.putfield 24, 3) := by decide +kernel
theorem dX1_push_64 : decode cX1_push 64 = .ok (.aload_n 0, 1) := by decide +kernel
theorem dX1_push_65 : decode cX1_push 65 = .ok (.bipush 8, 2) := by decide +kernel
theorem dX1_push_67 : decode cX1_push 67 = .ok (.aload_n 0, 1) := by decide +kernel
theorem dX1_push_68 : decode cX1_push 68 = .ok (.getfield 20, 3) := by decide +kernel
theorem dX1_push_71 : decode cX1_push 71 = .ok (.iconst 1, 1) := by decide +kernel
theorem dX1_push_72 : decode cX1_push 72 = .ok (.iadd, 1) := by decide +kernel
theorem dX1_push_73 : decode cX1_push 73 = .ok (.invokestatic 31, 3) := by decide +kernel
theorem dX1_push_76 : decode cX1_push 76 = .ok (.putfield 20, 3) := by decide +kernel
theorem dX1_push_79 : decode cX1_push 79 = .ok (.return_, 1) := by decide +kernel
theorem dX2_init_0 : decode cX2_init 0 = .ok (.aload_n 0, 1) := by decide +kernel
theorem dX2_init_1 : decode cX2_init 1 = .ok (.invokespecial 3, 3) := by decide +kernel
theorem dX2_init_4 : decode cX2_init 4 = .ok (.aload_n 0, 1) := by decide +kernel
theorem dX2_init_5 : decode cX2_init 5 = .ok (.iconst 2, 1) := by decide +kernel
theorem dX2_init_6 : decode cX2_init 6 = .ok (.newarray .int, 2) := by decide +kernel
theorem dX2_init_8 : decode cX2_init 8 = .ok (.putfield 9, 3) := by decide +kernel
theorem dX2_init_11 : decode cX2_init 11 = .ok (.aload_n 0, 1) := by decide +kernel
theorem dX2_init_12 : decode cX2_init 12 = .ok (.bipush 10, 2) := by decide +kernel
theorem dX2_init_14 : decode cX2_init 14 = .ok (.newarray .int, 2) := by decide +kernel
theorem dX2_init_16 : decode cX2_init 16 = .ok (.putfield 15, 3) := by decide +kernel
theorem dX2_init_19 : decode cX2_init 19 = .ok (.aload_n 0, 1) := by decide +kernel
theorem dX2_init_20 : decode cX2_init 20 = .ok (.bipush 10, 2) := by decide +kernel
theorem dX2_init_22 : decode cX2_init 22 = .ok (.newarray .int, 2) := by decide +kernel
theorem dX2_init_24 : decode cX2_init 24 = .ok (.putfield 18, 3) := by decide +kernel
theorem dX2_init_27 : decode cX2_init 27 = .ok (.aload_n 0, 1) := by decide +kernel
theorem dX2_init_28 : decode cX2_init 28 = .ok (.bipush 10, 2) := by decide +kernel
theorem dX2_init_30 : decode cX2_init 30 = .ok (.newarray .int, 2) := by decide +kernel
theorem dX2_init_32 : decode cX2_init 32 = .ok (.putfield 21, 3) := by decide +kernel
theorem dX2_init_35 : decode cX2_init 35 = .ok (.aload_n 0, 1) := by decide +kernel
theorem dX2_init_36 : decode cX2_init 36 = .ok (.bipush 10, 2) := by decide +kernel
theorem dX2_init_38 : decode cX2_init 38 = .ok (.newarray .int, 2) := by decide +kernel
theorem dX2_init_40 : decode cX2_init 40 = .ok (.putfield 24, 3) := by decide +kernel
theorem dX2_init_43 : decode cX2_init 43 = .ok (.aload_n 0, 1) := by decide +kernel
theorem dX2_init_44 : decode cX2_init 44 = .ok (.bipush 10, 2) := by decide +kernel
theorem dX2_init_46 : decode cX2_init 46 = .ok (.newarray .int, 2) := by decide +kernel
theorem dX2_init_48 : decode cX2_init 48 = .ok (.putfield 27, 3) := by decide +kernel
theorem dX2_init_51 : decode cX2_init 51 = .ok (.aload_n 0, 1) := by decide +kernel
theorem dX2_init_52 : decode cX2_init 52 = .ok (.bipush 10, 2) := by decide +kernel
theorem dX2_init_54 : decode cX2_init 54 = .ok (.newarray .int, 2) := by decide +kernel
theorem dX2_init_56 : decode cX2_init 56 = .ok (.putfield 30, 3) := by decide +kernel
theorem dX2_init_59 : decode cX2_init 59 = .ok (.aload_n 0, 1) := by decide +kernel
theorem dX2_init_60 : decode cX2_init 60 = .ok (.bipush 10, 2) := by decide +kernel
theorem dX2_init_62 : decode cX2_init 62 = .ok (.newarray .int, 2) := by decide +kernel
theorem dX2_init_64 : decode cX2_init 64 = .ok (.putfield 33, 3) := by decide +kernel
theorem dX2_init_67 : decode cX2_init 67 = .ok (.aload_n 0, 1) := by decide +kernel
theorem dX2_init_68 : decode cX2_init 68 = .ok (.bipush 10, 2) := by decide +kernel
theorem dX2_init_70 : decode cX2_init 70 = .ok (.newarray .int, 2) := by decide +kernel
theorem dX2_init_72 : decode cX2_init 72 = .ok (.putfield 36, 3) := by decide +kernel
theorem dX2_init_75 : decode cX2_init 75 = .ok (.aload_n 0, 1) := by decide +kernel
theorem dX2_init_76 : decode cX2_init 76 = .ok (.new 39, 3) := by decide +kernel
theorem dX2_init_79 : decode cX2_init 79 = .ok (.dup, 1) := by decide +kernel
theorem dX2_init_80 : decode cX2_init 80 = .ok (.invokespecial 41, 3) := by decide +kernel
theorem dX2_init_83 : decode cX2_init 83 = .ok (.putfield 42, 3) := by decide +kernel
theorem dX2_init_86 : decode cX2_init 86 = .ok (.aload_n 0, 1) := by decide +kernel
theorem dX2_init_87 : decode cX2_init 87 = .ok (.new 39, 3) := by decide +kernel
theorem dX2_init_90 : decode cX2_init 90 = .ok (.dup, 1) := by decide +kernel
theorem dX2_init_91 : decode cX2_init 91 = .ok (.invokespecial 41, 3) := by decide +kernel
theorem dX2_init_94 : decode cX2_init 94 = .ok (.putfield 46, 3) := by decide +kernel
theorem dX2_init_97 : decode cX2_init 97 = .ok (.aload_n 0, 1) := by decide +kernel
theorem dX2_init_98 : decode cX2_init 98 = .ok (.aload_n 1, 1) := by decide +kernel
theorem dX2_init_99 : decode cX2_init 99 = .ok (.putfield 49, 3) := by decide +kernel
theorem dX2_init_102 : decode cX2_init 102 = .ok (.return_, 1) := by decide +kernel
theorem dX2_begin_0 : decode cX2_begin 0 = .ok (.aload_n 0, 1) := by decide +kernel
theorem dX2_begin_1 : decode cX2_begin 1 = .ok (.iconst 0, 1) := by decide +kernel
theorem dX2_begin_2 : decode cX2_begin 2 = .ok (.putfield 53, 3) := by decide +kernel
theorem dX2_begin_5 : decode cX2_begin 5 = .ok (.aload_n 0, 1) := by decide +kernel
theorem dX2_begin_6 : decode cX2_begin 6 = .ok (.aload_n 0, 1) := by decide +kernel
theorem dX2_begin_7 : decode cX2_begin 7 = .ok (.getfield 49, 3) := by decide +kernel
theorem dX2_begin_10 : decode cX2_begin 10 = .ok (.getfield 57, 3) := by decide +kernel
theorem dX2_begin_13 : decode cX2_begin 13 = .ok (.putfield 62, 3) := by decide +kernel
theorem dX2_begin_16 : decode cX2_begin 16 = .ok (.aload_n 0, 1) := by decide +kernel
theorem dX2_begin_17 : decode cX2_begin 17 = .ok (.iconst 0, 1) := by decide +kernel
theorem dX2_begin_18 : decode cX2_begin 18 = .ok (.putfield 63, 3) := by decide +kernel
theorem dX2_begin_21 : decode cX2_begin 21 = .ok (.aload_n 0, 1) := by decide +kernel
theorem dX2_begin_22 : decode cX2_begin 22 = .ok (.getfield 9, 3) := by decide +kernel
theorem dX2_begin_25 : decode cX2_begin 25 = .ok (.iconst 0, 1) := by decide +kernel
theorem dX2_begin_26 : decode cX2_begin 26 = .ok (.iconst 0, 1) := by decide +kernel
theorem dX2_begin_27 : decode cX2_begin 27 = .ok (.invokestatic 66, 3) := by decide +kernel
theorem dX2_begin_30 : decode cX2_begin 30 = .ok (.aload_n 0, 1) := by decide +kernel
theorem dX2_begin_31 : decode cX2_begin 31 = .ok (.getfield 9, 3) := by decide +kernel
theorem dX2_begin_34 : decode cX2_begin 34 = .ok (.iconst 1, 1) := by decide +kernel
theorem dX2_begin_35 : decode cX2_begin 35 = .ok (.iconst 0, 1) := by decide +kernel
theorem dX2_begin_36 : decode cX2_begin 36 = .ok (.invokestatic 66, 3) := by decide +kernel
theorem dX2_begin_39 : decode cX2_begin 39 = .ok (.aload_n 0, 1) := by decide +kernel
theorem dX2_begin_40 : decode cX2_begin 40 = .ok (.getfield 42, 3) := by decide +kernel
theorem dX2_begin_43 : decode cX2_begin 43 = .ok (.iconst 0, 1) := by decide +kernel
theorem dX2_begin_44 : decode cX2_begin 44 = .ok (.putfield 70, 3) := by decide +kernel
theorem dX2_begin_47 : decode cX2_begin 47 = .ok (.aload_n 0, 1) := by decide +kernel
theorem dX2_begin_48 : decode cX2_begin 48 = .ok (.getfield 46, 3) := by decide +kernel
theorem dX2_begin_51 : decode cX2_begin 51 = .ok (.iconst 0, 1) := by decide +kernel
theorem dX2_begin_52 : decode cX2_begin 52 = .ok (.putfield 70, 3) := by decide +kernel
theorem dX2_begin_55 : decode cX2_begin 55 = .ok (.aload_n 0, 1) := by decide +kernel
theorem dX2_begin_56 : decode cX2_begin 56 = .ok (.getfield 49, 3) := by decide +kernel
theorem dX2_begin_59 : decode cX2_begin 59 = .ok (.getfield 73, 3) := by decide +kernel
theorem dX2_begin_62 : decode cX2_begin 62 = .ok (.aload_n 0, 1) := by decide +kernel
theorem dX2_begin_63 : decode cX2_begin 63 = .ok (.getfield 15, 3) := by decide +kernel
theorem dX2_begin_66 : decode cX2_begin 66 = .ok (.invokestatic 74, 3) := by decide +kernel
theorem dX2_begin_69 : decode cX2_begin 69 = .ok (.aload_n 0, 1) := by decide +kernel
theorem dX2_begin_70 : decode cX2_begin 70 = .ok (.getfield 49, 3) := by decide +kernel
theorem dX2_begin_73 : decode cX2_begin 73 = .ok (.getfield 78, 3) := by decide +kernel
theorem dX2_begin_76 : decode cX2_begin 76 = .ok (.aload_n 0, 1) := by decide +kernel
theorem dX2_begin_77 : decode cX2_begin 77 = .ok (.getfield 18, 3) := by decide +kernel
theorem dX2_begin_80 : decode cX2_begin 80 = .ok (.invokestatic 74, 3) := by decide +kernel
theorem dX2_begin_83 : decode cX2_begin 83 = .ok (.aload_n 0, 1) := by decide +kernel
theorem dX2_begin_84 : decode cX2_begin 84 = .ok (.getfield 49, 3) := by decide +kernel
theorem dX2_begin_87 : decode cX2_begin 87 = .ok (.getfield 79, 3) := by decide +kernel
theorem dX2_begin_90 : decode cX2_begin 90 = .ok (.aload_n 0, 1) := by decide +kernel
theorem dX2_begin_91 : decode cX2_begin 91 = .ok (.getfield 21, 3) := by decide +kernel
theorem dX2_begin_94 : decode cX2_begin 94 = .ok (.invokestatic 74, 3) := by decide +kernel
theorem dX2_begin_97 : decode cX2_begin 97 = .ok (.aload_n 0, 1) := by decide +kernel
theorem dX2_begin_98 : decode cX2_begin 98 = .ok (.getfield 49, 3) := by decide +kernel
theorem dX2_begin_101 : decode cX2_begin 101 = .ok (.getfield 73, 3) := by decide +kernel
theorem dX2_begin_104 : decode cX2_begin 104 = .ok (.aload_n 0, 1) := by decide +kernel
theorem dX2_begin_105 : decode cX2_begin 105 = .ok (.getfield 33, 3) := by decide +kernel
theorem dX2_begin_108 : decode cX2_begin 108 = .ok (.invokestatic 74, 3) := by decide +kernel
theorem dX2_begin_111 : decode cX2_begin 111 = .ok (.iconst 0, 1) := by decide +kernel
theorem dX2_begin_112 : decode cX2_begin 112 = .ok (.istore_n 1, 1) := by decide +kernel
theorem dX2_begin_113 : decode cX2_begin 113 = .ok (.iload_n 1, 1) := by decide +kernel
theorem dX2_begin_114 : decode cX2_begin 114 = .ok (.bipush 10, 2) := by decide +kernel
theorem dX2_begin_116 : decode cX2_begin 116 = .ok (.if_icmp .ge 60, 3) := by decide +kernel
theorem dX2_begin_119 : decode cX2_begin 119 = .ok (.aload_n 0, 1) := by decide +kernel
theorem dX2_begin_120 : decode cX2_begin 120 = .ok (.getfield 24, 3) := by decide +kernel
theorem dX2_begin_123 : decode cX2_begin 123 = .ok (.iload_n 1, 1) := by decide +kernel
theorem dX2_begin_124 : decode cX2_begin 124 = .ok (.iload_n 1, 1) := by decide +kernel
theorem dX2_begin_125 : decode cX2_begin 125 = .ok (.invokestatic 66, 3) := by decide +kernel
theorem dX2_begin_128 : decode cX2_begin 128 = .ok (.aload_n 0, 1) := by decide +kernel
theorem dX2_begin_129 : decode cX2_begin 129 = .ok (.getfield 27, 3) := by decide +kernel
theorem dX2_begin_132 : decode cX2_begin 132 = .ok (.iload_n 1, 1) := by decide +kernel
theorem dX2_begin_133 : decode cX2_begin 133 = .ok (.iconst 0, 1) := by decide +kernel
theorem dX2_begin_134 : decode cX2_begin 134 = .ok (.invokestatic 66, 3) := by decide +kernel
theorem dX2_begin_137 : decode cX2_begin 137 = .ok (.aload_n 0, 1) := by decide +kernel
theorem dX2_begin_138 : decode cX2_begin 138 = .ok (.getfield 30, 3) := by decide +kernel
theorem dX2_begin_141 : decode cX2_begin 141 = .ok (.iload_n 1, 1) := by decide +kernel
theorem dX2_begin_142 : decode cX2_begin 142 = .ok (.aload_n 0, 1) := by decide +kernel
theorem dX2_begin_143 : decode cX2_begin 143 = .ok (.getfield 49, 3) := by decide +kernel
theorem dX2_begin_146 : decode cX2_begin 146 = .ok (.iload_n 1, 1) := by decide +kernel
theorem dX2_begin_147 : decode cX2_begin 147 = .ok (.invokevirtual 80, 3) := by decide +kernel
theorem dX2_begin_150 : decode cX2_begin 150 = .ok (.ifCond .eq 7, 3) := by decide +kernel
theorem dX2_begin_153 : decode cX2_begin 153 = .ok (.iload_n 1, 1) := by decide +kernel
theorem dX2_begin_154 : decode cX2_begin 154 = .ok (.goto 4, 3) := by decide +kernel
theorem dX2_begin_157 : decode cX2_begin 157 = .ok (.iconst (-1), 1) := by decide +kernel
theorem dX2_begin_158 : decode cX2_begin 158 = .ok (.invokestatic 66, 3) := by decide +kernel
theorem dX2_begin_161 : decode cX2_begin 161 = .ok (.aload_n 0, 1) := by decide +kernel
theorem dX2_begin_162 : decode cX2_begin 162 = .ok (.getfield 36, 3) := by decide +kernel
theorem dX2_begin_165 : decode cX2_begin 165 = .ok (.iload_n 1, 1) := by decide +kernel
theorem dX2_begin_166 : decode cX2_begin 166 = .ok (.iconst 0, 1) := by decide +kernel
theorem dX2_begin_167 : decode cX2_begin 167 = .ok (.invokestatic 66, 3) := by decide +kernel
theorem dX2_begin_170 : decode cX2_begin 170 = .ok (.iinc 1 1, 3) := by decide +kernel
theorem dX2_begin_173 : decode cX2_begin 173 = .ok (.goto (-60), 3) := by decide +kernel
theorem dX2_begin_176 : decode cX2_begin 176 = .ok (.return_, 1) := by decide +kernel
theorem dX2_copyFrom_0 : decode cX2_copyFrom 0 = .ok (.aload_n 0, 1) := by decide +kernel
theorem dX2_copyFrom_1 : decode cX2_copyFrom 1 = .ok (.aload_n 1, 1) := by decide +kernel
theorem dX2_copyFrom_2 : decode cX2_copyFrom 2 = .ok (.getfield 53, 3) := by decide +kernel
theorem dX2_copyFrom_5 : decode cX2_copyFrom 5 = .ok (.putfield 53, 3) := by decide +kernel
theorem dX2_copyFrom_8 : decode cX2_copyFrom 8 = .ok (.aload_n 0, 1) := by decide +kernel
theorem dX2_copyFrom_9 : decode cX2_copyFrom 9 = .ok (.aload_n 1, 1) := by decide +kernel
theorem dX2_copyFrom_10 : decode cX2_copyFrom 10 = .ok (.getfield 62, 3) := by decide +kernel
theorem dX2_copyFrom_13 : decode cX2_copyFrom 13 = .ok (.putfield 62, 3) := by decide +kernel
theorem dX2_copyFrom_16 : decode cX2_copyFrom 16 = .ok (.aload_n 0, 1) := by decide +kernel
theorem dX2_copyFrom_17 : decode cX2_copyFrom 17 = .ok (.aload_n 1, 1) := by decide +kernel
theorem dX2_copyFrom_18 : decode cX2_copyFrom 18 = .ok (.getfield 63, 3) := by decide +kernel
theorem dX2_copyFrom_21 : decode cX2_copyFrom 21 = .ok (.putfield 63, 3) := by decide +kernel
theorem dX2_copyFrom_24 : decode cX2_copyFrom 24 = .ok (.aload_n 1, 1) := by decide +kernel
theorem dX2_copyFrom_25 : decode cX2_copyFrom 25 = .ok (.getfield 9, 3) := by decide +kernel
theorem dX2_copyFrom_28 : decode cX2_copyFrom 28 = .ok (.aload_n 0, 1) := by decide +kernel
theorem dX2_copyFrom_29 : decode cX2_copyFrom 29 = .ok (.getfield 9, 3) := by decide +kernel
theorem dX2_copyFrom_32 : decode cX2_copyFrom 32 = .ok (.invokestatic 74, 3) := by decide +kernel
theorem dX2_copyFrom_35 : decode cX2_copyFrom 35 = .ok (.aload_n 1, 1) := by decide +kernel
theorem dX2_copyFrom_36 : decode cX2_copyFrom 36 = .ok (.getfield 15, 3) := by decide +kernel
theorem dX2_copyFrom_39 : decode cX2_copyFrom 39 = .ok (.aload_n 0, 1) := by decide +kernel
theorem dX2_copyFrom_40 : decode cX2_copyFrom 40 = .ok (.getfield 15, 3) := by decide +kernel
theorem dX2_copyFrom_43 : decode cX2_copyFrom 43 = .ok (.invokestatic 74, 3) := by decide +kernel
theorem dX2_copyFrom_46 : decode cX2_copyFrom 46 = .ok (.aload_n 1, 1) := by decide +kernel
theorem dX2_copyFrom_47 : decode cX2_copyFrom 47 = .ok (.getfield 18, 3) := by decide +kernel
theorem dX2_copyFrom_50 : decode cX2_copyFrom 50 = .ok (.aload_n 0, 1) := by decide +kernel
theorem dX2_copyFrom_51 : decode cX2_copyFrom 51 = .ok (.getfield 18, 3) := by decide +kernel
theorem dX2_copyFrom_54 : decode cX2_copyFrom 54 = .ok (.invokestatic 74, 3) := by decide +kernel
theorem dX2_copyFrom_57 : decode cX2_copyFrom 57 = .ok (.aload_n 1, 1) := by decide +kernel
theorem dX2_copyFrom_58 : decode cX2_copyFrom 58 = .ok (.getfield 21, 3) := by decide +kernel
theorem dX2_copyFrom_61 : decode cX2_copyFrom 61 = .ok (.aload_n 0, 1) := by decide +kernel
theorem dX2_copyFrom_62 : decode cX2_copyFrom 62 = .ok (.getfield 21, 3) := by decide +kernel
theorem dX2_copyFrom_65 : decode cX2_copyFrom 65 = .ok (.invokestatic 74, 3) := by decide +kernel
theorem dX2_copyFrom_68 : decode cX2_copyFrom 68 = .ok (.aload_n 1, 1) := by decide +kernel
theorem dX2_copyFrom_69 : decode cX2_copyFrom 69 = .ok (.getfield 24, 3) := by decide +kernel
theorem dX2_copyFrom_72 : decode cX2_copyFrom 72 = .ok (.aload_n 0, 1) := by decide +kernel
theorem dX2_copyFrom_73 : decode cX2_copyFrom 73 = .ok (.getfield 24, 3) := by decide +kernel
theorem dX2_copyFrom_76 : decode cX2_copyFrom 76 = .ok (.invokestatic 74, 3) := by decide +kernel
theorem dX2_copyFrom_79 : decode cX2_copyFrom 79 = .ok (.aload_n 1, 1) := by decide +kernel
theorem dX2_copyFrom_80 : decode cX2_copyFrom 80 = .ok (.getfield 27, 3) := by decide +kernel
theorem dX2_copyFrom_83 : decode cX2_copyFrom 83 = .ok (.aload_n 0, 1) := by decide +kernel
theorem dX2_copyFrom_84 : decode cX2_copyFrom 84 = .ok (.getfield 27, 3) := by decide +kernel
theorem dX2_copyFrom_87 : decode cX2_copyFrom 87 = .ok (.invokestatic 74, 3) := by decide +kernel
theorem dX2_copyFrom_90 : decode cX2_copyFrom 90 = .ok (.aload_n 1, 1) := by decide +kernel
theorem dX2_copyFrom_91 : decode cX2_copyFrom 91 = .ok (.getfield 30, 3) := by decide +kernel
theorem dX2_copyFrom_94 : decode cX2_copyFrom 94 = .ok (.aload_n 0, 1) := by decide +kernel
theorem dX2_copyFrom_95 : decode cX2_copyFrom 95 = .ok (.getfield 30, 3) := by decide +kernel
theorem dX2_copyFrom_98 : decode cX2_copyFrom 98 = .ok (.invokestatic 74, 3) := by decide +kernel
theorem dX2_copyFrom_101 : decode cX2_copyFrom 101 = .ok (.aload_n 1, 1) := by decide +kernel
theorem dX2_copyFrom_102 : decode cX2_copyFrom 102 = .ok (.getfield 33, 3) := by decide +kernel
theorem dX2_copyFrom_105 : decode cX2_copyFrom 105 = .ok (.aload_n 0, 1) := by decide +kernel
theorem dX2_copyFrom_106 : decode cX2_copyFrom 106 = .ok (.getfield 33, 3) := by decide +kernel
theorem dX2_copyFrom_109 : decode cX2_copyFrom 109 = .ok (.invokestatic 74, 3) := by decide +kernel
theorem dX2_copyFrom_112 : decode cX2_copyFrom 112 = .ok (.aload_n 1, 1) := by decide +kernel
theorem dX2_copyFrom_113 : decode cX2_copyFrom 113 = .ok (.getfield 36, 3) := by decide +kernel
theorem dX2_copyFrom_116 : decode cX2_copyFrom 116 = .ok (.aload_n 0, 1) := by decide +kernel
theorem dX2_copyFrom_117 : decode cX2_copyFrom 117 = .ok (.getfield 36, 3) := by decide +kernel
theorem dX2_copyFrom_120 : decode cX2_copyFrom 120 = .ok (.invokestatic 74, 3) := by decide +kernel
theorem dX2_copyFrom_123 : decode cX2_copyFrom 123 = .ok (.aload_n 0, 1) := by decide +kernel
theorem dX2_copyFrom_124 : decode cX2_copyFrom 124 = .ok (.getfield 42, 3) := by decide +kernel
theorem dX2_copyFrom_127 : decode cX2_copyFrom 127 = .ok (.aload_n 1, 1) := by decide +kernel
theorem dX2_copyFrom_128 : decode cX2_copyFrom 128 = .ok (.getfield 42, 3) := by decide +kernel
theorem dX2_copyFrom_131 : decode cX2_copyFrom 131 = .ok (.invokevirtual 84, 3) := by decide +kernel
theorem dX2_copyFrom_134 : decode cX2_copyFrom 134 = .ok (.aload_n 0, 1) := by decide +kernel
theorem dX2_copyFrom_135 : decode cX2_copyFrom 135 = .ok (.getfield 46, 3) := by decide +kernel
theorem dX2_copyFrom_138 : decode cX2_copyFrom 138 = .ok (.aload_n 1, 1) := by decide +kernel
theorem dX2_copyFrom_139 : decode cX2_copyFrom 139 = .ok (.getfield 46, 3) := by decide +kernel
theorem dX2_copyFrom_142 : decode cX2_copyFrom 142 = .ok (.invokevirtual 84, 3) := by decide +kernel
theorem dX2_copyFrom_145 : decode cX2_copyFrom 145 = .ok (.return_, 1) := by decide +kernel
theorem dX2_peopleOn_0 : decode cX2_peopleOn 0 = .ok (.iconst 0, 1) := by decide +kernel
theorem dX2_peopleOn_1 : decode cX2_peopleOn 1 = .ok (.istore_n 2, 1) := by decide +kernel
theorem dX2_peopleOn_2 : decode cX2_peopleOn 2 = .ok (.iconst 0, 1) := by decide +kernel
theorem dX2_peopleOn_3 : decode cX2_peopleOn 3 = .ok (.istore_n 3, 1) := by decide +kernel
theorem dX2_peopleOn_4 : decode cX2_peopleOn 4 = .ok (.iload_n 3, 1) := by decide +kernel
theorem dX2_peopleOn_5 : decode cX2_peopleOn 5 = .ok (.aload_n 0, 1) := by decide +kernel
theorem dX2_peopleOn_6 : decode cX2_peopleOn 6 = .ok (.getfield 49, 3) := by decide +kernel
theorem dX2_peopleOn_9 : decode cX2_peopleOn 9 = .ok (.getfield 88, 3) := by decide +kernel
theorem dX2_peopleOn_12 : decode cX2_peopleOn 12 = .ok (.if_icmp .ge 24, 3) := by decide +kernel
theorem dX2_peopleOn_15 : decode cX2_peopleOn 15 = .ok (.aload_n 0, 1) := by decide +kernel
theorem dX2_peopleOn_16 : decode cX2_peopleOn 16 = .ok (.getfield 15, 3) := by decide +kernel
theorem dX2_peopleOn_19 : decode cX2_peopleOn 19 = .ok (.iload_n 3, 1) := by decide +kernel
theorem dX2_peopleOn_20 : decode cX2_peopleOn 20 = .ok (.invokestatic 91, 3) := by decide +kernel
theorem dX2_peopleOn_23 : decode cX2_peopleOn 23 = .ok (.iload_n 1, 1) := by decide +kernel
theorem dX2_peopleOn_24 : decode cX2_peopleOn 24 = .ok (.if_icmp .ne 6, 3) := by decide +kernel
theorem dX2_peopleOn_27 : decode cX2_peopleOn 27 = .ok (.iinc 2 1, 3) := by decide +kernel
theorem dX2_peopleOn_30 : decode cX2_peopleOn 30 = .ok (.iinc 3 1, 3) := by decide +kernel
theorem dX2_peopleOn_33 : decode cX2_peopleOn 33 = .ok (.goto (-29), 3) := by decide +kernel
theorem dX2_peopleOn_36 : decode cX2_peopleOn 36 = .ok (.iload_n 2, 1) := by decide +kernel
theorem dX2_peopleOn_37 : decode cX2_peopleOn 37 = .ok (.ireturn, 1) := by decide +kernel
theorem dX2_wearerOf_0 : decode cX2_wearerOf 0 = .ok (.iconst 0, 1) := by decide +kernel
theorem dX2_wearerOf_1 : decode cX2_wearerOf 1 = .ok (.istore_n 2, 1) := by decide +kernel
theorem dX2_wearerOf_2 : decode cX2_wearerOf 2 = .ok (.iload_n 2, 1) := by decide +kernel
theorem dX2_wearerOf_3 : decode cX2_wearerOf 3 = .ok (.aload_n 0, 1) := by decide +kernel
theorem dX2_wearerOf_4 : decode cX2_wearerOf 4 = .ok (.getfield 49, 3) := by decide +kernel
theorem dX2_wearerOf_7 : decode cX2_wearerOf 7 = .ok (.getfield 88, 3) := by decide +kernel
theorem dX2_wearerOf_10 : decode cX2_wearerOf 10 = .ok (.if_icmp .ge 23, 3) := by decide +kernel
theorem dX2_wearerOf_13 : decode cX2_wearerOf 13 = .ok (.aload_n 0, 1) := by decide +kernel
theorem dX2_wearerOf_14 : decode cX2_wearerOf 14 = .ok (.getfield 24, 3) := by decide +kernel
theorem dX2_wearerOf_17 : decode cX2_wearerOf 17 = .ok (.iload_n 2, 1) := by decide +kernel
theorem dX2_wearerOf_18 : decode cX2_wearerOf 18 = .ok (.invokestatic 91, 3) := by decide +kernel
theorem dX2_wearerOf_21 : decode cX2_wearerOf 21 = .ok (.iload_n 1, 1) := by decide +kernel
theorem dX2_wearerOf_22 : decode cX2_wearerOf 22 = .ok (.if_icmp .ne 5, 3) := by decide +kernel
theorem dX2_wearerOf_25 : decode cX2_wearerOf 25 = .ok (.iload_n 2, 1) := by decide +kernel
theorem dX2_wearerOf_26 : decode cX2_wearerOf 26 = .ok (.ireturn, 1) := by decide +kernel
theorem dX2_wearerOf_27 : decode cX2_wearerOf 27 = .ok (.iinc 2 1, 3) := by decide +kernel
theorem dX2_wearerOf_30 : decode cX2_wearerOf 30 = .ok (.goto (-28), 3) := by decide +kernel
theorem dX2_wearerOf_33 : decode cX2_wearerOf 33 = .ok (.iconst (-1), 1) := by decide +kernel
theorem dX2_wearerOf_34 : decode cX2_wearerOf 34 = .ok (.ireturn, 1) := by decide +kernel
theorem dX2_coinsInAll_0 : decode cX2_coinsInAll 0 = .ok (.aload_n 0, 1) := by decide +kernel
theorem dX2_coinsInAll_1 : decode cX2_coinsInAll 1 = .ok (.getfield 63, 3) := by decide +kernel
theorem dX2_coinsInAll_4 : decode cX2_coinsInAll 4 = .ok (.aload_n 0, 1) := by decide +kernel
theorem dX2_coinsInAll_5 : decode cX2_coinsInAll 5 = .ok (.getfield 9, 3) := by decide +kernel
theorem dX2_coinsInAll_8 : decode cX2_coinsInAll 8 = .ok (.iconst 0, 1) := by decide +kernel
theorem dX2_coinsInAll_9 : decode cX2_coinsInAll 9 = .ok (.invokestatic 91, 3) := by decide +kernel
theorem dX2_coinsInAll_12 : decode cX2_coinsInAll 12 = .ok (.iadd, 1) := by decide +kernel
theorem dX2_coinsInAll_13 : decode cX2_coinsInAll 13 = .ok (.aload_n 0, 1) := by decide +kernel
theorem dX2_coinsInAll_14 : decode cX2_coinsInAll 14 = .ok (.getfield 9, 3) := by decide +kernel
theorem dX2_coinsInAll_17 : decode cX2_coinsInAll 17 = .ok (.iconst 1, 1) := by decide +kernel
theorem dX2_coinsInAll_18 : decode cX2_coinsInAll 18 = .ok (.invokestatic 91, 3) := by decide +kernel
theorem dX2_coinsInAll_21 : decode cX2_coinsInAll 21 = .ok (.iadd, 1) := by decide +kernel
theorem dX2_coinsInAll_22 : decode cX2_coinsInAll 22 = .ok (.istore_n 1, 1) := by decide +kernel
theorem dX2_coinsInAll_23 : decode cX2_coinsInAll 23 = .ok (.iconst 0, 1) := by decide +kernel
theorem dX2_coinsInAll_24 : decode cX2_coinsInAll 24 = .ok (.istore_n 2, 1) := by decide +kernel
theorem dX2_coinsInAll_25 : decode cX2_coinsInAll 25 = .ok (.iload_n 2, 1) := by decide +kernel
theorem dX2_coinsInAll_26 : decode cX2_coinsInAll 26 = .ok (.aload_n 0, 1) := by decide +kernel
theorem dX2_coinsInAll_27 : decode cX2_coinsInAll 27 = .ok (.getfield 49, 3) := by decide +kernel
theorem dX2_coinsInAll_30 : decode cX2_coinsInAll 30 = .ok (.getfield 88, 3) := by decide +kernel
theorem dX2_coinsInAll_33 : decode cX2_coinsInAll 33 = .ok (.if_icmp .ge 20, 3) := by decide +kernel
theorem dX2_coinsInAll_36 : decode cX2_coinsInAll 36 = .ok (.iload_n 1, 1) := by decide +kernel
theorem dX2_coinsInAll_37 : decode cX2_coinsInAll 37 = .ok (.aload_n 0, 1) := by decide +kernel
theorem dX2_coinsInAll_38 : decode cX2_coinsInAll 38 = .ok (.getfield 18, 3) := by decide +kernel
theorem dX2_coinsInAll_41 : decode cX2_coinsInAll 41 = .ok (.iload_n 2, 1) := by decide +kernel
theorem dX2_coinsInAll_42 : decode cX2_coinsInAll 42 = .ok (.invokestatic 91, 3) := by decide +kernel
theorem dX2_coinsInAll_45 : decode cX2_coinsInAll 45 = .ok (.iadd, 1) := by decide +kernel
theorem dX2_coinsInAll_46 : decode cX2_coinsInAll 46 = .ok (.istore_n 1, 1) := by decide +kernel
theorem dX2_coinsInAll_47 : decode cX2_coinsInAll 47 = .ok (.iinc 2 1, 3) := by decide +kernel
theorem dX2_coinsInAll_50 : decode cX2_coinsInAll 50 = .ok (.goto (-25), 3) := by decide +kernel
theorem dX2_coinsInAll_53 : decode cX2_coinsInAll 53 = .ok (.iload_n 1, 1) := by decide +kernel
theorem dX2_coinsInAll_54 : decode cX2_coinsInAll 54 = .ok (.ireturn, 1) := by decide +kernel
theorem dX2_royalCoinBank_0 : decode cX2_royalCoinBank 0 = .ok (.aload_n 0, 1) := by decide +kernel
theorem dX2_royalCoinBank_1 : decode cX2_royalCoinBank 1 = .ok (.getfield 30, 3) := by decide +kernel
theorem dX2_royalCoinBank_4 : decode cX2_royalCoinBank 4 = .ok (.iload_n 1, 1) := by decide +kernel
theorem dX2_royalCoinBank_5 : decode cX2_royalCoinBank 5 = .ok (.invokestatic 91, 3) := by decide +kernel
theorem dX2_royalCoinBank_8 : decode cX2_royalCoinBank 8 = .ok (.istore_n 2, 1) := by decide +kernel
theorem dX2_royalCoinBank_9 : decode cX2_royalCoinBank 9 = .ok (.iload_n 2, 1) := by decide +kernel
theorem dX2_royalCoinBank_10 : decode cX2_royalCoinBank 10 = .ok (.iconst (-1), 1) := by decide +kernel
theorem dX2_royalCoinBank_11 : decode cX2_royalCoinBank 11 = .ok (.if_icmp .ne 14, 3) := by decide +kernel
theorem dX2_royalCoinBank_14 : decode cX2_royalCoinBank 14 = .ok (.aload_n 0, 1) := by decide +kernel
theorem dX2_royalCoinBank_15 : decode cX2_royalCoinBank 15 = .ok (.getfield 33, 3) := by decide +kernel
theorem dX2_royalCoinBank_18 : decode cX2_royalCoinBank 18 = .ok (.iload_n 1, 1) := by decide +kernel
theorem dX2_royalCoinBank_19 : decode cX2_royalCoinBank 19 = .ok (.invokestatic 91, 3) := by decide +kernel
theorem dX2_royalCoinBank_22 : decode cX2_royalCoinBank 22 = .ok (.goto 11, 3) := by decide +kernel
theorem dX2_royalCoinBank_25 : decode cX2_royalCoinBank 25 = .ok (.aload_n 0, 1) := by decide +kernel
theorem dX2_royalCoinBank_26 : decode cX2_royalCoinBank 26 = .ok (.getfield 15, 3) := by decide +kernel
theorem dX2_royalCoinBank_29 : decode cX2_royalCoinBank 29 = .ok (.iload_n 2, 1) := by decide +kernel
theorem dX2_royalCoinBank_30 : decode cX2_royalCoinBank 30 = .ok (.invokestatic 91, 3) := by decide +kernel
theorem dX2_royalCoinBank_33 : decode cX2_royalCoinBank 33 = .ok (.ireturn, 1) := by decide +kernel
theorem dX2_royalCoinsOf_0 : decode cX2_royalCoinsOf 0 = .ok (.iconst 0, 1) := by decide +kernel
theorem dX2_royalCoinsOf_1 : decode cX2_royalCoinsOf 1 = .ok (.istore_n 2, 1) := by decide +kernel
theorem dX2_royalCoinsOf_2 : decode cX2_royalCoinsOf 2 = .ok (.iconst 0, 1) := by decide +kernel
theorem dX2_royalCoinsOf_3 : decode cX2_royalCoinsOf 3 = .ok (.istore_n 3, 1) := by decide +kernel
theorem dX2_royalCoinsOf_4 : decode cX2_royalCoinsOf 4 = .ok (.iload_n 3, 1) := by decide +kernel
theorem dX2_royalCoinsOf_5 : decode cX2_royalCoinsOf 5 = .ok (.aload_n 0, 1) := by decide +kernel
theorem dX2_royalCoinsOf_6 : decode cX2_royalCoinsOf 6 = .ok (.getfield 49, 3) := by decide +kernel
theorem dX2_royalCoinsOf_9 : decode cX2_royalCoinsOf 9 = .ok (.getfield 88, 3) := by decide +kernel
theorem dX2_royalCoinsOf_12 : decode cX2_royalCoinsOf 12 = .ok (.if_icmp .ge 24, 3) := by decide +kernel
theorem dX2_royalCoinsOf_15 : decode cX2_royalCoinsOf 15 = .ok (.aload_n 0, 1) := by decide +kernel
theorem dX2_royalCoinsOf_16 : decode cX2_royalCoinsOf 16 = .ok (.getfield 30, 3) := by decide +kernel
theorem dX2_royalCoinsOf_19 : decode cX2_royalCoinsOf 19 = .ok (.iload_n 3, 1) := by decide +kernel
theorem dX2_royalCoinsOf_20 : decode cX2_royalCoinsOf 20 = .ok (.invokestatic 91, 3) := by decide +kernel
theorem dX2_royalCoinsOf_23 : decode cX2_royalCoinsOf 23 = .ok (.iload_n 1, 1) := by decide +kernel
theorem dX2_royalCoinsOf_24 : decode cX2_royalCoinsOf 24 = .ok (.if_icmp .ne 6, 3) := by decide +kernel
theorem dX2_royalCoinsOf_27 : decode cX2_royalCoinsOf 27 = .ok (.iinc 2 1, 3) := by decide +kernel
theorem dX2_royalCoinsOf_30 : decode cX2_royalCoinsOf 30 = .ok (.iinc 3 1, 3) := by decide +kernel
theorem dX2_royalCoinsOf_33 : decode cX2_royalCoinsOf 33 = .ok (.goto (-29), 3) := by decide +kernel
theorem dX2_royalCoinsOf_36 : decode cX2_royalCoinsOf 36 = .ok (.iload_n 2, 1) := by decide +kernel
theorem dX2_royalCoinsOf_37 : decode cX2_royalCoinsOf 37 = .ok (.ireturn, 1) := by decide +kernel
theorem dX2_countedInAll_0 : decode cX2_countedInAll 0 = .ok (.iconst 0, 1) := by decide +kernel
theorem dX2_countedInAll_1 : decode cX2_countedInAll 1 = .ok (.istore_n 1, 1) := by decide +kernel
theorem dX2_countedInAll_2 : decode cX2_countedInAll 2 = .ok (.iconst 0, 1) := by decide +kernel
theorem dX2_countedInAll_3 : decode cX2_countedInAll 3 = .ok (.istore_n 2, 1) := by decide +kernel
theorem dX2_countedInAll_4 : decode cX2_countedInAll 4 = .ok (.iload_n 2, 1) := by decide +kernel
theorem dX2_countedInAll_5 : decode cX2_countedInAll 5 = .ok (.aload_n 0, 1) := by decide +kernel
theorem dX2_countedInAll_6 : decode cX2_countedInAll 6 = .ok (.getfield 49, 3) := by decide +kernel
theorem dX2_countedInAll_9 : decode cX2_countedInAll 9 = .ok (.getfield 88, 3) := by decide +kernel
theorem dX2_countedInAll_12 : decode cX2_countedInAll 12 = .ok (.if_icmp .ge 20, 3) := by decide +kernel
theorem dX2_countedInAll_15 : decode cX2_countedInAll 15 = .ok (.iload_n 1, 1) := by decide +kernel
theorem dX2_countedInAll_16 : decode cX2_countedInAll 16 = .ok (.aload_n 0, 1) := by decide +kernel
theorem dX2_countedInAll_17 : decode cX2_countedInAll 17 = .ok (.getfield 36, 3) := by decide +kernel
theorem dX2_countedInAll_20 : decode cX2_countedInAll 20 = .ok (.iload_n 2, 1) := by decide +kernel
theorem dX2_countedInAll_21 : decode cX2_countedInAll 21 = .ok (.invokestatic 91, 3) := by decide +kernel
theorem dX2_countedInAll_24 : decode cX2_countedInAll 24 = .ok (.iadd, 1) := by decide +kernel
theorem dX2_countedInAll_25 : decode cX2_countedInAll 25 = .ok (.istore_n 1, 1) := by decide +kernel
theorem dX2_countedInAll_26 : decode cX2_countedInAll 26 = .ok (.iinc 2 1, 3) := by decide +kernel
theorem dX2_countedInAll_29 : decode cX2_countedInAll 29 = .ok (.goto (-25), 3) := by decide +kernel
theorem dX2_countedInAll_32 : decode cX2_countedInAll 32 = .ok (.iload_n 1, 1) := by decide +kernel
theorem dX2_countedInAll_33 : decode cX2_countedInAll 33 = .ok (.ireturn, 1) := by decide +kernel
theorem dX2_keeperAngleIn_0 : decode cX2_keeperAngleIn 0 = .ok (.bipush 80, 2) := by decide +kernel
theorem dX2_keeperAngleIn_2 : decode cX2_keeperAngleIn 2 = .ok (.aload_n 0, 1) := by decide +kernel
theorem dX2_keeperAngleIn_3 : decode cX2_keeperAngleIn 3 = .ok (.getfield 49, 3) := by decide +kernel
theorem dX2_keeperAngleIn_6 : decode cX2_keeperAngleIn 6 = .ok (.getfield 95, 3) := by decide +kernel
theorem dX2_keeperAngleIn_9 : decode cX2_keeperAngleIn 9 = .ok (.iload_n 2, 1) := by decide +kernel
theorem dX2_keeperAngleIn_10 : decode cX2_keeperAngleIn 10 = .ok (.invokestatic 91, 3) := by decide +kernel
theorem dX2_keeperAngleIn_13 : decode cX2_keeperAngleIn 13 = .ok (.isub, 1) := by decide +kernel
theorem dX2_keeperAngleIn_14 : decode cX2_keeperAngleIn 14 = .ok (.aload_n 0, 1) := by decide +kernel
theorem dX2_keeperAngleIn_15 : decode cX2_keeperAngleIn 15 = .ok (.getfield 21, 3) := by decide +kernel
theorem dX2_keeperAngleIn_18 : decode cX2_keeperAngleIn 18 = .ok (.iload_n 1, 1) := by decide +kernel
theorem dX2_keeperAngleIn_19 : decode cX2_keeperAngleIn 19 = .ok (.invokestatic 91, 3) := by decide +kernel
theorem dX2_keeperAngleIn_22 : decode cX2_keeperAngleIn 22 = .ok (.isub, 1) := by decide +kernel
theorem dX2_keeperAngleIn_23 : decode cX2_keeperAngleIn 23 = .ok (.aload_n 0, 1) := by decide +kernel
theorem dX2_keeperAngleIn_24 : decode cX2_keeperAngleIn 24 = .ok (.getfield 49, 3) := by decide +kernel
theorem dX2_keeperAngleIn_27 : decode cX2_keeperAngleIn 27 = .ok (.getfield 98, 3) := by decide +kernel
theorem dX2_keeperAngleIn_30 : decode cX2_keeperAngleIn 30 = .ok (.iload_n 1, 1) := by decide +kernel
theorem dX2_keeperAngleIn_31 : decode cX2_keeperAngleIn 31 = .ok (.invokestatic 91, 3) := by decide +kernel
theorem dX2_keeperAngleIn_34 : decode cX2_keeperAngleIn 34 = .ok (.invokestatic 101, 3) := by decide +kernel
theorem dX2_keeperAngleIn_37 : decode cX2_keeperAngleIn 37 = .ok (.ireturn, 1) := by decide +kernel
theorem dX2_angleOf_0 : decode cX2_angleOf 0 = .ok (.iload_n 0, 1) := by decide +kernel
theorem dX2_angleOf_1 : decode cX2_angleOf 1 = .ok (.ifCond .ge 7, 3) := by decide +kernel
theorem dX2_angleOf_4 : decode cX2_angleOf 4 = .ok (.iconst 0, 1) := by decide +kernel
theorem dX2_angleOf_5 : decode cX2_angleOf 5 = .ok (.goto 15, 3) := by decide +kernel
theorem dX2_angleOf_8 : decode cX2_angleOf 8 = .ok (.iload_n 0, 1) := by decide +kernel
theorem dX2_angleOf_9 : decode cX2_angleOf 9 = .ok (.bipush 90, 2) := by decide +kernel
theorem dX2_angleOf_11 : decode cX2_angleOf 11 = .ok (.if_icmp .le 8, 3) := by decide +kernel
theorem dX2_angleOf_14 : decode cX2_angleOf 14 = .ok (.bipush 90, 2) := by decide +kernel
theorem dX2_angleOf_16 : decode cX2_angleOf 16 = .ok (.goto 4, 3) := by decide +kernel
theorem dX2_angleOf_19 : decode cX2_angleOf 19 = .ok (.iload_n 0, 1) := by decide +kernel
theorem dX2_angleOf_20 : decode cX2_angleOf 20 = .ok (.istore_n 2, 1) := by decide +kernel
theorem dX2_angleOf_21 : decode cX2_angleOf 21 = .ok (.iload_n 1, 1) := by decide +kernel
theorem dX2_angleOf_22 : decode cX2_angleOf 22 = .ok (.iconst 1, 1) := by decide +kernel
theorem dX2_angleOf_23 : decode cX2_angleOf 23 = .ok (.if_icmp .ne 9, 3) := by decide +kernel
theorem dX2_angleOf_26 : decode cX2_angleOf 26 = .ok (.iload_n 2, 1) := by decide +kernel
theorem dX2_angleOf_27 : decode cX2_angleOf 27 = .ok (.iconst 2, 1) := by decide +kernel
theorem dX2_angleOf_28 : decode cX2_angleOf 28 = .ok (.idiv, 1) := by decide +kernel
theorem dX2_angleOf_29 : decode cX2_angleOf 29 = .ok (.goto 4, 3) := by decide +kernel
theorem dX2_angleOf_32 : decode cX2_angleOf 32 = .ok (.iload_n 2, 1) := by decide +kernel
theorem dX2_angleOf_33 : decode cX2_angleOf 33 = .ok (.ireturn, 1) := by decide +kernel
theorem dX2_queueOn_0 : decode cX2_queueOn 0 = .ok (.iload_n 1, 1) := by decide +kernel
theorem dX2_queueOn_1 : decode cX2_queueOn 1 = .ok (.iconst 1, 1) := by decide +kernel
theorem dX2_queueOn_2 : decode cX2_queueOn 2 = .ok (.if_icmp .ne 10, 3) := by decide +kernel
theorem dX2_queueOn_5 : decode cX2_queueOn 5 = .ok (.aload_n 0, 1) := by decide +kernel
theorem dX2_queueOn_6 : decode cX2_queueOn 6 = .ok (.getfield 46, 3) := by decide +kernel
theorem dX2_queueOn_9 : decode cX2_queueOn 9 = .ok (.goto 7, 3) := by decide +kernel
theorem dX2_queueOn_12 : decode cX2_queueOn 12 = .ok (.aload_n 0, 1) := by decide +kernel
theorem dX2_queueOn_13 : decode cX2_queueOn 13 = .ok (.getfield 42, 3) := by decide +kernel
theorem dX2_queueOn_16 : decode cX2_queueOn 16 = .ok (.areturn, 1) := by decide +kernel
theorem dX2_offerOf_0 : decode cX2_offerOf 0 = .ok (.aload_n 0, 1) := by decide +kernel
theorem dX2_offerOf_1 : decode cX2_offerOf 1 = .ok (.aload_n 0, 1) := by decide +kernel
theorem dX2_offerOf_2 : decode cX2_offerOf 2 = .ok (.getfield 15, 3) := by decide +kernel
theorem dX2_offerOf_5 : decode cX2_offerOf 5 = .ok (.iload_n 1, 1) := by decide +kernel
theorem dX2_offerOf_6 : decode cX2_offerOf 6 = .ok (.invokestatic 91, 3) := by decide +kernel
theorem dX2_offerOf_9 : decode cX2_offerOf 9 = .ok (.invokevirtual 122, 3) := by decide +kernel
theorem dX2_offerOf_12 : decode cX2_offerOf 12 = .ok (.astore_n 2, 1) := by decide +kernel
theorem dX2_offerOf_13 : decode cX2_offerOf 13 = .ok (.aload_n 2, 1) := by decide +kernel
theorem dX2_offerOf_14 : decode cX2_offerOf 14 = .ok (.aload_n 2, 1) := by decide +kernel
theorem dX2_offerOf_15 : decode cX2_offerOf 15 = .ok (.iload_n 1, 1) := by decide +kernel
theorem dX2_offerOf_16 : decode cX2_offerOf 16 = .ok (.invokevirtual 126, 3) := by decide +kernel
theorem dX2_offerOf_19 : decode cX2_offerOf 19 = .ok (.invokevirtual 129, 3) := by decide +kernel
theorem dX2_offerOf_22 : decode cX2_offerOf 22 = .ok (.ireturn, 1) := by decide +kernel
theorem dX2_departureBank_0 : decode cX2_departureBank 0 = .ok (.aload_n 0, 1) := by decide +kernel
theorem dX2_departureBank_1 : decode cX2_departureBank 1 = .ok (.getfield 53, 3) := by decide +kernel
theorem dX2_departureBank_4 : decode cX2_departureBank 4 = .ok (.iconst 2, 1) := by decide +kernel
theorem dX2_departureBank_5 : decode cX2_departureBank 5 = .ok (.irem, 1) := by decide +kernel
theorem dX2_departureBank_6 : decode cX2_departureBank 6 = .ok (.ifCond .ne 7, 3) := by decide +kernel
theorem dX2_departureBank_9 : decode cX2_departureBank 9 = .ok (.iconst 0, 1) := by decide +kernel
theorem dX2_departureBank_10 : decode cX2_departureBank 10 = .ok (.goto 4, 3) := by decide +kernel
theorem dX2_departureBank_13 : decode cX2_departureBank 13 = .ok (.iconst 1, 1) := by decide +kernel
theorem dX2_departureBank_14 : decode cX2_departureBank 14 = .ok (.ireturn, 1) := by decide +kernel
theorem dX2_passSeveral_0 : decode cX2_passSeveral 0 = .ok (.iconst 0, 1) := by decide +kernel
theorem dX2_passSeveral_1 : decode cX2_passSeveral 1 = .ok (.istore_n 2, 1) := by decide +kernel
theorem dX2_passSeveral_2 : decode cX2_passSeveral 2 = .ok (.iconst 0, 1) := by decide +kernel
theorem dX2_passSeveral_3 : decode cX2_passSeveral 3 = .ok (.istore_n 3, 1) := by decide +kernel
theorem dX2_passSeveral_4 : decode cX2_passSeveral 4 = .ok (.iload_n 3, 1) := by decide +kernel
theorem dX2_passSeveral_5 : decode cX2_passSeveral 5 = .ok (.iload_n 1, 1) := by decide +kernel
theorem dX2_passSeveral_6 : decode cX2_passSeveral 6 = .ok (.if_icmp .ge 16, 3) := by decide +kernel
theorem dX2_passSeveral_9 : decode cX2_passSeveral 9 = .ok (.iload_n 2, 1) := by decide +kernel
theorem dX2_passSeveral_10 : decode cX2_passSeveral 10 = .ok (.aload_n 0, 1) := by decide +kernel
theorem dX2_passSeveral_11 : decode cX2_passSeveral 11 = .ok (.invokevirtual 132, 3) := by decide +kernel
theorem dX2_passSeveral_14 : decode cX2_passSeveral 14 = .ok (.iadd, 1) := by decide +kernel
theorem dX2_passSeveral_15 : decode cX2_passSeveral 15 = .ok (.istore_n 2, 1) := by decide +kernel
theorem dX2_passSeveral_16 : decode cX2_passSeveral 16 = .ok (.iinc 3 1, 3) := by decide +kernel
theorem dX2_passSeveral_19 : decode cX2_passSeveral 19 = .ok (.goto (-15), 3) := by decide +kernel
theorem dX2_passSeveral_22 : decode cX2_passSeveral 22 = .ok (.iload_n 2, 1) := by decide +kernel
theorem dX2_passSeveral_23 : decode cX2_passSeveral 23 = .ok (.ireturn, 1) := by decide +kernel
theorem dX2_passTurn_0 : decode cX2_passTurn 0 = .ok (.aload_n 0, 1) := by decide +kernel
theorem dX2_passTurn_1 : decode cX2_passTurn 1 = .ok (.getfield 53, 3) := by decide +kernel
theorem dX2_passTurn_4 : decode cX2_passTurn 4 = .ok (.sipush 9999, 3) := by decide +kernel
theorem dX2_passTurn_7 : decode cX2_passTurn 7 = .ok (.if_icmp .le 5, 3) := by decide +kernel
theorem dX2_passTurn_10 : decode cX2_passTurn 10 = .ok (.iconst 0, 1) := by decide +kernel
theorem dX2_passTurn_11 : decode cX2_passTurn 11 = .ok (.ireturn, 1) := by decide +kernel
theorem dX2_passTurn_12 : decode cX2_passTurn 12 = .ok (.aload_n 0, 1) := by decide +kernel
theorem dX2_passTurn_13 : decode cX2_passTurn 13 = .ok (.aload_n 0, 1) := by decide +kernel
theorem dX2_passTurn_14 : decode cX2_passTurn 14 = .ok (.invokevirtual 136, 3) := by decide +kernel
theorem dX2_passTurn_17 : decode cX2_passTurn 17 = .ok (.invokevirtual 122, 3) := by decide +kernel
theorem dX2_passTurn_20 : decode cX2_passTurn 20 = .ok (.astore_n 1, 1) := by decide +kernel
theorem dX2_passTurn_21 : decode cX2_passTurn 21 = .ok (.iconst 0, 1) := by decide +kernel
theorem dX2_passTurn_22 : decode cX2_passTurn 22 = .ok (.istore_n 2, 1) := by decide +kernel
theorem dX2_passTurn_23 : decode cX2_passTurn 23 = .ok (.iconst 0, 1) := by decide +kernel
theorem dX2_passTurn_24 : decode cX2_passTurn 24 = .ok (.istore_n 3, 1) := by decide +kernel
theorem dX2_passTurn_25 : decode cX2_passTurn 25 = .ok (.iload_n 3, 1) := by decide +kernel
theorem dX2_passTurn_26 : decode cX2_passTurn 26 = .ok (.aload_n 0, 1) := by decide +kernel
theorem dX2_passTurn_27 : decode cX2_passTurn 27 = .ok (.getfield 49, 3) := by decide +kernel
theorem dX2_passTurn_30 : decode cX2_passTurn 30 = .ok (.getfield 139, 3) := by decide +kernel
theorem dX2_passTurn_33 : decode cX2_passTurn 33 = .ok (.if_icmp .ge 88, 3) := by decide +kernel
theorem dX2_passTurn_36 : decode cX2_passTurn 36 = .ok (.aload_n 0, 1) := by decide +kernel
theorem dX2_passTurn_37 : decode cX2_passTurn 37 = .ok (.getfield 49, 3) := by decide +kernel
theorem dX2_passTurn_40 : decode cX2_passTurn 40 = .ok (.iload_n 3, 1) := by decide +kernel
theorem dX2_passTurn_41 : decode cX2_passTurn 41 = .ok (.aload_n 0, 1) := by decide +kernel
theorem dX2_passTurn_42 : decode cX2_passTurn 42 = .ok (.getfield 53, 3) := by decide +kernel
theorem dX2_passTurn_45 : decode cX2_passTurn 45 = .ok (.invokevirtual 142, 3) := by decide +kernel
theorem dX2_passTurn_48 : decode cX2_passTurn 48 = .ok (.ifCond .eq 17, 3) := by decide +kernel
theorem dX2_passTurn_51 : decode cX2_passTurn 51 = .ok (.aload_n 0, 1) := by decide +kernel
theorem dX2_passTurn_52 : decode cX2_passTurn 52 = .ok (.getfield 49, 3) := by decide +kernel
theorem dX2_passTurn_55 : decode cX2_passTurn 55 = .ok (.getfield 146, 3) := by decide +kernel
theorem dX2_passTurn_58 : decode cX2_passTurn 58 = .ok (.iload_n 3, 1) := by decide +kernel
theorem dX2_passTurn_59 : decode cX2_passTurn 59 = .ok (.invokestatic 91, 3) := by decide +kernel
theorem dX2_passTurn_62 : decode cX2_passTurn 62 = .ok (.goto 4, 3) := by decide +kernel
theorem dX2_passTurn_65 : decode cX2_passTurn 65 = .ok (.iconst 0, 1) := by decide +kernel
theorem dX2_passTurn_66 : decode cX2_passTurn 66 = .ok (.istore 4, 2) := by decide +kernel
theorem dX2_passTurn_68 : decode cX2_passTurn 68 = .ok (.iconst 0, 1) := by decide +kernel
theorem dX2_passTurn_69 : decode cX2_passTurn 69 = .ok (.istore 5, 2) := by decide +kernel
theorem dX2_passTurn_71 : decode cX2_passTurn 71 = .ok (.iload 5, 2) := by decide +kernel
theorem dX2_passTurn_73 : decode cX2_passTurn 73 = .ok (.bipush 10, 2) := by decide +kernel
theorem dX2_passTurn_75 : decode cX2_passTurn 75 = .ok (.if_icmp .ge 40, 3) := by decide +kernel
theorem dX2_passTurn_78 : decode cX2_passTurn 78 = .ok (.iload 4, 2) := by decide +kernel
theorem dX2_passTurn_80 : decode cX2_passTurn 80 = .ok (.ifCond .le 35, 3) := by decide +kernel
theorem dX2_passTurn_83 : decode cX2_passTurn 83 = .ok (.aload_n 1, 1) := by decide +kernel
theorem dX2_passTurn_84 : decode cX2_passTurn 84 = .ok (.getfield 70, 3) := by decide +kernel
theorem dX2_passTurn_87 : decode cX2_passTurn 87 = .ok (.ifCond .le 28, 3) := by decide +kernel
theorem dX2_passTurn_90 : decode cX2_passTurn 90 = .ok (.aload_n 0, 1) := by decide +kernel
theorem dX2_passTurn_91 : decode cX2_passTurn 91 = .ok (.aload_n 1, 1) := by decide +kernel
theorem dX2_passTurn_92 : decode cX2_passTurn 92 = .ok (.invokevirtual 149, 3) := by decide +kernel
theorem dX2_passTurn_95 : decode cX2_passTurn 95 = .ok (.istore 6, 2) := by decide +kernel
theorem dX2_passTurn_97 : decode cX2_passTurn 97 = .ok (.iload 4, 2) := by decide +kernel
theorem dX2_passTurn_99 : decode cX2_passTurn 99 = .ok (.iload 6, 2) := by decide +kernel
theorem dX2_passTurn_101 : decode cX2_passTurn 101 = .ok (.isub, 1) := by decide +kernel
theorem dX2_passTurn_102 : decode cX2_passTurn 102 = .ok (.istore 4, 2) := by decide +kernel
theorem dX2_passTurn_104 : decode cX2_passTurn 104 = .ok (.iload_n 2, 1) := by decide +kernel
theorem dX2_passTurn_105 : decode cX2_passTurn 105 = .ok (.iload 6, 2) := by decide +kernel
theorem dX2_passTurn_107 : decode cX2_passTurn 107 = .ok (.iadd, 1) := by decide +kernel
theorem dX2_passTurn_108 : decode cX2_passTurn 108 = .ok (.istore_n 2, 1) := by decide +kernel
theorem dX2_passTurn_109 : decode cX2_passTurn 109 = .ok (.iinc 5 1, 3) := by decide +kernel
theorem dX2_passTurn_112 : decode cX2_passTurn 112 = .ok (.goto (-41), 3) := by decide +kernel
theorem dX2_passTurn_115 : decode cX2_passTurn 115 = .ok (.iinc 3 1, 3) := by decide +kernel
theorem dX2_passTurn_118 : decode cX2_passTurn 118 = .ok (.goto (-93), 3) := by decide +kernel
theorem dX2_passTurn_121 : decode cX2_passTurn 121 = .ok (.aload_n 0, 1) := by decide +kernel
theorem dX2_passTurn_122 : decode cX2_passTurn 122 = .ok (.dup, 1) := by decide +kernel
theorem dX2_passTurn_123 : decode cX2_passTurn 123 = .ok (.getfield 53, 3) := by decide +kernel
theorem dX2_passTurn_126 : decode cX2_passTurn 126 = .ok (.iconst 1, 1) := by decide +kernel
theorem dX2_passTurn_127 : decode cX2_passTurn 127 = .ok (.iadd, 1) := by decide +kernel
theorem dX2_passTurn_128 : decode cX2_passTurn 128 = .ok (.putfield 53, 3) := by decide +kernel
theorem dX2_passTurn_131 : decode cX2_passTurn 131 = .ok (.iload_n 2, 1) := by decide +kernel
theorem dX2_passTurn_132 : decode cX2_passTurn 132 = .ok (.ireturn, 1) := by decide +kernel
theorem dX2_letFirstTry_0 : decode cX2_letFirstTry 0 = .ok (.aload_n 1, 1) := by decide +kernel
theorem dX2_letFirstTry_1 : decode cX2_letFirstTry 1 = .ok (.iconst 0, 1) := by decide +kernel
theorem dX2_letFirstTry_2 : decode cX2_letFirstTry 2 = .ok (.invokevirtual 153, 3) := by decide +kernel
theorem dX2_letFirstTry_5 : decode cX2_letFirstTry 5 = .ok (.istore_n 2, 1) := by decide +kernel
theorem dX2_letFirstTry_6 : decode cX2_letFirstTry 6 = .ok (.aload_n 0, 1) := by decide +kernel
theorem dX2_letFirstTry_7 : decode cX2_letFirstTry 7 = .ok (.iload_n 2, 1) := by decide +kernel
theorem dX2_letFirstTry_8 : decode cX2_letFirstTry 8 = .ok (.aload_n 0, 1) := by decide +kernel
theorem dX2_letFirstTry_9 : decode cX2_letFirstTry 9 = .ok (.getfield 24, 3) := by decide +kernel
theorem dX2_letFirstTry_12 : decode cX2_letFirstTry 12 = .ok (.iload_n 2, 1) := by decide +kernel
theorem dX2_letFirstTry_13 : decode cX2_letFirstTry 13 = .ok (.invokestatic 91, 3) := by decide +kernel
theorem dX2_letFirstTry_16 : decode cX2_letFirstTry 16 = .ok (.invokevirtual 105, 3) := by decide +kernel
theorem dX2_letFirstTry_19 : decode cX2_letFirstTry 19 = .ok (.aload_n 0, 1) := by decide +kernel
theorem dX2_letFirstTry_20 : decode cX2_letFirstTry 20 = .ok (.getfield 62, 3) := by decide +kernel
theorem dX2_letFirstTry_23 : decode cX2_letFirstTry 23 = .ok (.if_icmp .ge 7, 3) := by decide +kernel
theorem dX2_letFirstTry_26 : decode cX2_letFirstTry 26 = .ok (.iconst 1, 1) := by decide +kernel
theorem dX2_letFirstTry_27 : decode cX2_letFirstTry 27 = .ok (.goto 4, 3) := by decide +kernel
theorem dX2_letFirstTry_30 : decode cX2_letFirstTry 30 = .ok (.iconst 0, 1) := by decide +kernel
theorem dX2_letFirstTry_31 : decode cX2_letFirstTry 31 = .ok (.istore_n 3, 1) := by decide +kernel
theorem dX2_letFirstTry_32 : decode cX2_letFirstTry 32 = .ok (.aload_n 1, 1) := by decide +kernel
theorem dX2_letFirstTry_33 : decode cX2_letFirstTry 33 = .ok (.iconst 0, 1) := by decide +kernel
theorem dX2_letFirstTry_34 : decode cX2_letFirstTry 34 = .ok (.invokevirtual 129, 3) := by decide +kernel
theorem dX2_letFirstTry_37 : decode cX2_letFirstTry 37 = .ok (.aload_n 0, 1) := by decide +kernel
theorem dX2_letFirstTry_38 : decode cX2_letFirstTry 38 = .ok (.getfield 49, 3) := by decide +kernel
theorem dX2_letFirstTry_41 : decode cX2_letFirstTry 41 = .ok (.iload_n 3, 1) := by decide +kernel
theorem dX2_letFirstTry_42 : decode cX2_letFirstTry 42 = .ok (.invokevirtual 111, 3) := by decide +kernel
theorem dX2_letFirstTry_45 : decode cX2_letFirstTry 45 = .ok (.iadd, 1) := by decide +kernel
theorem dX2_letFirstTry_46 : decode cX2_letFirstTry 46 = .ok (.istore 4, 2) := by decide +kernel
theorem dX2_letFirstTry_48 : decode cX2_letFirstTry 48 = .ok (.aload_n 1, 1) := by decide +kernel
theorem dX2_letFirstTry_49 : decode cX2_letFirstTry 49 = .ok (.iconst 0, 1) := by decide +kernel
theorem dX2_letFirstTry_50 : decode cX2_letFirstTry 50 = .ok (.invokevirtual 156, 3) := by decide +kernel
theorem dX2_letFirstTry_53 : decode cX2_letFirstTry 53 = .ok (.aload_n 0, 1) := by decide +kernel
theorem dX2_letFirstTry_54 : decode cX2_letFirstTry 54 = .ok (.getfield 18, 3) := by decide +kernel
theorem dX2_letFirstTry_57 : decode cX2_letFirstTry 57 = .ok (.iload_n 2, 1) := by decide +kernel
theorem dX2_letFirstTry_58 : decode cX2_letFirstTry 58 = .ok (.invokestatic 91, 3) := by decide +kernel
theorem dX2_letFirstTry_61 : decode cX2_letFirstTry 61 = .ok (.iload 4, 2) := by decide +kernel
theorem dX2_letFirstTry_63 : decode cX2_letFirstTry 63 = .ok (.if_icmp .ge 5, 3) := by decide +kernel
theorem dX2_letFirstTry_66 : decode cX2_letFirstTry 66 = .ok (.iconst 0, 1) := by decide +kernel
theorem dX2_letFirstTry_67 : decode cX2_letFirstTry 67 = .ok (.ireturn, 1) := by decide +kernel
theorem dX2_letFirstTry_68 : decode cX2_letFirstTry 68 = .ok (.aload_n 0, 1) := by decide +kernel
theorem dX2_letFirstTry_69 : decode cX2_letFirstTry 69 = .ok (.getfield 18, 3) := by decide +kernel
theorem dX2_letFirstTry_72 : decode cX2_letFirstTry 72 = .ok (.iload_n 2, 1) := by decide +kernel
theorem dX2_letFirstTry_73 : decode cX2_letFirstTry 73 = .ok (.iload 4, 2) := by decide +kernel
theorem dX2_letFirstTry_75 : decode cX2_letFirstTry 75 = .ok (.ineg, 1) := by decide +kernel
theorem dX2_letFirstTry_76 : decode cX2_letFirstTry 76 = .ok (.invokestatic 160, 3) := by decide +kernel
theorem dX2_letFirstTry_79 : decode cX2_letFirstTry 79 = .ok (.aload_n 0, 1) := by decide +kernel
theorem dX2_letFirstTry_80 : decode cX2_letFirstTry 80 = .ok (.dup, 1) := by decide +kernel
theorem dX2_letFirstTry_81 : decode cX2_letFirstTry 81 = .ok (.getfield 63, 3) := by decide +kernel
theorem dX2_letFirstTry_84 : decode cX2_letFirstTry 84 = .ok (.iload 4, 2) := by decide +kernel
theorem dX2_letFirstTry_86 : decode cX2_letFirstTry 86 = .ok (.iadd, 1) := by decide +kernel
theorem dX2_letFirstTry_87 : decode cX2_letFirstTry 87 = .ok (.putfield 63, 3) := by decide +kernel
theorem dX2_letFirstTry_90 : decode cX2_letFirstTry 90 = .ok (.aload_n 0, 1) := by decide +kernel
theorem dX2_letFirstTry_91 : decode cX2_letFirstTry 91 = .ok (.getfield 15, 3) := by decide +kernel
theorem dX2_letFirstTry_94 : decode cX2_letFirstTry 94 = .ok (.iload_n 2, 1) := by decide +kernel
theorem dX2_letFirstTry_95 : decode cX2_letFirstTry 95 = .ok (.aload_n 0, 1) := by decide +kernel
theorem dX2_letFirstTry_96 : decode cX2_letFirstTry 96 = .ok (.invokevirtual 136, 3) := by decide +kernel
theorem dX2_letFirstTry_99 : decode cX2_letFirstTry 99 = .ok (.ifCond .ne 7, 3) := by decide +kernel
theorem dX2_letFirstTry_102 : decode cX2_letFirstTry 102 = .ok (.iconst 1, 1) := by decide +kernel
theorem dX2_letFirstTry_103 : decode cX2_letFirstTry 103 = .ok (.goto 4, 3) := by decide +kernel
theorem dX2_letFirstTry_106 : decode cX2_letFirstTry 106 = .ok (.iconst 0, 1) := by decide +kernel
theorem dX2_letFirstTry_107 : decode cX2_letFirstTry 107 = .ok (.invokestatic 66, 3) := by decide +kernel
theorem dX2_letFirstTry_110 : decode cX2_letFirstTry 110 = .ok (.aload_n 0, 1) := by decide +kernel
theorem dX2_letFirstTry_111 : decode cX2_letFirstTry 111 = .ok (.getfield 27, 3) := by decide +kernel
theorem dX2_letFirstTry_114 : decode cX2_letFirstTry 114 = .ok (.iload_n 2, 1) := by decide +kernel
theorem dX2_letFirstTry_115 : decode cX2_letFirstTry 115 = .ok (.iconst 1, 1) := by decide +kernel
theorem dX2_letFirstTry_116 : decode cX2_letFirstTry 116 = .ok (.invokestatic 160, 3) := by decide +kernel
theorem dX2_letFirstTry_119 : decode cX2_letFirstTry 119 = .ok (.aload_n 0, 1) := by decide +kernel
theorem dX2_letFirstTry_120 : decode cX2_letFirstTry 120 = .ok (.iload_n 2, 1) := by decide +kernel
theorem dX2_letFirstTry_121 : decode cX2_letFirstTry 121 = .ok (.invokevirtual 163, 3) := by decide +kernel
theorem dX2_letFirstTry_124 : decode cX2_letFirstTry 124 = .ok (.aload_n 0, 1) := by decide +kernel
theorem dX2_letFirstTry_125 : decode cX2_letFirstTry 125 = .ok (.iload_n 3, 1) := by decide +kernel
theorem dX2_letFirstTry_126 : decode cX2_letFirstTry 126 = .ok (.aload_n 0, 1) := by decide +kernel
theorem dX2_letFirstTry_127 : decode cX2_letFirstTry 127 = .ok (.getfield 49, 3) := by decide +kernel
theorem dX2_letFirstTry_130 : decode cX2_letFirstTry 130 = .ok (.iload_n 2, 1) := by decide +kernel
theorem dX2_letFirstTry_131 : decode cX2_letFirstTry 131 = .ok (.invokevirtual 80, 3) := by decide +kernel
theorem dX2_letFirstTry_134 : decode cX2_letFirstTry 134 = .ok (.invokevirtual 166, 3) := by decide +kernel
theorem dX2_letFirstTry_137 : decode cX2_letFirstTry 137 = .ok (.iconst 1, 1) := by decide +kernel
theorem dX2_letFirstTry_138 : decode cX2_letFirstTry 138 = .ok (.ireturn, 1) := by decide +kernel
theorem dX2_countRoyalCoinsOf_0 : decode cX2_countRoyalCoinsOf 0 = .ok (.iconst 0, 1) := by decide +kernel
theorem dX2_countRoyalCoinsOf_1 : decode cX2_countRoyalCoinsOf 1 = .ok (.istore_n 2, 1) := by decide +kernel
theorem dX2_countRoyalCoinsOf_2 : decode cX2_countRoyalCoinsOf 2 = .ok (.iload_n 2, 1) := by decide +kernel
theorem dX2_countRoyalCoinsOf_3 : decode cX2_countRoyalCoinsOf 3 = .ok (.aload_n 0, 1) := by decide +kernel
theorem dX2_countRoyalCoinsOf_4 : decode cX2_countRoyalCoinsOf 4 = .ok (.getfield 49, 3) := by decide +kernel
theorem dX2_countRoyalCoinsOf_7 : decode cX2_countRoyalCoinsOf 7 = .ok (.getfield 88, 3) := by decide +kernel
theorem dX2_countRoyalCoinsOf_10 : decode cX2_countRoyalCoinsOf 10 = .ok (.if_icmp .ge 30, 3) := by decide +kernel
theorem dX2_countRoyalCoinsOf_13 : decode cX2_countRoyalCoinsOf 13 = .ok (.aload_n 0, 1) := by decide +kernel
theorem dX2_countRoyalCoinsOf_14 : decode cX2_countRoyalCoinsOf 14 = .ok (.getfield 30, 3) := by decide +kernel
theorem dX2_countRoyalCoinsOf_17 : decode cX2_countRoyalCoinsOf 17 = .ok (.iload_n 2, 1) := by decide +kernel
theorem dX2_countRoyalCoinsOf_18 : decode cX2_countRoyalCoinsOf 18 = .ok (.invokestatic 91, 3) := by decide +kernel
theorem dX2_countRoyalCoinsOf_21 : decode cX2_countRoyalCoinsOf 21 = .ok (.iload_n 1, 1) := by decide +kernel
theorem dX2_countRoyalCoinsOf_22 : decode cX2_countRoyalCoinsOf 22 = .ok (.if_icmp .ne 12, 3) := by decide +kernel
theorem dX2_countRoyalCoinsOf_25 : decode cX2_countRoyalCoinsOf 25 = .ok (.aload_n 0, 1) := by decide +kernel
theorem dX2_countRoyalCoinsOf_26 : decode cX2_countRoyalCoinsOf 26 = .ok (.getfield 36, 3) := by decide +kernel
theorem dX2_countRoyalCoinsOf_29 : decode cX2_countRoyalCoinsOf 29 = .ok (.iload_n 2, 1) := by decide +kernel
theorem dX2_countRoyalCoinsOf_30 : decode cX2_countRoyalCoinsOf 30 = .ok (.iconst 1, 1) := by decide +kernel
theorem dX2_countRoyalCoinsOf_31 : decode cX2_countRoyalCoinsOf 31 = .ok (.invokestatic 66, 3) := by decide +kernel
theorem dX2_countRoyalCoinsOf_34 : decode cX2_countRoyalCoinsOf 34 = .ok (.iinc 2 1, 3) := by decide +kernel
theorem dX2_countRoyalCoinsOf_37 : decode cX2_countRoyalCoinsOf 37 = .ok (.goto (-35), 3) := by decide +kernel
theorem dX2_countRoyalCoinsOf_40 : decode cX2_countRoyalCoinsOf 40 = .ok (.return_, 1) := by decide +kernel
theorem dX2_learn_0 : decode cX2_learn 0 = .ok (.iload_n 1, 1) := by decide +kernel
theorem dX2_learn_1 : decode cX2_learn 1 = .ok (.ifCond .eq 30, 3) := by decide +kernel
theorem dX2_learn_4 : decode cX2_learn 4 = .ok (.iload_n 2, 1) := by decide +kernel
theorem dX2_learn_5 : decode cX2_learn 5 = .ok (.ifCond .ne 26, 3) := by decide +kernel
theorem dX2_learn_8 : decode cX2_learn 8 = .ok (.aload_n 0, 1) := by decide +kernel
theorem dX2_learn_9 : decode cX2_learn 9 = .ok (.iconst 0, 1) := by decide +kernel
theorem dX2_learn_10 : decode cX2_learn 10 = .ok (.aload_n 0, 1) := by decide +kernel
theorem dX2_learn_11 : decode cX2_learn 11 = .ok (.getfield 62, 3) := by decide +kernel
theorem dX2_learn_14 : decode cX2_learn 14 = .ok (.aload_n 0, 1) := by decide +kernel
theorem dX2_learn_15 : decode cX2_learn 15 = .ok (.getfield 49, 3) := by decide +kernel
theorem dX2_learn_18 : decode cX2_learn 18 = .ok (.getfield 170, 3) := by decide +kernel
theorem dX2_learn_21 : decode cX2_learn 21 = .ok (.isub, 1) := by decide +kernel
theorem dX2_learn_22 : decode cX2_learn 22 = .ok (.invokestatic 173, 3) := by decide +kernel
theorem dX2_learn_25 : decode cX2_learn 25 = .ok (.putfield 62, 3) := by decide +kernel
theorem dX2_learn_28 : decode cX2_learn 28 = .ok (.goto 32, 3) := by decide +kernel
theorem dX2_learn_31 : decode cX2_learn 31 = .ok (.iload_n 1, 1) := by decide +kernel
theorem dX2_learn_32 : decode cX2_learn 32 = .ok (.ifCond .ne 28, 3) := by decide +kernel
theorem dX2_learn_35 : decode cX2_learn 35 = .ok (.iload_n 2, 1) := by decide +kernel
theorem dX2_learn_36 : decode cX2_learn 36 = .ok (.ifCond .eq 24, 3) := by decide +kernel
theorem dX2_learn_39 : decode cX2_learn 39 = .ok (.aload_n 0, 1) := by decide +kernel
theorem dX2_learn_40 : decode cX2_learn 40 = .ok (.bipush 90, 2) := by decide +kernel
theorem dX2_learn_42 : decode cX2_learn 42 = .ok (.aload_n 0, 1) := by decide +kernel
theorem dX2_learn_43 : decode cX2_learn 43 = .ok (.getfield 62, 3) := by decide +kernel
theorem dX2_learn_46 : decode cX2_learn 46 = .ok (.aload_n 0, 1) := by decide +kernel
theorem dX2_learn_47 : decode cX2_learn 47 = .ok (.getfield 49, 3) := by decide +kernel
theorem dX2_learn_50 : decode cX2_learn 50 = .ok (.getfield 170, 3) := by decide +kernel
theorem dX2_learn_53 : decode cX2_learn 53 = .ok (.iadd, 1) := by decide +kernel
theorem dX2_learn_54 : decode cX2_learn 54 = .ok (.invokestatic 178, 3) := by decide +kernel
theorem dX2_learn_57 : decode cX2_learn 57 = .ok (.putfield 62, 3) := by decide +kernel
theorem dX2_learn_60 : decode cX2_learn 60 = .ok (.return_, 1) := by decide +kernel
theorem dX2_faultOf_0 : decode cX2_faultOf 0 = .ok (.aload_n 1, 1) := by decide +kernel
theorem dX2_faultOf_1 : decode cX2_faultOf 1 = .ok (.getfield 181, 3) := by decide +kernel
theorem dX2_faultOf_4 : decode cX2_faultOf 4 = .ok (.ifCond .le 14, 3) := by decide +kernel
theorem dX2_faultOf_7 : decode cX2_faultOf 7 = .ok (.aload_n 0, 1) := by decide +kernel
theorem dX2_faultOf_8 : decode cX2_faultOf 8 = .ok (.getfield 49, 3) := by decide +kernel
theorem dX2_faultOf_11 : decode cX2_faultOf 11 = .ok (.iload_n 2, 1) := by decide +kernel
theorem dX2_faultOf_12 : decode cX2_faultOf 12 = .ok (.invokevirtual 184, 3) := by decide +kernel
theorem dX2_faultOf_15 : decode cX2_faultOf 15 = .ok (.ifCond .eq 22, 3) := by decide +kernel
theorem dX2_faultOf_18 : decode cX2_faultOf 18 = .ok (.aload_n 1, 1) := by decide +kernel
theorem dX2_faultOf_19 : decode cX2_faultOf 19 = .ok (.getfield 181, 3) := by decide +kernel
theorem dX2_faultOf_22 : decode cX2_faultOf 22 = .ok (.iconst 1, 1) := by decide +kernel
theorem dX2_faultOf_23 : decode cX2_faultOf 23 = .ok (.if_icmp .le 16, 3) := by decide +kernel
theorem dX2_faultOf_26 : decode cX2_faultOf 26 = .ok (.aload_n 0, 1) := by decide +kernel
theorem dX2_faultOf_27 : decode cX2_faultOf 27 = .ok (.getfield 49, 3) := by decide +kernel
theorem dX2_faultOf_30 : decode cX2_faultOf 30 = .ok (.iload_n 3, 1) := by decide +kernel
theorem dX2_faultOf_31 : decode cX2_faultOf 31 = .ok (.invokevirtual 184, 3) := by decide +kernel
theorem dX2_faultOf_34 : decode cX2_faultOf 34 = .ok (.ifCond .ne 5, 3) := by decide +kernel
theorem dX2_faultOf_37 : decode cX2_faultOf 37 = .ok (.iconst 1, 1) := by decide +kernel
theorem dX2_faultOf_38 : decode cX2_faultOf 38 = .ok (.ireturn, 1) := by decide +kernel
theorem dX2_faultOf_39 : decode cX2_faultOf 39 = .ok (.aload_n 0, 1) := by decide +kernel
theorem dX2_faultOf_40 : decode cX2_faultOf 40 = .ok (.aload_n 1, 1) := by decide +kernel
theorem dX2_faultOf_41 : decode cX2_faultOf 41 = .ok (.iload_n 2, 1) := by decide +kernel
theorem dX2_faultOf_42 : decode cX2_faultOf 42 = .ok (.iload_n 3, 1) := by decide +kernel
theorem dX2_faultOf_43 : decode cX2_faultOf 43 = .ok (.invokevirtual 187, 3) := by decide +kernel
theorem dX2_faultOf_46 : decode cX2_faultOf 46 = .ok (.ifCond .ne 5, 3) := by decide +kernel
theorem dX2_faultOf_49 : decode cX2_faultOf 49 = .ok (.iconst 2, 1) := by decide +kernel
theorem dX2_faultOf_50 : decode cX2_faultOf 50 = .ok (.ireturn, 1) := by decide +kernel
theorem dX2_faultOf_51 : decode cX2_faultOf 51 = .ok (.aload_n 0, 1) := by decide +kernel
theorem dX2_faultOf_52 : decode cX2_faultOf 52 = .ok (.aload_n 1, 1) := by decide +kernel
theorem dX2_faultOf_53 : decode cX2_faultOf 53 = .ok (.iload_n 2, 1) := by decide +kernel
theorem dX2_faultOf_54 : decode cX2_faultOf 54 = .ok (.iload_n 3, 1) := by decide +kernel
theorem dX2_faultOf_55 : decode cX2_faultOf 55 = .ok (.invokevirtual 191, 3) := by decide +kernel
theorem dX2_faultOf_58 : decode cX2_faultOf 58 = .ok (.ifCond .eq 7, 3) := by decide +kernel
theorem dX2_faultOf_61 : decode cX2_faultOf 61 = .ok (.iconst 0, 1) := by decide +kernel
theorem dX2_faultOf_62 : decode cX2_faultOf 62 = .ok (.goto 4, 3) := by decide +kernel
theorem dX2_faultOf_65 : decode cX2_faultOf 65 = .ok (.iconst 3, 1) := by decide +kernel
theorem dX2_faultOf_66 : decode cX2_faultOf 66 = .ok (.ireturn, 1) := by decide +kernel
theorem dX2_isSound_0 : decode cX2_isSound 0 = .ok (.getstatic 194, 3) := by decide +kernel
theorem dX2_isSound_3 : decode cX2_isSound 3 = .ok (.aload_n 1, 1) := by decide +kernel
theorem dX2_isSound_4 : decode cX2_isSound 4 = .ok (.invokevirtual 199, 3) := by decide +kernel
theorem dX2_isSound_7 : decode cX2_isSound 7 = .ok (.iaload, 1) := by decide +kernel
theorem dX2_isSound_8 : decode cX2_isSound 8 = .ok (.tableswitch 64 1 5 #[36, 36, 45, 56, 58], 36) := by decide +kernel
theorem dX2_isSound_44 : decode cX2_isSound 44 = .ok (.aload_n 0, 1) := by decide +kernel
theorem dX2_isSound_45 : decode cX2_isSound 45 = .ok (.getfield 49, 3) := by decide +kernel
theorem dX2_isSound_48 : decode cX2_isSound 48 = .ok (.iload_n 3, 1) := by decide +kernel
theorem dX2_isSound_49 : decode cX2_isSound 49 = .ok (.invokevirtual 80, 3) := by decide +kernel
theorem dX2_isSound_52 : decode cX2_isSound 52 = .ok (.ireturn, 1) := by decide +kernel
theorem dX2_isSound_53 : decode cX2_isSound 53 = .ok (.iload_n 2, 1) := by decide +kernel
theorem dX2_isSound_54 : decode cX2_isSound 54 = .ok (.iload_n 3, 1) := by decide +kernel
theorem dX2_isSound_55 : decode cX2_isSound 55 = .ok (.if_icmp .eq 7, 3) := by decide +kernel
theorem dX2_isSound_58 : decode cX2_isSound 58 = .ok (.iconst 1, 1) := by decide +kernel
theorem dX2_isSound_59 : decode cX2_isSound 59 = .ok (.goto 4, 3) := by decide +kernel
theorem dX2_isSound_62 : decode cX2_isSound 62 = .ok (.iconst 0, 1) := by decide +kernel
theorem dX2_isSound_63 : decode cX2_isSound 63 = .ok (.ireturn, 1) := by decide +kernel
theorem dX2_isSound_64 : decode cX2_isSound 64 = .ok (.iconst 1, 1) := by decide +kernel
theorem dX2_isSound_65 : decode cX2_isSound 65 = .ok (.ireturn, 1) := by decide +kernel
theorem dX2_isSound_66 : decode cX2_isSound 66 = .ok (.aload_n 1, 1) := by decide +kernel
theorem dX2_isSound_67 : decode cX2_isSound 67 = .ok (.iload_n 2, 1) := by decide +kernel
theorem dX2_isSound_68 : decode cX2_isSound 68 = .ok (.invokevirtual 202, 3) := by decide +kernel
theorem dX2_isSound_71 : decode cX2_isSound 71 = .ok (.ireturn, 1) := by decide +kernel
theorem dX2_isSound_72 : decode cX2_isSound 72 = .ok (.aload_n 1, 1) := by decide +kernel
theorem dX2_isSound_73 : decode cX2_isSound 73 = .ok (.iload_n 3, 1) := by decide +kernel
theorem dX2_isSound_74 : decode cX2_isSound 74 = .ok (.invokevirtual 202, 3) := by decide +kernel
theorem dX2_isSound_77 : decode cX2_isSound 77 = .ok (.ireturn, 1) := by decide +kernel
theorem dX2_isPossible_0 : decode cX2_isPossible 0 = .ok (.getstatic 194, 3) := by decide +kernel
theorem dX2_isPossible_3 : decode cX2_isPossible 3 = .ok (.aload_n 1, 1) := by decide +kernel
theorem dX2_isPossible_4 : decode cX2_isPossible 4 = .ok (.invokevirtual 199, 3) := by decide +kernel
theorem dX2_isPossible_7 : decode cX2_isPossible 7 = .ok (.iaload, 1) := by decide +kernel
theorem dX2_isPossible_8 : decode cX2_isPossible 8 = .ok (.tableswitch 219 1 8 #[91, 109, 146, 186, 201, 48, 66, 171], 48) := by decide +kernel
theorem dX2_isPossible_56 : decode cX2_isPossible 56 = .ok (.aload_n 0, 1) := by decide +kernel
theorem dX2_isPossible_57 : decode cX2_isPossible 57 = .ok (.getfield 18, 3) := by decide +kernel
theorem dX2_isPossible_60 : decode cX2_isPossible 60 = .ok (.iload_n 2, 1) := by decide +kernel
theorem dX2_isPossible_61 : decode cX2_isPossible 61 = .ok (.invokestatic 91, 3) := by decide +kernel
theorem dX2_isPossible_64 : decode cX2_isPossible 64 = .ok (.iload_n 3, 1) := by decide +kernel
theorem dX2_isPossible_65 : decode cX2_isPossible 65 = .ok (.if_icmp .lt 7, 3) := by decide +kernel
theorem dX2_isPossible_68 : decode cX2_isPossible 68 = .ok (.iconst 1, 1) := by decide +kernel
theorem dX2_isPossible_69 : decode cX2_isPossible 69 = .ok (.goto 4, 3) := by decide +kernel
theorem dX2_isPossible_72 : decode cX2_isPossible 72 = .ok (.iconst 0, 1) := by decide +kernel
theorem dX2_isPossible_73 : decode cX2_isPossible 73 = .ok (.ireturn, 1) := by decide +kernel
theorem dX2_isPossible_74 : decode cX2_isPossible 74 = .ok (.aload_n 0, 1) := by decide +kernel
theorem dX2_isPossible_75 : decode cX2_isPossible 75 = .ok (.getfield 9, 3) := by decide +kernel
theorem dX2_isPossible_78 : decode cX2_isPossible 78 = .ok (.aload_n 0, 1) := by decide +kernel
theorem dX2_isPossible_79 : decode cX2_isPossible 79 = .ok (.getfield 15, 3) := by decide +kernel
theorem dX2_isPossible_82 : decode cX2_isPossible 82 = .ok (.iload_n 2, 1) := by decide +kernel
theorem dX2_isPossible_83 : decode cX2_isPossible 83 = .ok (.invokestatic 91, 3) := by decide +kernel
theorem dX2_isPossible_86 : decode cX2_isPossible 86 = .ok (.invokestatic 91, 3) := by decide +kernel
theorem dX2_isPossible_89 : decode cX2_isPossible 89 = .ok (.iload_n 3, 1) := by decide +kernel
theorem dX2_isPossible_90 : decode cX2_isPossible 90 = .ok (.if_icmp .lt 7, 3) := by decide +kernel
theorem dX2_isPossible_93 : decode cX2_isPossible 93 = .ok (.iconst 1, 1) := by decide +kernel
theorem dX2_isPossible_94 : decode cX2_isPossible 94 = .ok (.goto 4, 3) := by decide +kernel
theorem dX2_isPossible_97 : decode cX2_isPossible 97 = .ok (.iconst 0, 1) := by decide +kernel
theorem dX2_isPossible_98 : decode cX2_isPossible 98 = .ok (.ireturn, 1) := by decide +kernel
theorem dX2_isPossible_99 : decode cX2_isPossible 99 = .ok (.aload_n 0, 1) := by decide +kernel
theorem dX2_isPossible_100 : decode cX2_isPossible 100 = .ok (.getfield 30, 3) := by decide +kernel
theorem dX2_isPossible_103 : decode cX2_isPossible 103 = .ok (.iload_n 3, 1) := by decide +kernel
theorem dX2_isPossible_104 : decode cX2_isPossible 104 = .ok (.invokestatic 91, 3) := by decide +kernel
theorem dX2_isPossible_107 : decode cX2_isPossible 107 = .ok (.iload_n 2, 1) := by decide +kernel
theorem dX2_isPossible_108 : decode cX2_isPossible 108 = .ok (.if_icmp .ne 7, 3) := by decide +kernel
theorem dX2_isPossible_111 : decode cX2_isPossible 111 = .ok (.iconst 1, 1) := by decide +kernel
theorem dX2_isPossible_112 : decode cX2_isPossible 112 = .ok (.goto 4, 3) := by decide +kernel
theorem dX2_isPossible_115 : decode cX2_isPossible 115 = .ok (.iconst 0, 1) := by decide +kernel
theorem dX2_isPossible_116 : decode cX2_isPossible 116 = .ok (.ireturn, 1) := by decide +kernel
theorem dX2_isPossible_117 : decode cX2_isPossible 117 = .ok (.aload_n 0, 1) := by decide +kernel
theorem dX2_isPossible_118 : decode cX2_isPossible 118 = .ok (.getfield 30, 3) := by decide +kernel
theorem dX2_isPossible_121 : decode cX2_isPossible 121 = .ok (.iload_n 3, 1) := by decide +kernel
theorem dX2_isPossible_122 : decode cX2_isPossible 122 = .ok (.invokestatic 91, 3) := by decide +kernel
theorem dX2_isPossible_125 : decode cX2_isPossible 125 = .ok (.iconst (-1), 1) := by decide +kernel
theorem dX2_isPossible_126 : decode cX2_isPossible 126 = .ok (.if_icmp .ne 26, 3) := by decide +kernel
theorem dX2_isPossible_129 : decode cX2_isPossible 129 = .ok (.aload_n 0, 1) := by decide +kernel
theorem dX2_isPossible_130 : decode cX2_isPossible 130 = .ok (.getfield 33, 3) := by decide +kernel
theorem dX2_isPossible_133 : decode cX2_isPossible 133 = .ok (.iload_n 3, 1) := by decide +kernel
theorem dX2_isPossible_134 : decode cX2_isPossible 134 = .ok (.invokestatic 91, 3) := by decide +kernel
theorem dX2_isPossible_137 : decode cX2_isPossible 137 = .ok (.aload_n 0, 1) := by decide +kernel
theorem dX2_isPossible_138 : decode cX2_isPossible 138 = .ok (.getfield 15, 3) := by decide +kernel
theorem dX2_isPossible_141 : decode cX2_isPossible 141 = .ok (.iload_n 2, 1) := by decide +kernel
theorem dX2_isPossible_142 : decode cX2_isPossible 142 = .ok (.invokestatic 91, 3) := by decide +kernel
theorem dX2_isPossible_145 : decode cX2_isPossible 145 = .ok (.if_icmp .ne 7, 3) := by decide +kernel
theorem dX2_isPossible_148 : decode cX2_isPossible 148 = .ok (.iconst 1, 1) := by decide +kernel
theorem dX2_isPossible_149 : decode cX2_isPossible 149 = .ok (.goto 4, 3) := by decide +kernel
theorem dX2_isPossible_152 : decode cX2_isPossible 152 = .ok (.iconst 0, 1) := by decide +kernel
theorem dX2_isPossible_153 : decode cX2_isPossible 153 = .ok (.ireturn, 1) := by decide +kernel
theorem dX2_isPossible_154 : decode cX2_isPossible 154 = .ok (.aload_n 0, 1) := by decide +kernel
theorem dX2_isPossible_155 : decode cX2_isPossible 155 = .ok (.getfield 15, 3) := by decide +kernel
theorem dX2_isPossible_158 : decode cX2_isPossible 158 = .ok (.iload_n 2, 1) := by decide +kernel
theorem dX2_isPossible_159 : decode cX2_isPossible 159 = .ok (.invokestatic 91, 3) := by decide +kernel
theorem dX2_isPossible_162 : decode cX2_isPossible 162 = .ok (.aload_n 0, 1) := by decide +kernel
theorem dX2_isPossible_163 : decode cX2_isPossible 163 = .ok (.getfield 15, 3) := by decide +kernel
theorem dX2_isPossible_166 : decode cX2_isPossible 166 = .ok (.iload_n 3, 1) := by decide +kernel
theorem dX2_isPossible_167 : decode cX2_isPossible 167 = .ok (.invokestatic 91, 3) := by decide +kernel
theorem dX2_isPossible_170 : decode cX2_isPossible 170 = .ok (.if_icmp .ne 7, 3) := by decide +kernel
theorem dX2_isPossible_173 : decode cX2_isPossible 173 = .ok (.iconst 1, 1) := by decide +kernel
theorem dX2_isPossible_174 : decode cX2_isPossible 174 = .ok (.goto 4, 3) := by decide +kernel
theorem dX2_isPossible_177 : decode cX2_isPossible 177 = .ok (.iconst 0, 1) := by decide +kernel
theorem dX2_isPossible_178 : decode cX2_isPossible 178 = .ok (.ireturn, 1) := by decide +kernel
theorem dX2_isPossible_179 : decode cX2_isPossible 179 = .ok (.aload_n 0, 1) := by decide +kernel
theorem dX2_isPossible_180 : decode cX2_isPossible 180 = .ok (.iload_n 2, 1) := by decide +kernel
theorem dX2_isPossible_181 : decode cX2_isPossible 181 = .ok (.invokevirtual 205, 3) := by decide +kernel
theorem dX2_isPossible_184 : decode cX2_isPossible 184 = .ok (.iconst (-1), 1) := by decide +kernel
theorem dX2_isPossible_185 : decode cX2_isPossible 185 = .ok (.if_icmp .ne 7, 3) := by decide +kernel
theorem dX2_isPossible_188 : decode cX2_isPossible 188 = .ok (.iconst 1, 1) := by decide +kernel
theorem dX2_isPossible_189 : decode cX2_isPossible 189 = .ok (.goto 4, 3) := by decide +kernel
theorem dX2_isPossible_192 : decode cX2_isPossible 192 = .ok (.iconst 0, 1) := by decide +kernel
theorem dX2_isPossible_193 : decode cX2_isPossible 193 = .ok (.ireturn, 1) := by decide +kernel
theorem dX2_isPossible_194 : decode cX2_isPossible 194 = .ok (.aload_n 0, 1) := by decide +kernel
theorem dX2_isPossible_195 : decode cX2_isPossible 195 = .ok (.iload_n 2, 1) := by decide +kernel
theorem dX2_isPossible_196 : decode cX2_isPossible 196 = .ok (.invokevirtual 205, 3) := by decide +kernel
theorem dX2_isPossible_199 : decode cX2_isPossible 199 = .ok (.iconst (-1), 1) := by decide +kernel
theorem dX2_isPossible_200 : decode cX2_isPossible 200 = .ok (.if_icmp .eq 7, 3) := by decide +kernel
theorem dX2_isPossible_203 : decode cX2_isPossible 203 = .ok (.iconst 1, 1) := by decide +kernel
theorem dX2_isPossible_204 : decode cX2_isPossible 204 = .ok (.goto 4, 3) := by decide +kernel
theorem dX2_isPossible_207 : decode cX2_isPossible 207 = .ok (.iconst 0, 1) := by decide +kernel
theorem dX2_isPossible_208 : decode cX2_isPossible 208 = .ok (.ireturn, 1) := by decide +kernel
theorem dX2_isPossible_209 : decode cX2_isPossible 209 = .ok (.aload_n 0, 1) := by decide +kernel
theorem dX2_isPossible_210 : decode cX2_isPossible 210 = .ok (.getfield 53, 3) := by decide +kernel
theorem dX2_isPossible_213 : decode cX2_isPossible 213 = .ok (.iload_n 2, 1) := by decide +kernel
theorem dX2_isPossible_214 : decode cX2_isPossible 214 = .ok (.iadd, 1) := by decide +kernel
theorem dX2_isPossible_215 : decode cX2_isPossible 215 = .ok (.sipush 10000, 3) := by decide +kernel
theorem dX2_isPossible_218 : decode cX2_isPossible 218 = .ok (.if_icmp .gt 7, 3) := by decide +kernel
theorem dX2_isPossible_221 : decode cX2_isPossible 221 = .ok (.iconst 1, 1) := by decide +kernel
theorem dX2_isPossible_222 : decode cX2_isPossible 222 = .ok (.goto 4, 3) := by decide +kernel
theorem dX2_isPossible_225 : decode cX2_isPossible 225 = .ok (.iconst 0, 1) := by decide +kernel
theorem dX2_isPossible_226 : decode cX2_isPossible 226 = .ok (.ireturn, 1) := by decide +kernel
theorem dX2_isPossible_227 : decode cX2_isPossible 227 = .ok (.iconst 1, 1) := by decide +kernel
theorem dX2_isPossible_228 : decode cX2_isPossible 228 = .ok (.ireturn, 1) := by decide +kernel
theorem dX2_drop_0 : decode cX2_drop 0 = .ok (.aload_n 0, 1) := by decide +kernel
theorem dX2_drop_1 : decode cX2_drop 1 = .ok (.getfield 15, 3) := by decide +kernel
theorem dX2_drop_4 : decode cX2_drop 4 = .ok (.iload_n 1, 1) := by decide +kernel
theorem dX2_drop_5 : decode cX2_drop 5 = .ok (.invokestatic 91, 3) := by decide +kernel
theorem dX2_drop_8 : decode cX2_drop 8 = .ok (.istore_n 3, 1) := by decide +kernel
theorem dX2_drop_9 : decode cX2_drop 9 = .ok (.aload_n 0, 1) := by decide +kernel
theorem dX2_drop_10 : decode cX2_drop 10 = .ok (.getfield 18, 3) := by decide +kernel
theorem dX2_drop_13 : decode cX2_drop 13 = .ok (.iload_n 1, 1) := by decide +kernel
theorem dX2_drop_14 : decode cX2_drop 14 = .ok (.iload_n 2, 1) := by decide +kernel
theorem dX2_drop_15 : decode cX2_drop 15 = .ok (.ineg, 1) := by decide +kernel
theorem dX2_drop_16 : decode cX2_drop 16 = .ok (.invokestatic 160, 3) := by decide +kernel
theorem dX2_drop_19 : decode cX2_drop 19 = .ok (.aload_n 0, 1) := by decide +kernel
theorem dX2_drop_20 : decode cX2_drop 20 = .ok (.getfield 9, 3) := by decide +kernel
theorem dX2_drop_23 : decode cX2_drop 23 = .ok (.iload_n 3, 1) := by decide +kernel
theorem dX2_drop_24 : decode cX2_drop 24 = .ok (.iload_n 2, 1) := by decide +kernel
theorem dX2_drop_25 : decode cX2_drop 25 = .ok (.invokestatic 160, 3) := by decide +kernel
theorem dX2_drop_28 : decode cX2_drop 28 = .ok (.aload_n 0, 1) := by decide +kernel
theorem dX2_drop_29 : decode cX2_drop 29 = .ok (.getfield 9, 3) := by decide +kernel
theorem dX2_drop_32 : decode cX2_drop 32 = .ok (.iload_n 3, 1) := by decide +kernel
theorem dX2_drop_33 : decode cX2_drop 33 = .ok (.invokestatic 91, 3) := by decide +kernel
theorem dX2_drop_36 : decode cX2_drop 36 = .ok (.ireturn, 1) := by decide +kernel
theorem dX2_pick_0 : decode cX2_pick 0 = .ok (.aload_n 0, 1) := by decide +kernel
theorem dX2_pick_1 : decode cX2_pick 1 = .ok (.getfield 9, 3) := by decide +kernel
theorem dX2_pick_4 : decode cX2_pick 4 = .ok (.aload_n 0, 1) := by decide +kernel
theorem dX2_pick_5 : decode cX2_pick 5 = .ok (.getfield 15, 3) := by decide +kernel
theorem dX2_pick_8 : decode cX2_pick 8 = .ok (.iload_n 1, 1) := by decide +kernel
theorem dX2_pick_9 : decode cX2_pick 9 = .ok (.invokestatic 91, 3) := by decide +kernel
theorem dX2_pick_12 : decode cX2_pick 12 = .ok (.iload_n 2, 1) := by decide +kernel
theorem dX2_pick_13 : decode cX2_pick 13 = .ok (.ineg, 1) := by decide +kernel
theorem dX2_pick_14 : decode cX2_pick 14 = .ok (.invokestatic 160, 3) := by decide +kernel
theorem dX2_pick_17 : decode cX2_pick 17 = .ok (.aload_n 0, 1) := by decide +kernel
theorem dX2_pick_18 : decode cX2_pick 18 = .ok (.getfield 18, 3) := by decide +kernel
theorem dX2_pick_21 : decode cX2_pick 21 = .ok (.iload_n 1, 1) := by decide +kernel
theorem dX2_pick_22 : decode cX2_pick 22 = .ok (.iload_n 2, 1) := by decide +kernel
theorem dX2_pick_23 : decode cX2_pick 23 = .ok (.invokestatic 160, 3) := by decide +kernel
theorem dX2_pick_26 : decode cX2_pick 26 = .ok (.aload_n 0, 1) := by decide +kernel
theorem dX2_pick_27 : decode cX2_pick 27 = .ok (.getfield 18, 3) := by decide +kernel
theorem dX2_pick_30 : decode cX2_pick 30 = .ok (.iload_n 1, 1) := by decide +kernel
theorem dX2_pick_31 : decode cX2_pick 31 = .ok (.invokestatic 91, 3) := by decide +kernel
theorem dX2_pick_34 : decode cX2_pick 34 = .ok (.ireturn, 1) := by decide +kernel
theorem dX2_lay_0 : decode cX2_lay 0 = .ok (.aload_n 0, 1) := by decide +kernel
theorem dX2_lay_1 : decode cX2_lay 1 = .ok (.getfield 30, 3) := by decide +kernel
theorem dX2_lay_4 : decode cX2_lay 4 = .ok (.iload_n 2, 1) := by decide +kernel
theorem dX2_lay_5 : decode cX2_lay 5 = .ok (.iconst (-1), 1) := by decide +kernel
theorem dX2_lay_6 : decode cX2_lay 6 = .ok (.invokestatic 66, 3) := by decide +kernel
theorem dX2_lay_9 : decode cX2_lay 9 = .ok (.aload_n 0, 1) := by decide +kernel
theorem dX2_lay_10 : decode cX2_lay 10 = .ok (.getfield 33, 3) := by decide +kernel
theorem dX2_lay_13 : decode cX2_lay 13 = .ok (.iload_n 2, 1) := by decide +kernel
theorem dX2_lay_14 : decode cX2_lay 14 = .ok (.aload_n 0, 1) := by decide +kernel
theorem dX2_lay_15 : decode cX2_lay 15 = .ok (.getfield 15, 3) := by decide +kernel
theorem dX2_lay_18 : decode cX2_lay 18 = .ok (.iload_n 1, 1) := by decide +kernel
theorem dX2_lay_19 : decode cX2_lay 19 = .ok (.invokestatic 91, 3) := by decide +kernel
theorem dX2_lay_22 : decode cX2_lay 22 = .ok (.invokestatic 66, 3) := by decide +kernel
theorem dX2_lay_25 : decode cX2_lay 25 = .ok (.aload_n 0, 1) := by decide +kernel
theorem dX2_lay_26 : decode cX2_lay 26 = .ok (.iload_n 1, 1) := by decide +kernel
theorem dX2_lay_27 : decode cX2_lay 27 = .ok (.invokevirtual 235, 3) := by decide +kernel
theorem dX2_lay_30 : decode cX2_lay 30 = .ok (.ireturn, 1) := by decide +kernel
theorem dX2_lift_0 : decode cX2_lift 0 = .ok (.aload_n 0, 1) := by decide +kernel
theorem dX2_lift_1 : decode cX2_lift 1 = .ok (.getfield 30, 3) := by decide +kernel
theorem dX2_lift_4 : decode cX2_lift 4 = .ok (.iload_n 2, 1) := by decide +kernel
theorem dX2_lift_5 : decode cX2_lift 5 = .ok (.iload_n 1, 1) := by decide +kernel
theorem dX2_lift_6 : decode cX2_lift 6 = .ok (.invokestatic 66, 3) := by decide +kernel
theorem dX2_lift_9 : decode cX2_lift 9 = .ok (.aload_n 0, 1) := by decide +kernel
theorem dX2_lift_10 : decode cX2_lift 10 = .ok (.iload_n 1, 1) := by decide +kernel
theorem dX2_lift_11 : decode cX2_lift 11 = .ok (.invokevirtual 235, 3) := by decide +kernel
theorem dX2_lift_14 : decode cX2_lift 14 = .ok (.ireturn, 1) := by decide +kernel
theorem dX2_swap_0 : decode cX2_swap 0 = .ok (.aload_n 0, 1) := by decide +kernel
theorem dX2_swap_1 : decode cX2_swap 1 = .ok (.getfield 24, 3) := by decide +kernel
theorem dX2_swap_4 : decode cX2_swap 4 = .ok (.iload_n 1, 1) := by decide +kernel
theorem dX2_swap_5 : decode cX2_swap 5 = .ok (.invokestatic 91, 3) := by decide +kernel
theorem dX2_swap_8 : decode cX2_swap 8 = .ok (.istore_n 3, 1) := by decide +kernel
theorem dX2_swap_9 : decode cX2_swap 9 = .ok (.aload_n 0, 1) := by decide +kernel
theorem dX2_swap_10 : decode cX2_swap 10 = .ok (.getfield 24, 3) := by decide +kernel
theorem dX2_swap_13 : decode cX2_swap 13 = .ok (.iload_n 1, 1) := by decide +kernel
theorem dX2_swap_14 : decode cX2_swap 14 = .ok (.aload_n 0, 1) := by decide +kernel
theorem dX2_swap_15 : decode cX2_swap 15 = .ok (.getfield 24, 3) := by decide +kernel
theorem dX2_swap_18 : decode cX2_swap 18 = .ok (.iload_n 2, 1) := by decide +kernel
theorem dX2_swap_19 : decode cX2_swap 19 = .ok (.invokestatic 91, 3) := by decide +kernel
theorem dX2_swap_22 : decode cX2_swap 22 = .ok (.invokestatic 66, 3) := by decide +kernel
theorem dX2_swap_25 : decode cX2_swap 25 = .ok (.aload_n 0, 1) := by decide +kernel
theorem dX2_swap_26 : decode cX2_swap 26 = .ok (.getfield 24, 3) := by decide +kernel
theorem dX2_swap_29 : decode cX2_swap 29 = .ok (.iload_n 2, 1) := by decide +kernel
theorem dX2_swap_30 : decode cX2_swap 30 = .ok (.iload_n 3, 1) := by decide +kernel
theorem dX2_swap_31 : decode cX2_swap 31 = .ok (.invokestatic 66, 3) := by decide +kernel
theorem dX2_swap_34 : decode cX2_swap 34 = .ok (.aload_n 0, 1) := by decide +kernel
theorem dX2_swap_35 : decode cX2_swap 35 = .ok (.getfield 24, 3) := by decide +kernel
theorem dX2_swap_38 : decode cX2_swap 38 = .ok (.iload_n 1, 1) := by decide +kernel
theorem dX2_swap_39 : decode cX2_swap 39 = .ok (.invokestatic 91, 3) := by decide +kernel
theorem dX2_swap_42 : decode cX2_swap 42 = .ok (.ireturn, 1) := by decide +kernel
theorem dX2_join_0 : decode cX2_join 0 = .ok (.aload_n 0, 1) := by decide +kernel
theorem dX2_join_1 : decode cX2_join 1 = .ok (.aload_n 0, 1) := by decide +kernel
theorem dX2_join_2 : decode cX2_join 2 = .ok (.getfield 15, 3) := by decide +kernel
theorem dX2_join_5 : decode cX2_join 5 = .ok (.iload_n 1, 1) := by decide +kernel
theorem dX2_join_6 : decode cX2_join 6 = .ok (.invokestatic 91, 3) := by decide +kernel
theorem dX2_join_9 : decode cX2_join 9 = .ok (.invokevirtual 122, 3) := by decide +kernel
theorem dX2_join_12 : decode cX2_join 12 = .ok (.iload_n 1, 1) := by decide +kernel
theorem dX2_join_13 : decode cX2_join 13 = .ok (.iload_n 2, 1) := by decide +kernel
theorem dX2_join_14 : decode cX2_join 14 = .ok (.invokevirtual 238, 3) := by decide +kernel
theorem dX2_join_17 : decode cX2_join 17 = .ok (.ireturn, 1) := by decide +kernel
theorem dX2_quit_0 : decode cX2_quit 0 = .ok (.aload_n 0, 1) := by decide +kernel
theorem dX2_quit_1 : decode cX2_quit 1 = .ok (.aload_n 0, 1) := by decide +kernel
theorem dX2_quit_2 : decode cX2_quit 2 = .ok (.getfield 15, 3) := by decide +kernel
theorem dX2_quit_5 : decode cX2_quit 5 = .ok (.iload_n 1, 1) := by decide +kernel
theorem dX2_quit_6 : decode cX2_quit 6 = .ok (.invokestatic 91, 3) := by decide +kernel
theorem dX2_quit_9 : decode cX2_quit 9 = .ok (.invokevirtual 122, 3) := by decide +kernel
theorem dX2_quit_12 : decode cX2_quit 12 = .ok (.astore_n 2, 1) := by decide +kernel
theorem dX2_quit_13 : decode cX2_quit 13 = .ok (.aload_n 2, 1) := by decide +kernel
theorem dX2_quit_14 : decode cX2_quit 14 = .ok (.iload_n 1, 1) := by decide +kernel
theorem dX2_quit_15 : decode cX2_quit 15 = .ok (.invokevirtual 126, 3) := by decide +kernel
theorem dX2_quit_18 : decode cX2_quit 18 = .ok (.istore_n 3, 1) := by decide +kernel
theorem dX2_quit_19 : decode cX2_quit 19 = .ok (.aload_n 2, 1) := by decide +kernel
theorem dX2_quit_20 : decode cX2_quit 20 = .ok (.iload_n 3, 1) := by decide +kernel
theorem dX2_quit_21 : decode cX2_quit 21 = .ok (.invokevirtual 129, 3) := by decide +kernel
theorem dX2_quit_24 : decode cX2_quit 24 = .ok (.istore 4, 2) := by decide +kernel
theorem dX2_quit_26 : decode cX2_quit 26 = .ok (.aload_n 2, 1) := by decide +kernel
theorem dX2_quit_27 : decode cX2_quit 27 = .ok (.iload_n 3, 1) := by decide +kernel
theorem dX2_quit_28 : decode cX2_quit 28 = .ok (.invokevirtual 156, 3) := by decide +kernel
theorem dX2_quit_31 : decode cX2_quit 31 = .ok (.iload 4, 2) := by decide +kernel
theorem dX2_quit_33 : decode cX2_quit 33 = .ok (.ireturn, 1) := by decide +kernel
theorem dX2_changePride_0 : decode cX2_changePride 0 = .ok (.aload_n 0, 1) := by decide +kernel
theorem dX2_changePride_1 : decode cX2_changePride 1 = .ok (.getfield 21, 3) := by decide +kernel
theorem dX2_changePride_4 : decode cX2_changePride 4 = .ok (.iload_n 1, 1) := by decide +kernel
theorem dX2_changePride_5 : decode cX2_changePride 5 = .ok (.invokestatic 91, 3) := by decide +kernel
theorem dX2_changePride_8 : decode cX2_changePride 8 = .ok (.istore_n 3, 1) := by decide +kernel
theorem dX2_changePride_9 : decode cX2_changePride 9 = .ok (.aload_n 0, 1) := by decide +kernel
theorem dX2_changePride_10 : decode cX2_changePride 10 = .ok (.getfield 21, 3) := by decide +kernel
theorem dX2_changePride_13 : decode cX2_changePride 13 = .ok (.iload_n 1, 1) := by decide +kernel
theorem dX2_changePride_14 : decode cX2_changePride 14 = .ok (.iload_n 2, 1) := by decide +kernel
theorem dX2_changePride_15 : decode cX2_changePride 15 = .ok (.invokestatic 66, 3) := by decide +kernel
theorem dX2_changePride_18 : decode cX2_changePride 18 = .ok (.iload_n 3, 1) := by decide +kernel
theorem dX2_changePride_19 : decode cX2_changePride 19 = .ok (.ireturn, 1) := by decide +kernel
theorem dX3_init_0 : decode cX3_init 0 = .ok (.aload_n 0, 1) := by decide +kernel
theorem dX3_init_1 : decode cX3_init 1 = .ok (.invokespecial 3, 3) := by decide +kernel
theorem dX3_init_4 : decode cX3_init 4 = .ok (.aload_n 0, 1) := by decide +kernel
theorem dX3_init_5 : decode cX3_init 5 = .ok (.bipush 10, 2) := by decide +kernel
theorem dX3_init_7 : decode cX3_init 7 = .ok (.newarray .int, 2) := by decide +kernel
theorem dX3_init_9 : decode cX3_init 9 = .ok (.putfield 9, 3) := by decide +kernel
theorem dX3_init_12 : decode cX3_init 12 = .ok (.aload_n 0, 1) := by decide +kernel
theorem dX3_init_13 : decode cX3_init 13 = .ok (.bipush 10, 2) := by decide +kernel
theorem dX3_init_15 : decode cX3_init 15 = .ok (.newarray .int, 2) := by decide +kernel
theorem dX3_init_17 : decode cX3_init 17 = .ok (.putfield 15, 3) := by decide +kernel
theorem dX3_init_20 : decode cX3_init 20 = .ok (.return_, 1) := by decide +kernel
theorem dX3_copyFrom_0 : decode cX3_copyFrom 0 = .ok (.aload_n 0, 1) := by decide +kernel
theorem dX3_copyFrom_1 : decode cX3_copyFrom 1 = .ok (.aload_n 1, 1) := by decide +kernel
theorem dX3_copyFrom_2 : decode cX3_copyFrom 2 = .ok (.getfield 18, 3) := by decide +kernel
theorem dX3_copyFrom_5 : decode cX3_copyFrom 5 = .ok (.putfield 18, 3) := by decide +kernel
theorem dX3_copyFrom_8 : decode cX3_copyFrom 8 = .ok (.aload_n 1, 1) := by decide +kernel
theorem dX3_copyFrom_9 : decode cX3_copyFrom 9 = .ok (.getfield 9, 3) := by decide +kernel
theorem dX3_copyFrom_12 : decode cX3_copyFrom 12 = .ok (.aload_n 0, 1) := by decide +kernel
theorem dX3_copyFrom_13 : decode cX3_copyFrom 13 = .ok (.getfield 9, 3) := by decide +kernel
theorem dX3_copyFrom_16 : decode cX3_copyFrom 16 = .ok (.invokestatic 22, 3) := by decide +kernel
theorem dX3_copyFrom_19 : decode cX3_copyFrom 19 = .ok (.aload_n 1, 1) := by decide +kernel
theorem dX3_copyFrom_20 : decode cX3_copyFrom 20 = .ok (.getfield 15, 3) := by decide +kernel
theorem dX3_copyFrom_23 : decode cX3_copyFrom 23 = .ok (.aload_n 0, 1) := by decide +kernel
theorem dX3_copyFrom_24 : decode cX3_copyFrom 24 = .ok (.getfield 15, 3) := by decide +kernel
theorem dX3_copyFrom_27 : decode cX3_copyFrom 27 = .ok (.invokestatic 22, 3) := by decide +kernel
theorem dX3_copyFrom_30 : decode cX3_copyFrom 30 = .ok (.return_, 1) := by decide +kernel
theorem dX3_personAt_0 : decode cX3_personAt 0 = .ok (.iload_n 1, 1) := by decide +kernel
theorem dX3_personAt_1 : decode cX3_personAt 1 = .ok (.ifCond .lt 22, 3) := by decide +kernel
theorem dX3_personAt_4 : decode cX3_personAt 4 = .ok (.iload_n 1, 1) := by decide +kernel
theorem dX3_personAt_5 : decode cX3_personAt 5 = .ok (.aload_n 0, 1) := by decide +kernel
theorem dX3_personAt_6 : decode cX3_personAt 6 = .ok (.getfield 18, 3) := by decide +kernel
theorem dX3_personAt_9 : decode cX3_personAt 9 = .ok (.if_icmp .ge 14, 3) := by decide +kernel
theorem dX3_personAt_12 : decode cX3_personAt 12 = .ok (.aload_n 0, 1) := by decide +kernel
theorem dX3_personAt_13 : decode cX3_personAt 13 = .ok (.getfield 9, 3) := by decide +kernel
theorem dX3_personAt_16 : decode cX3_personAt 16 = .ok (.iload_n 1, 1) := by decide +kernel
theorem dX3_personAt_17 : decode cX3_personAt 17 = .ok (.invokestatic 26, 3) := by decide +kernel
theorem dX3_personAt_20 : decode cX3_personAt 20 = .ok (.goto 4, 3) := by decide +kernel
theorem dX3_personAt_23 : decode cX3_personAt 23 = .ok (.iconst (-1), 1) := by decide +kernel
theorem dX3_personAt_24 : decode cX3_personAt 24 = .ok (.ireturn, 1) := by decide +kernel
theorem dX3_offerAt_0 : decode cX3_offerAt 0 = .ok (.iload_n 1, 1) := by decide +kernel
theorem dX3_offerAt_1 : decode cX3_offerAt 1 = .ok (.ifCond .lt 22, 3) := by decide +kernel
theorem dX3_offerAt_4 : decode cX3_offerAt 4 = .ok (.iload_n 1, 1) := by decide +kernel
theorem dX3_offerAt_5 : decode cX3_offerAt 5 = .ok (.aload_n 0, 1) := by decide +kernel
theorem dX3_offerAt_6 : decode cX3_offerAt 6 = .ok (.getfield 18, 3) := by decide +kernel
theorem dX3_offerAt_9 : decode cX3_offerAt 9 = .ok (.if_icmp .ge 14, 3) := by decide +kernel
theorem dX3_offerAt_12 : decode cX3_offerAt 12 = .ok (.aload_n 0, 1) := by decide +kernel
theorem dX3_offerAt_13 : decode cX3_offerAt 13 = .ok (.getfield 15, 3) := by decide +kernel
theorem dX3_offerAt_16 : decode cX3_offerAt 16 = .ok (.iload_n 1, 1) := by decide +kernel
theorem dX3_offerAt_17 : decode cX3_offerAt 17 = .ok (.invokestatic 26, 3) := by decide +kernel
theorem dX3_offerAt_20 : decode cX3_offerAt 20 = .ok (.goto 4, 3) := by decide +kernel
theorem dX3_offerAt_23 : decode cX3_offerAt 23 = .ok (.iconst (-1), 1) := by decide +kernel
theorem dX3_offerAt_24 : decode cX3_offerAt 24 = .ok (.ireturn, 1) := by decide +kernel
theorem dX3_placeOf_0 : decode cX3_placeOf 0 = .ok (.iconst 0, 1) := by decide +kernel
theorem dX3_placeOf_1 : decode cX3_placeOf 1 = .ok (.istore_n 2, 1) := by decide +kernel
theorem dX3_placeOf_2 : decode cX3_placeOf 2 = .ok (.iload_n 2, 1) := by decide +kernel
theorem dX3_placeOf_3 : decode cX3_placeOf 3 = .ok (.aload_n 0, 1) := by decide +kernel
theorem dX3_placeOf_4 : decode cX3_placeOf 4 = .ok (.getfield 18, 3) := by decide +kernel
theorem dX3_placeOf_7 : decode cX3_placeOf 7 = .ok (.if_icmp .ge 23, 3) := by decide +kernel
theorem dX3_placeOf_10 : decode cX3_placeOf 10 = .ok (.aload_n 0, 1) := by decide +kernel
theorem dX3_placeOf_11 : decode cX3_placeOf 11 = .ok (.getfield 9, 3) := by decide +kernel
theorem dX3_placeOf_14 : decode cX3_placeOf 14 = .ok (.iload_n 2, 1) := by decide +kernel
theorem dX3_placeOf_15 : decode cX3_placeOf 15 = .ok (.invokestatic 26, 3) := by decide +kernel
theorem dX3_placeOf_18 : decode cX3_placeOf 18 = .ok (.iload_n 1, 1) := by decide +kernel
theorem dX3_placeOf_19 : decode cX3_placeOf 19 = .ok (.if_icmp .ne 5, 3) := by decide +kernel
theorem dX3_placeOf_22 : decode cX3_placeOf 22 = .ok (.iload_n 2, 1) := by decide +kernel
theorem dX3_placeOf_23 : decode cX3_placeOf 23 = .ok (.ireturn, 1) := by decide +kernel
theorem dX3_placeOf_24 : decode cX3_placeOf 24 = .ok (.iinc 2 1, 3) := by decide +kernel
theorem dX3_placeOf_27 : decode cX3_placeOf 27 = .ok (.goto (-25), 3) := by decide +kernel
theorem dX3_placeOf_30 : decode cX3_placeOf 30 = .ok (.iconst (-1), 1) := by decide +kernel
theorem dX3_placeOf_31 : decode cX3_placeOf 31 = .ok (.ireturn, 1) := by decide +kernel
theorem dX3_insert_0 : decode cX3_insert 0 = .ok (.aload_n 0, 1) := by decide +kernel
theorem dX3_insert_1 : decode cX3_insert 1 = .ok (.getfield 18, 3) := by decide +kernel
theorem dX3_insert_4 : decode cX3_insert 4 = .ok (.istore_n 3, 1) := by decide +kernel
theorem dX3_insert_5 : decode cX3_insert 5 = .ok (.iload_n 3, 1) := by decide +kernel
theorem dX3_insert_6 : decode cX3_insert 6 = .ok (.ifCond .le 59, 3) := by decide +kernel
theorem dX3_insert_9 : decode cX3_insert 9 = .ok (.aload_n 0, 1) := by decide +kernel
theorem dX3_insert_10 : decode cX3_insert 10 = .ok (.getfield 15, 3) := by decide +kernel
theorem dX3_insert_13 : decode cX3_insert 13 = .ok (.iload_n 3, 1) := by decide +kernel
theorem dX3_insert_14 : decode cX3_insert 14 = .ok (.iconst 1, 1) := by decide +kernel
theorem dX3_insert_15 : decode cX3_insert 15 = .ok (.isub, 1) := by decide +kernel
theorem dX3_insert_16 : decode cX3_insert 16 = .ok (.invokestatic 26, 3) := by decide +kernel
theorem dX3_insert_19 : decode cX3_insert 19 = .ok (.iload_n 2, 1) := by decide +kernel
theorem dX3_insert_20 : decode cX3_insert 20 = .ok (.if_icmp .ge 45, 3) := by decide +kernel
theorem dX3_insert_23 : decode cX3_insert 23 = .ok (.aload_n 0, 1) := by decide +kernel
theorem dX3_insert_24 : decode cX3_insert 24 = .ok (.getfield 9, 3) := by decide +kernel
theorem dX3_insert_27 : decode cX3_insert 27 = .ok (.iload_n 3, 1) := by decide +kernel
theorem dX3_insert_28 : decode cX3_insert 28 = .ok (.aload_n 0, 1) := by decide +kernel
theorem dX3_insert_29 : decode cX3_insert 29 = .ok (.getfield 9, 3) := by decide +kernel
theorem dX3_insert_32 : decode cX3_insert 32 = .ok (.iload_n 3, 1) := by decide +kernel
theorem dX3_insert_33 : decode cX3_insert 33 = .ok (.iconst 1, 1) := by decide +kernel
theorem dX3_insert_34 : decode cX3_insert 34 = .ok (.isub, 1) := by decide +kernel
theorem dX3_insert_35 : decode cX3_insert 35 = .ok (.invokestatic 26, 3) := by decide +kernel
theorem dX3_insert_38 : decode cX3_insert 38 = .ok (.invokestatic 30, 3) := by decide +kernel
theorem dX3_insert_41 : decode cX3_insert 41 = .ok (.aload_n 0, 1) := by decide +kernel
theorem dX3_insert_42 : decode cX3_insert 42 = .ok (.getfield 15, 3) := by decide +kernel
theorem dX3_insert_45 : decode cX3_insert 45 = .ok (.iload_n 3, 1) := by decide +kernel
theorem dX3_insert_46 : decode cX3_insert 46 = .ok (.aload_n 0, 1) := by decide +kernel
theorem dX3_insert_47 : decode cX3_insert 47 = .ok (.getfield 15, 3) := by decide +kernel
theorem dX3_insert_50 : decode cX3_insert 50 = .ok (.iload_n 3, 1) := by decide +kernel
theorem dX3_insert_51 : decode cX3_insert 51 = .ok (.iconst 1, 1) := by decide +kernel
theorem dX3_insert_52 : decode cX3_insert 52 = .ok (.isub, 1) := by decide +kernel
theorem dX3_insert_53 : decode cX3_insert 53 = .ok (.invokestatic 26, 3) := by decide +kernel
theorem dX3_insert_56 : decode cX3_insert 56 = .ok (.invokestatic 30, 3) := by decide +kernel
theorem dX3_insert_59 : decode cX3_insert 59 = .ok (.iinc 3 (-1), 3) := by decide +kernel
theorem dX3_insert_62 : decode cX3_insert 62 = .ok (.goto (-57), 3) := by decide +kernel
theorem dX3_insert_65 : decode cX3_insert 65 = .ok (.aload_n 0, 1) := by decide +kernel
theorem dX3_insert_66 : decode cX3_insert 66 = .ok (.getfield 9, 3) := by decide +kernel
theorem dX3_insert_69 : decode cX3_insert 69 = .ok (.iload_n 3, 1) := by decide +kernel
theorem dX3_insert_70 : decode cX3_insert 70 = .ok (.iload_n 1, 1) := by decide +kernel
theorem dX3_insert_71 : decode cX3_insert 71 = .ok (.invokestatic 30, 3) := by decide +kernel
theorem dX3_insert_74 : decode cX3_insert 74 = .ok (.aload_n 0, 1) := by decide +kernel
theorem dX3_insert_75 : decode cX3_insert 75 = .ok (.getfield 15, 3) := by decide +kernel
theorem dX3_insert_78 : decode cX3_insert 78 = .ok (.iload_n 3, 1) := by decide +kernel
theorem dX3_insert_79 : decode cX3_insert 79 = .ok (.iload_n 2, 1) := by decide +kernel
theorem dX3_insert_80 : decode cX3_insert 80 = .ok (.invokestatic 30, 3) := by decide +kernel
theorem dX3_insert_83 : decode cX3_insert 83 = .ok (.aload_n 0, 1) := by decide +kernel
theorem dX3_insert_84 : decode cX3_insert 84 = .ok (.dup, 1) := by decide +kernel
theorem dX3_insert_85 : decode cX3_insert 85 = .ok (.getfield 18, 3) := by decide +kernel
theorem dX3_insert_88 : decode cX3_insert 88 = .ok (.iconst 1, 1) := by decide +kernel
theorem dX3_insert_89 : decode cX3_insert 89 = .ok (.iadd, 1) := by decide +kernel
theorem dX3_insert_90 : decode cX3_insert 90 = .ok (.putfield 18, 3) := by decide +kernel
theorem dX3_insert_93 : decode cX3_insert 93 = .ok (.iload_n 3, 1) := by decide +kernel
theorem dX3_insert_94 : decode cX3_insert 94 = .ok (.ireturn, 1) := by decide +kernel
theorem dX3_removeAt_0 : decode cX3_removeAt 0 = .ok (.iload_n 1, 1) := by decide +kernel
theorem dX3_removeAt_1 : decode cX3_removeAt 1 = .ok (.ifCond .lt 11, 3) := by decide +kernel
theorem dX3_removeAt_4 : decode cX3_removeAt 4 = .ok (.iload_n 1, 1) := by decide +kernel
theorem dX3_removeAt_5 : decode cX3_removeAt 5 = .ok (.aload_n 0, 1) := by decide +kernel
theorem dX3_removeAt_6 : decode cX3_removeAt 6 = .ok (.getfield 18, 3) := by decide +kernel
theorem dX3_removeAt_9 : decode cX3_removeAt 9 = .ok (.if_icmp .lt 4, 3) := by decide +kernel
theorem dX3_removeAt_12 : decode cX3_removeAt 12 = .ok (.return_, 1) := by decide +kernel
theorem dX3_removeAt_13 : decode cX3_removeAt 13 = .ok (.aload_n 0, 1) := by decide +kernel
theorem dX3_removeAt_14 : decode cX3_removeAt 14 = .ok (.dup, 1) := by decide +kernel
theorem dX3_removeAt_15 : decode cX3_removeAt 15 = .ok (.getfield 18, 3) := by decide +kernel
theorem dX3_removeAt_18 : decode cX3_removeAt 18 = .ok (.iconst 1, 1) := by decide +kernel
theorem dX3_removeAt_19 : decode cX3_removeAt 19 = .ok (.isub, 1) := by decide +kernel
theorem dX3_removeAt_20 : decode cX3_removeAt 20 = .ok (.putfield 18, 3) := by decide +kernel
theorem dX3_removeAt_23 : decode cX3_removeAt 23 = .ok (.iload_n 1, 1) := by decide +kernel
theorem dX3_removeAt_24 : decode cX3_removeAt 24 = .ok (.istore_n 2, 1) := by decide +kernel
theorem dX3_removeAt_25 : decode cX3_removeAt 25 = .ok (.iload_n 2, 1) := by decide +kernel
theorem dX3_removeAt_26 : decode cX3_removeAt 26 = .ok (.aload_n 0, 1) := by decide +kernel
theorem dX3_removeAt_27 : decode cX3_removeAt 27 = .ok (.getfield 18, 3) := by decide +kernel
theorem dX3_removeAt_30 : decode cX3_removeAt 30 = .ok (.if_icmp .ge 45, 3) := by decide +kernel
theorem dX3_removeAt_33 : decode cX3_removeAt 33 = .ok (.aload_n 0, 1) := by decide +kernel
theorem dX3_removeAt_34 : decode cX3_removeAt 34 = .ok (.getfield 9, 3) := by decide +kernel
theorem dX3_removeAt_37 : decode cX3_removeAt 37 = .ok (.iload_n 2, 1) := by decide +kernel
theorem dX3_removeAt_38 : decode cX3_removeAt 38 = .ok (.aload_n 0, 1) := by decide +kernel
theorem dX3_removeAt_39 : decode cX3_removeAt 39 = .ok (.getfield 9, 3) := by decide +kernel
theorem dX3_removeAt_42 : decode cX3_removeAt 42 = .ok (.iload_n 2, 1) := by decide +kernel
theorem dX3_removeAt_43 : decode cX3_removeAt 43 = .ok (.iconst 1, 1) := by decide +kernel
theorem dX3_removeAt_44 : decode cX3_removeAt 44 = .ok (.iadd, 1) := by decide +kernel
theorem dX3_removeAt_45 : decode cX3_removeAt 45 = .ok (.invokestatic 26, 3) := by decide +kernel
theorem dX3_removeAt_48 : decode cX3_removeAt 48 = .ok (.invokestatic 30, 3) := by decide +kernel
theorem dX3_removeAt_51 : decode cX3_removeAt 51 = .ok (.aload_n 0, 1) := by decide +kernel
theorem dX3_removeAt_52 : decode cX3_removeAt 52 = .ok (.getfield 15, 3) := by decide +kernel
theorem dX3_removeAt_55 : decode cX3_removeAt 55 = .ok (.iload_n 2, 1) := by decide +kernel
theorem dX3_removeAt_56 : decode cX3_removeAt 56 = .ok (.aload_n 0, 1) := by decide +kernel
theorem dX3_removeAt_57 : decode cX3_removeAt 57 = .ok (.getfield 15, 3) := by decide +kernel
theorem dX3_removeAt_60 : decode cX3_removeAt 60 = .ok (.iload_n 2, 1) := by decide +kernel
theorem dX3_removeAt_61 : decode cX3_removeAt 61 = .ok (.iconst 1, 1) := by decide +kernel
theorem dX3_removeAt_62 : decode cX3_removeAt 62 = .ok (.iadd, 1) := by decide +kernel
theorem dX3_removeAt_63 : decode cX3_removeAt 63 = .ok (.invokestatic 26, 3) := by decide +kernel
theorem dX3_removeAt_66 : decode cX3_removeAt 66 = .ok (.invokestatic 30, 3) := by decide +kernel
theorem dX3_removeAt_69 : decode cX3_removeAt 69 = .ok (.iinc 2 1, 3) := by decide +kernel
theorem dX3_removeAt_72 : decode cX3_removeAt 72 = .ok (.goto (-47), 3) := by decide +kernel
theorem dX3_removeAt_75 : decode cX3_removeAt 75 = .ok (.return_, 1) := by decide +kernel
theorem dX4_init_0 : decode cX4_init 0 = .ok (.aload_n 0, 1) := by decide +kernel
theorem dX4_init_1 : decode cX4_init 1 = .ok (.invokespecial 3, 3) := by decide +kernel
theorem dX4_init_4 : decode cX4_init 4 = .ok (.aload_n 0, 1) := by decide +kernel
theorem dX4_init_5 : decode cX4_init 5 = .ok (.bipush 20, 2) := by decide +kernel
theorem dX4_init_7 : decode cX4_init 7 = .ok (.anewarray 9, 3) := by decide +kernel
theorem dX4_init_10 : decode cX4_init 10 = .ok (.putfield 11, 3) := by decide +kernel
theorem dX4_init_13 : decode cX4_init 13 = .ok (.aload_n 0, 1) := by decide +kernel
theorem dX4_init_14 : decode cX4_init 14 = .ok (.bipush 20, 2) := by decide +kernel
theorem dX4_init_16 : decode cX4_init 16 = .ok (.newarray .int, 2) := by decide +kernel
theorem dX4_init_18 : decode cX4_init 18 = .ok (.putfield 17, 3) := by decide +kernel
theorem dX4_init_21 : decode cX4_init 21 = .ok (.aload_n 0, 1) := by decide +kernel
theorem dX4_init_22 : decode cX4_init 22 = .ok (.bipush 20, 2) := by decide +kernel
theorem dX4_init_24 : decode cX4_init 24 = .ok (.newarray .int, 2) := by decide +kernel
theorem dX4_init_26 : decode cX4_init 26 = .ok (.putfield 21, 3) := by decide +kernel
theorem dX4_init_29 : decode cX4_init 29 = .ok (.return_, 1) := by decide +kernel
theorem dX5_init_0 : decode cX5_init 0 = .ok (.aload_n 0, 1) := by decide +kernel
theorem dX5_init_1 : decode cX5_init 1 = .ok (.invokespecial 3, 3) := by decide +kernel
theorem dX5_init_4 : decode cX5_init 4 = .ok (.aload_n 0, 1) := by decide +kernel
theorem dX5_init_5 : decode cX5_init 5 = .ok (.bipush 10, 2) := by decide +kernel
theorem dX5_init_7 : decode cX5_init 7 = .ok (.newarray .int, 2) := by decide +kernel
theorem dX5_init_9 : decode cX5_init 9 = .ok (.putfield 9, 3) := by decide +kernel
theorem dX5_init_12 : decode cX5_init 12 = .ok (.aload_n 0, 1) := by decide +kernel
theorem dX5_init_13 : decode cX5_init 13 = .ok (.bipush 10, 2) := by decide +kernel
theorem dX5_init_15 : decode cX5_init 15 = .ok (.newarray .int, 2) := by decide +kernel
theorem dX5_init_17 : decode cX5_init 17 = .ok (.putfield 15, 3) := by decide +kernel
theorem dX5_init_20 : decode cX5_init 20 = .ok (.aload_n 0, 1) := by decide +kernel
theorem dX5_init_21 : decode cX5_init 21 = .ok (.bipush 10, 2) := by decide +kernel
theorem dX5_init_23 : decode cX5_init 23 = .ok (.newarray .int, 2) := by decide +kernel
theorem dX5_init_25 : decode cX5_init 25 = .ok (.putfield 18, 3) := by decide +kernel
theorem dX5_init_28 : decode cX5_init 28 = .ok (.aload_n 0, 1) := by decide +kernel
theorem dX5_init_29 : decode cX5_init 29 = .ok (.bipush 10, 2) := by decide +kernel
theorem dX5_init_31 : decode cX5_init 31 = .ok (.newarray .int, 2) := by decide +kernel
theorem dX5_init_33 : decode cX5_init 33 = .ok (.putfield 21, 3) := by decide +kernel
theorem dX5_init_36 : decode cX5_init 36 = .ok (.aload_n 0, 1) := by decide +kernel
theorem dX5_init_37 : decode cX5_init 37 = .ok (.bipush 10, 2) := by decide +kernel
theorem dX5_init_39 : decode cX5_init 39 = .ok (.newarray .int, 2) := by decide +kernel
theorem dX5_init_41 : decode cX5_init 41 = .ok (.putfield 24, 3) := by decide +kernel
theorem dX5_init_44 : decode cX5_init 44 = .ok (.aload_n 0, 1) := by decide +kernel
theorem dX5_init_45 : decode cX5_init 45 = .ok (.iconst 4, 1) := by decide +kernel
theorem dX5_init_46 : decode cX5_init 46 = .ok (.newarray .int, 2) := by decide +kernel
theorem dX5_init_48 : decode cX5_init 48 = .ok (.putfield 27, 3) := by decide +kernel
theorem dX5_init_51 : decode cX5_init 51 = .ok (.aload_n 0, 1) := by decide +kernel
theorem dX5_init_52 : decode cX5_init 52 = .ok (.iconst 4, 1) := by decide +kernel
theorem dX5_init_53 : decode cX5_init 53 = .ok (.newarray .int, 2) := by decide +kernel
theorem dX5_init_55 : decode cX5_init 55 = .ok (.putfield 30, 3) := by decide +kernel
theorem dX5_init_58 : decode cX5_init 58 = .ok (.aload_n 0, 1) := by decide +kernel
theorem dX5_init_59 : decode cX5_init 59 = .ok (.iconst 4, 1) := by decide +kernel
theorem dX5_init_60 : decode cX5_init 60 = .ok (.newarray .int, 2) := by decide +kernel
theorem dX5_init_62 : decode cX5_init 62 = .ok (.putfield 33, 3) := by decide +kernel
theorem dX5_init_65 : decode cX5_init 65 = .ok (.return_, 1) := by decide +kernel
theorem dX5_begin_0 : decode cX5_begin 0 = .ok (.aload_n 0, 1) := by decide +kernel
theorem dX5_begin_1 : decode cX5_begin 1 = .ok (.iload_n 1, 1) := by decide +kernel
theorem dX5_begin_2 : decode cX5_begin 2 = .ok (.putfield 36, 3) := by decide +kernel
theorem dX5_begin_5 : decode cX5_begin 5 = .ok (.aload_n 0, 1) := by decide +kernel
theorem dX5_begin_6 : decode cX5_begin 6 = .ok (.iload_n 2, 1) := by decide +kernel
theorem dX5_begin_7 : decode cX5_begin 7 = .ok (.putfield 40, 3) := by decide +kernel
theorem dX5_begin_10 : decode cX5_begin 10 = .ok (.aload_n 0, 1) := by decide +kernel
theorem dX5_begin_11 : decode cX5_begin 11 = .ok (.iload_n 3, 1) := by decide +kernel
theorem dX5_begin_12 : decode cX5_begin 12 = .ok (.putfield 43, 3) := by decide +kernel
theorem dX5_begin_15 : decode cX5_begin 15 = .ok (.aload_n 0, 1) := by decide +kernel
theorem dX5_begin_16 : decode cX5_begin 16 = .ok (.iload 4, 2) := by decide +kernel
theorem dX5_begin_18 : decode cX5_begin 18 = .ok (.putfield 46, 3) := by decide +kernel
theorem dX5_begin_21 : decode cX5_begin 21 = .ok (.aload_n 0, 1) := by decide +kernel
theorem dX5_begin_22 : decode cX5_begin 22 = .ok (.iconst 0, 1) := by decide +kernel
theorem dX5_begin_23 : decode cX5_begin 23 = .ok (.putfield 49, 3) := by decide +kernel
theorem dX5_begin_26 : decode cX5_begin 26 = .ok (.aload_n 0, 1) := by decide +kernel
theorem dX5_begin_27 : decode cX5_begin 27 = .ok (.iconst 0, 1) := by decide +kernel
theorem dX5_begin_28 : decode cX5_begin 28 = .ok (.putfield 52, 3) := by decide +kernel
theorem dX5_begin_31 : decode cX5_begin 31 = .ok (.return_, 1) := by decide +kernel
theorem dX5_addPerson_0 : decode cX5_addPerson 0 = .ok (.aload_n 0, 1) := by decide +kernel
theorem dX5_addPerson_1 : decode cX5_addPerson 1 = .ok (.getfield 9, 3) := by decide +kernel
theorem dX5_addPerson_4 : decode cX5_addPerson 4 = .ok (.aload_n 0, 1) := by decide +kernel
theorem dX5_addPerson_5 : decode cX5_addPerson 5 = .ok (.getfield 49, 3) := by decide +kernel
theorem dX5_addPerson_8 : decode cX5_addPerson 8 = .ok (.iload_n 1, 1) := by decide +kernel
theorem dX5_addPerson_9 : decode cX5_addPerson 9 = .ok (.invokestatic 55, 3) := by decide +kernel
theorem dX5_addPerson_12 : decode cX5_addPerson 12 = .ok (.aload_n 0, 1) := by decide +kernel
theorem dX5_addPerson_13 : decode cX5_addPerson 13 = .ok (.getfield 15, 3) := by decide +kernel
theorem dX5_addPerson_16 : decode cX5_addPerson 16 = .ok (.aload_n 0, 1) := by decide +kernel
theorem dX5_addPerson_17 : decode cX5_addPerson 17 = .ok (.getfield 49, 3) := by decide +kernel
theorem dX5_addPerson_20 : decode cX5_addPerson 20 = .ok (.iload_n 2, 1) := by decide +kernel
theorem dX5_addPerson_21 : decode cX5_addPerson 21 = .ok (.invokestatic 55, 3) := by decide +kernel
theorem dX5_addPerson_24 : decode cX5_addPerson 24 = .ok (.aload_n 0, 1) := by decide +kernel
theorem dX5_addPerson_25 : decode cX5_addPerson 25 = .ok (.getfield 18, 3) := by decide +kernel
theorem dX5_addPerson_28 : decode cX5_addPerson 28 = .ok (.aload_n 0, 1) := by decide +kernel
theorem dX5_addPerson_29 : decode cX5_addPerson 29 = .ok (.getfield 49, 3) := by decide +kernel
theorem dX5_addPerson_32 : decode cX5_addPerson 32 = .ok (.iload_n 3, 1) := by decide +kernel
theorem dX5_addPerson_33 : decode cX5_addPerson 33 = .ok (.invokestatic 55, 3) := by decide +kernel
theorem dX5_addPerson_36 : decode cX5_addPerson 36 = .ok (.aload_n 0, 1) := by decide +kernel
theorem dX5_addPerson_37 : decode cX5_addPerson 37 = .ok (.getfield 21, 3) := by decide +kernel
theorem dX5_addPerson_40 : decode cX5_addPerson 40 = .ok (.aload_n 0, 1) := by decide +kernel
theorem dX5_addPerson_41 : decode cX5_addPerson 41 = .ok (.getfield 49, 3) := by decide +kernel
theorem dX5_addPerson_44 : decode cX5_addPerson 44 = .ok (.iload 4, 2) := by decide +kernel
theorem dX5_addPerson_46 : decode cX5_addPerson 46 = .ok (.invokestatic 55, 3) := by decide +kernel
theorem dX5_addPerson_49 : decode cX5_addPerson 49 = .ok (.aload_n 0, 1) := by decide +kernel
theorem dX5_addPerson_50 : decode cX5_addPerson 50 = .ok (.getfield 24, 3) := by decide +kernel
theorem dX5_addPerson_53 : decode cX5_addPerson 53 = .ok (.aload_n 0, 1) := by decide +kernel
theorem dX5_addPerson_54 : decode cX5_addPerson 54 = .ok (.getfield 49, 3) := by decide +kernel
theorem dX5_addPerson_57 : decode cX5_addPerson 57 = .ok (.iload 5, 2) := by decide +kernel
theorem dX5_addPerson_59 : decode cX5_addPerson 59 = .ok (.invokestatic 55, 3) := by decide +kernel
theorem dX5_addPerson_62 : decode cX5_addPerson 62 = .ok (.aload_n 0, 1) := by decide +kernel
theorem dX5_addPerson_63 : decode cX5_addPerson 63 = .ok (.dup, 1) := by decide +kernel
theorem dX5_addPerson_64 : decode cX5_addPerson 64 = .ok (.getfield 49, 3) := by decide +kernel
theorem dX5_addPerson_67 : decode cX5_addPerson 67 = .ok (.iconst 1, 1) := by decide +kernel
theorem dX5_addPerson_68 : decode cX5_addPerson 68 = .ok (.iadd, 1) := by decide +kernel
theorem dX5_addPerson_69 : decode cX5_addPerson 69 = .ok (.putfield 49, 3) := by decide +kernel
theorem dX5_addPerson_72 : decode cX5_addPerson 72 = .ok (.return_, 1) := by decide +kernel
theorem dX5_addBridge_0 : decode cX5_addBridge 0 = .ok (.aload_n 0, 1) := by decide +kernel
theorem dX5_addBridge_1 : decode cX5_addBridge 1 = .ok (.getfield 27, 3) := by decide +kernel
theorem dX5_addBridge_4 : decode cX5_addBridge 4 = .ok (.aload_n 0, 1) := by decide +kernel
theorem dX5_addBridge_5 : decode cX5_addBridge 5 = .ok (.getfield 52, 3) := by decide +kernel
theorem dX5_addBridge_8 : decode cX5_addBridge 8 = .ok (.iload_n 1, 1) := by decide +kernel
theorem dX5_addBridge_9 : decode cX5_addBridge 9 = .ok (.invokestatic 55, 3) := by decide +kernel
theorem dX5_addBridge_12 : decode cX5_addBridge 12 = .ok (.aload_n 0, 1) := by decide +kernel
theorem dX5_addBridge_13 : decode cX5_addBridge 13 = .ok (.getfield 30, 3) := by decide +kernel
theorem dX5_addBridge_16 : decode cX5_addBridge 16 = .ok (.aload_n 0, 1) := by decide +kernel
theorem dX5_addBridge_17 : decode cX5_addBridge 17 = .ok (.getfield 52, 3) := by decide +kernel
theorem dX5_addBridge_20 : decode cX5_addBridge 20 = .ok (.iload_n 2, 1) := by decide +kernel
theorem dX5_addBridge_21 : decode cX5_addBridge 21 = .ok (.invokestatic 55, 3) := by decide +kernel
theorem dX5_addBridge_24 : decode cX5_addBridge 24 = .ok (.aload_n 0, 1) := by decide +kernel
theorem dX5_addBridge_25 : decode cX5_addBridge 25 = .ok (.getfield 33, 3) := by decide +kernel
theorem dX5_addBridge_28 : decode cX5_addBridge 28 = .ok (.aload_n 0, 1) := by decide +kernel
theorem dX5_addBridge_29 : decode cX5_addBridge 29 = .ok (.getfield 52, 3) := by decide +kernel
theorem dX5_addBridge_32 : decode cX5_addBridge 32 = .ok (.iload_n 3, 1) := by decide +kernel
theorem dX5_addBridge_33 : decode cX5_addBridge 33 = .ok (.invokestatic 55, 3) := by decide +kernel
theorem dX5_addBridge_36 : decode cX5_addBridge 36 = .ok (.aload_n 0, 1) := by decide +kernel
theorem dX5_addBridge_37 : decode cX5_addBridge 37 = .ok (.dup, 1) := by decide +kernel
theorem dX5_addBridge_38 : decode cX5_addBridge 38 = .ok (.getfield 52, 3) := by decide +kernel
theorem dX5_addBridge_41 : decode cX5_addBridge 41 = .ok (.iconst 1, 1) := by decide +kernel
theorem dX5_addBridge_42 : decode cX5_addBridge 42 = .ok (.iadd, 1) := by decide +kernel
theorem dX5_addBridge_43 : decode cX5_addBridge 43 = .ok (.putfield 52, 3) := by decide +kernel
theorem dX5_addBridge_46 : decode cX5_addBridge 46 = .ok (.return_, 1) := by decide +kernel
theorem dX5_copyFrom_0 : decode cX5_copyFrom 0 = .ok (.aload_n 0, 1) := by decide +kernel
theorem dX5_copyFrom_1 : decode cX5_copyFrom 1 = .ok (.aload_n 1, 1) := by decide +kernel
theorem dX5_copyFrom_2 : decode cX5_copyFrom 2 = .ok (.getfield 36, 3) := by decide +kernel
theorem dX5_copyFrom_5 : decode cX5_copyFrom 5 = .ok (.putfield 36, 3) := by decide +kernel
theorem dX5_copyFrom_8 : decode cX5_copyFrom 8 = .ok (.aload_n 0, 1) := by decide +kernel
theorem dX5_copyFrom_9 : decode cX5_copyFrom 9 = .ok (.aload_n 1, 1) := by decide +kernel
theorem dX5_copyFrom_10 : decode cX5_copyFrom 10 = .ok (.getfield 40, 3) := by decide +kernel
theorem dX5_copyFrom_13 : decode cX5_copyFrom 13 = .ok (.putfield 40, 3) := by decide +kernel
theorem dX5_copyFrom_16 : decode cX5_copyFrom 16 = .ok (.aload_n 0, 1) := by decide +kernel
theorem dX5_copyFrom_17 : decode cX5_copyFrom 17 = .ok (.aload_n 1, 1) := by decide +kernel
theorem dX5_copyFrom_18 : decode cX5_copyFrom 18 = .ok (.getfield 43, 3) := by decide +kernel
theorem dX5_copyFrom_21 : decode cX5_copyFrom 21 = .ok (.putfield 43, 3) := by decide +kernel
theorem dX5_copyFrom_24 : decode cX5_copyFrom 24 = .ok (.aload_n 0, 1) := by decide +kernel
theorem dX5_copyFrom_25 : decode cX5_copyFrom 25 = .ok (.aload_n 1, 1) := by decide +kernel
theorem dX5_copyFrom_26 : decode cX5_copyFrom 26 = .ok (.getfield 46, 3) := by decide +kernel
theorem dX5_copyFrom_29 : decode cX5_copyFrom 29 = .ok (.putfield 46, 3) := by decide +kernel
theorem dX5_copyFrom_32 : decode cX5_copyFrom 32 = .ok (.aload_n 0, 1) := by decide +kernel
theorem dX5_copyFrom_33 : decode cX5_copyFrom 33 = .ok (.aload_n 1, 1) := by decide +kernel
theorem dX5_copyFrom_34 : decode cX5_copyFrom 34 = .ok (.getfield 49, 3) := by decide +kernel
theorem dX5_copyFrom_37 : decode cX5_copyFrom 37 = .ok (.putfield 49, 3) := by decide +kernel
theorem dX5_copyFrom_40 : decode cX5_copyFrom 40 = .ok (.aload_n 0, 1) := by decide +kernel
theorem dX5_copyFrom_41 : decode cX5_copyFrom 41 = .ok (.aload_n 1, 1) := by decide +kernel
theorem dX5_copyFrom_42 : decode cX5_copyFrom 42 = .ok (.getfield 52, 3) := by decide +kernel
theorem dX5_copyFrom_45 : decode cX5_copyFrom 45 = .ok (.putfield 52, 3) := by decide +kernel
theorem dX5_copyFrom_48 : decode cX5_copyFrom 48 = .ok (.aload_n 1, 1) := by decide +kernel
theorem dX5_copyFrom_49 : decode cX5_copyFrom 49 = .ok (.getfield 9, 3) := by decide +kernel
theorem dX5_copyFrom_52 : decode cX5_copyFrom 52 = .ok (.aload_n 0, 1) := by decide +kernel
theorem dX5_copyFrom_53 : decode cX5_copyFrom 53 = .ok (.getfield 9, 3) := by decide +kernel
theorem dX5_copyFrom_56 : decode cX5_copyFrom 56 = .ok (.invokestatic 59, 3) := by decide +kernel
theorem dX5_copyFrom_59 : decode cX5_copyFrom 59 = .ok (.aload_n 1, 1) := by decide +kernel
theorem dX5_copyFrom_60 : decode cX5_copyFrom 60 = .ok (.getfield 15, 3) := by decide +kernel
theorem dX5_copyFrom_63 : decode cX5_copyFrom 63 = .ok (.aload_n 0, 1) := by decide +kernel
theorem dX5_copyFrom_64 : decode cX5_copyFrom 64 = .ok (.getfield 15, 3) := by decide +kernel
theorem dX5_copyFrom_67 : decode cX5_copyFrom 67 = .ok (.invokestatic 59, 3) := by decide +kernel
theorem dX5_copyFrom_70 : decode cX5_copyFrom 70 = .ok (.aload_n 1, 1) := by decide +kernel
theorem dX5_copyFrom_71 : decode cX5_copyFrom 71 = .ok (.getfield 18, 3) := by decide +kernel
theorem dX5_copyFrom_74 : decode cX5_copyFrom 74 = .ok (.aload_n 0, 1) := by decide +kernel
theorem dX5_copyFrom_75 : decode cX5_copyFrom 75 = .ok (.getfield 18, 3) := by decide +kernel
theorem dX5_copyFrom_78 : decode cX5_copyFrom 78 = .ok (.invokestatic 59, 3) := by decide +kernel
theorem dX5_copyFrom_81 : decode cX5_copyFrom 81 = .ok (.aload_n 1, 1) := by decide +kernel
theorem dX5_copyFrom_82 : decode cX5_copyFrom 82 = .ok (.getfield 21, 3) := by decide +kernel
theorem dX5_copyFrom_85 : decode cX5_copyFrom 85 = .ok (.aload_n 0, 1) := by decide +kernel
theorem dX5_copyFrom_86 : decode cX5_copyFrom 86 = .ok (.getfield 21, 3) := by decide +kernel
theorem dX5_copyFrom_89 : decode cX5_copyFrom 89 = .ok (.invokestatic 59, 3) := by decide +kernel
theorem dX5_copyFrom_92 : decode cX5_copyFrom 92 = .ok (.aload_n 1, 1) := by decide +kernel
theorem dX5_copyFrom_93 : decode cX5_copyFrom 93 = .ok (.getfield 24, 3) := by decide +kernel
theorem dX5_copyFrom_96 : decode cX5_copyFrom 96 = .ok (.aload_n 0, 1) := by decide +kernel
theorem dX5_copyFrom_97 : decode cX5_copyFrom 97 = .ok (.getfield 24, 3) := by decide +kernel
theorem dX5_copyFrom_100 : decode cX5_copyFrom 100 = .ok (.invokestatic 59, 3) := by decide +kernel
theorem dX5_copyFrom_103 : decode cX5_copyFrom 103 = .ok (.aload_n 1, 1) := by decide +kernel
theorem dX5_copyFrom_104 : decode cX5_copyFrom 104 = .ok (.getfield 27, 3) := by decide +kernel
theorem dX5_copyFrom_107 : decode cX5_copyFrom 107 = .ok (.aload_n 0, 1) := by decide +kernel
theorem dX5_copyFrom_108 : decode cX5_copyFrom 108 = .ok (.getfield 27, 3) := by decide +kernel
theorem dX5_copyFrom_111 : decode cX5_copyFrom 111 = .ok (.invokestatic 59, 3) := by decide +kernel
theorem dX5_copyFrom_114 : decode cX5_copyFrom 114 = .ok (.aload_n 1, 1) := by decide +kernel
theorem dX5_copyFrom_115 : decode cX5_copyFrom 115 = .ok (.getfield 30, 3) := by decide +kernel
theorem dX5_copyFrom_118 : decode cX5_copyFrom 118 = .ok (.aload_n 0, 1) := by decide +kernel
theorem dX5_copyFrom_119 : decode cX5_copyFrom 119 = .ok (.getfield 30, 3) := by decide +kernel
theorem dX5_copyFrom_122 : decode cX5_copyFrom 122 = .ok (.invokestatic 59, 3) := by decide +kernel
theorem dX5_copyFrom_125 : decode cX5_copyFrom 125 = .ok (.aload_n 1, 1) := by decide +kernel
theorem dX5_copyFrom_126 : decode cX5_copyFrom 126 = .ok (.getfield 33, 3) := by decide +kernel
theorem dX5_copyFrom_129 : decode cX5_copyFrom 129 = .ok (.aload_n 0, 1) := by decide +kernel
theorem dX5_copyFrom_130 : decode cX5_copyFrom 130 = .ok (.getfield 33, 3) := by decide +kernel
theorem dX5_copyFrom_133 : decode cX5_copyFrom 133 = .ok (.invokestatic 59, 3) := by decide +kernel
theorem dX5_copyFrom_136 : decode cX5_copyFrom 136 = .ok (.return_, 1) := by decide +kernel
theorem dX5_hasPerson_0 : decode cX5_hasPerson 0 = .ok (.iload_n 1, 1) := by decide +kernel
theorem dX5_hasPerson_1 : decode cX5_hasPerson 1 = .ok (.ifCond .lt 15, 3) := by decide +kernel
theorem dX5_hasPerson_4 : decode cX5_hasPerson 4 = .ok (.iload_n 1, 1) := by decide +kernel
theorem dX5_hasPerson_5 : decode cX5_hasPerson 5 = .ok (.aload_n 0, 1) := by decide +kernel
theorem dX5_hasPerson_6 : decode cX5_hasPerson 6 = .ok (.getfield 49, 3) := by decide +kernel
theorem dX5_hasPerson_9 : decode cX5_hasPerson 9 = .ok (.if_icmp .ge 7, 3) := by decide +kernel
theorem dX5_hasPerson_12 : decode cX5_hasPerson 12 = .ok (.iconst 1, 1) := by decide +kernel
theorem dX5_hasPerson_13 : decode cX5_hasPerson 13 = .ok (.goto 4, 3) := by decide +kernel
theorem dX5_hasPerson_16 : decode cX5_hasPerson 16 = .ok (.iconst 0, 1) := by decide +kernel
theorem dX5_hasPerson_17 : decode cX5_hasPerson 17 = .ok (.ireturn, 1) := by decide +kernel
theorem dX5_hasKing_0 : decode cX5_hasKing 0 = .ok (.aload_n 0, 1) := by decide +kernel
theorem dX5_hasKing_1 : decode cX5_hasKing 1 = .ok (.iload_n 1, 1) := by decide +kernel
theorem dX5_hasKing_2 : decode cX5_hasKing 2 = .ok (.invokevirtual 63, 3) := by decide +kernel
theorem dX5_hasKing_5 : decode cX5_hasKing 5 = .ok (.ifCond .eq 19, 3) := by decide +kernel
theorem dX5_hasKing_8 : decode cX5_hasKing 8 = .ok (.aload_n 0, 1) := by decide +kernel
theorem dX5_hasKing_9 : decode cX5_hasKing 9 = .ok (.getfield 9, 3) := by decide +kernel
theorem dX5_hasKing_12 : decode cX5_hasKing 12 = .ok (.iload_n 1, 1) := by decide +kernel
theorem dX5_hasKing_13 : decode cX5_hasKing 13 = .ok (.invokestatic 67, 3) := by decide +kernel
theorem dX5_hasKing_16 : decode cX5_hasKing 16 = .ok (.iconst 1, 1) := by decide +kernel
theorem dX5_hasKing_17 : decode cX5_hasKing 17 = .ok (.if_icmp .ne 7, 3) := by decide +kernel
theorem dX5_hasKing_20 : decode cX5_hasKing 20 = .ok (.iconst 1, 1) := by decide +kernel
theorem dX5_hasKing_21 : decode cX5_hasKing 21 = .ok (.goto 4, 3) := by decide +kernel
theorem dX5_hasKing_24 : decode cX5_hasKing 24 = .ok (.iconst 0, 1) := by decide +kernel
theorem dX5_hasKing_25 : decode cX5_hasKing 25 = .ok (.ireturn, 1) := by decide +kernel
theorem dX5_kingsInAll_0 : decode cX5_kingsInAll 0 = .ok (.iconst 0, 1) := by decide +kernel
theorem dX5_kingsInAll_1 : decode cX5_kingsInAll 1 = .ok (.istore_n 1, 1) := by decide +kernel
theorem dX5_kingsInAll_2 : decode cX5_kingsInAll 2 = .ok (.iconst 0, 1) := by decide +kernel
theorem dX5_kingsInAll_3 : decode cX5_kingsInAll 3 = .ok (.istore_n 2, 1) := by decide +kernel
theorem dX5_kingsInAll_4 : decode cX5_kingsInAll 4 = .ok (.iload_n 2, 1) := by decide +kernel
theorem dX5_kingsInAll_5 : decode cX5_kingsInAll 5 = .ok (.aload_n 0, 1) := by decide +kernel
theorem dX5_kingsInAll_6 : decode cX5_kingsInAll 6 = .ok (.getfield 49, 3) := by decide +kernel
theorem dX5_kingsInAll_9 : decode cX5_kingsInAll 9 = .ok (.if_icmp .ge 20, 3) := by decide +kernel
theorem dX5_kingsInAll_12 : decode cX5_kingsInAll 12 = .ok (.iload_n 1, 1) := by decide +kernel
theorem dX5_kingsInAll_13 : decode cX5_kingsInAll 13 = .ok (.aload_n 0, 1) := by decide +kernel
theorem dX5_kingsInAll_14 : decode cX5_kingsInAll 14 = .ok (.getfield 9, 3) := by decide +kernel
theorem dX5_kingsInAll_17 : decode cX5_kingsInAll 17 = .ok (.iload_n 2, 1) := by decide +kernel
theorem dX5_kingsInAll_18 : decode cX5_kingsInAll 18 = .ok (.invokestatic 67, 3) := by decide +kernel
theorem dX5_kingsInAll_21 : decode cX5_kingsInAll 21 = .ok (.iadd, 1) := by decide +kernel
theorem dX5_kingsInAll_22 : decode cX5_kingsInAll 22 = .ok (.istore_n 1, 1) := by decide +kernel
theorem dX5_kingsInAll_23 : decode cX5_kingsInAll 23 = .ok (.iinc 2 1, 3) := by decide +kernel
theorem dX5_kingsInAll_26 : decode cX5_kingsInAll 26 = .ok (.goto (-22), 3) := by decide +kernel
theorem dX5_kingsInAll_29 : decode cX5_kingsInAll 29 = .ok (.iload_n 1, 1) := by decide +kernel
theorem dX5_kingsInAll_30 : decode cX5_kingsInAll 30 = .ok (.ireturn, 1) := by decide +kernel
theorem dX5_coinsInAll_0 : decode cX5_coinsInAll 0 = .ok (.iconst 0, 1) := by decide +kernel
theorem dX5_coinsInAll_1 : decode cX5_coinsInAll 1 = .ok (.istore_n 1, 1) := by decide +kernel
theorem dX5_coinsInAll_2 : decode cX5_coinsInAll 2 = .ok (.iconst 0, 1) := by decide +kernel
theorem dX5_coinsInAll_3 : decode cX5_coinsInAll 3 = .ok (.istore_n 2, 1) := by decide +kernel
theorem dX5_coinsInAll_4 : decode cX5_coinsInAll 4 = .ok (.iload_n 2, 1) := by decide +kernel
theorem dX5_coinsInAll_5 : decode cX5_coinsInAll 5 = .ok (.aload_n 0, 1) := by decide +kernel
theorem dX5_coinsInAll_6 : decode cX5_coinsInAll 6 = .ok (.getfield 49, 3) := by decide +kernel
theorem dX5_coinsInAll_9 : decode cX5_coinsInAll 9 = .ok (.if_icmp .ge 20, 3) := by decide +kernel
theorem dX5_coinsInAll_12 : decode cX5_coinsInAll 12 = .ok (.iload_n 1, 1) := by decide +kernel
theorem dX5_coinsInAll_13 : decode cX5_coinsInAll 13 = .ok (.aload_n 0, 1) := by decide +kernel
theorem dX5_coinsInAll_14 : decode cX5_coinsInAll 14 = .ok (.getfield 18, 3) := by decide +kernel
theorem dX5_coinsInAll_17 : decode cX5_coinsInAll 17 = .ok (.iload_n 2, 1) := by decide +kernel
theorem dX5_coinsInAll_18 : decode cX5_coinsInAll 18 = .ok (.invokestatic 67, 3) := by decide +kernel
theorem dX5_coinsInAll_21 : decode cX5_coinsInAll 21 = .ok (.iadd, 1) := by decide +kernel
theorem dX5_coinsInAll_22 : decode cX5_coinsInAll 22 = .ok (.istore_n 1, 1) := by decide +kernel
theorem dX5_coinsInAll_23 : decode cX5_coinsInAll 23 = .ok (.iinc 2 1, 3) := by decide +kernel
theorem dX5_coinsInAll_26 : decode cX5_coinsInAll 26 = .ok (.goto (-22), 3) := by decide +kernel
theorem dX5_coinsInAll_29 : decode cX5_coinsInAll 29 = .ok (.iload_n 1, 1) := by decide +kernel
theorem dX5_coinsInAll_30 : decode cX5_coinsInAll 30 = .ok (.ireturn, 1) := by decide +kernel
theorem dX5_tollFor_0 : decode cX5_tollFor 0 = .ok (.iload_n 1, 1) := by decide +kernel
theorem dX5_tollFor_1 : decode cX5_tollFor 1 = .ok (.ifCond .eq 10, 3) := by decide +kernel
theorem dX5_tollFor_4 : decode cX5_tollFor 4 = .ok (.aload_n 0, 1) := by decide +kernel
theorem dX5_tollFor_5 : decode cX5_tollFor 5 = .ok (.getfield 43, 3) := by decide +kernel
theorem dX5_tollFor_8 : decode cX5_tollFor 8 = .ok (.goto 7, 3) := by decide +kernel
theorem dX5_tollFor_11 : decode cX5_tollFor 11 = .ok (.aload_n 0, 1) := by decide +kernel
theorem dX5_tollFor_12 : decode cX5_tollFor 12 = .ok (.getfield 46, 3) := by decide +kernel
theorem dX5_tollFor_15 : decode cX5_tollFor 15 = .ok (.ireturn, 1) := by decide +kernel
theorem dX5_opens_0 : decode cX5_opens 0 = .ok (.aload_n 0, 1) := by decide +kernel
theorem dX5_opens_1 : decode cX5_opens 1 = .ok (.getfield 27, 3) := by decide +kernel
theorem dX5_opens_4 : decode cX5_opens 4 = .ok (.iload_n 1, 1) := by decide +kernel
theorem dX5_opens_5 : decode cX5_opens 5 = .ok (.invokestatic 67, 3) := by decide +kernel
theorem dX5_opens_8 : decode cX5_opens 8 = .ok (.istore_n 3, 1) := by decide +kernel
theorem dX5_opens_9 : decode cX5_opens 9 = .ok (.iload_n 3, 1) := by decide +kernel
theorem dX5_opens_10 : decode cX5_opens 10 = .ok (.ifCond .le 21, 3) := by decide +kernel
theorem dX5_opens_13 : decode cX5_opens 13 = .ok (.iload_n 2, 1) := by decide +kernel
theorem dX5_opens_14 : decode cX5_opens 14 = .ok (.iload_n 3, 1) := by decide +kernel
theorem dX5_opens_15 : decode cX5_opens 15 = .ok (.irem, 1) := by decide +kernel
theorem dX5_opens_16 : decode cX5_opens 16 = .ok (.aload_n 0, 1) := by decide +kernel
theorem dX5_opens_17 : decode cX5_opens 17 = .ok (.getfield 30, 3) := by decide +kernel
theorem dX5_opens_20 : decode cX5_opens 20 = .ok (.iload_n 1, 1) := by decide +kernel
theorem dX5_opens_21 : decode cX5_opens 21 = .ok (.invokestatic 67, 3) := by decide +kernel
theorem dX5_opens_24 : decode cX5_opens 24 = .ok (.if_icmp .ne 7, 3) := by decide +kernel
theorem dX5_opens_27 : decode cX5_opens 27 = .ok (.iconst 1, 1) := by decide +kernel
theorem dX5_opens_28 : decode cX5_opens 28 = .ok (.goto 4, 3) := by decide +kernel
theorem dX5_opens_31 : decode cX5_opens 31 = .ok (.iconst 0, 1) := by decide +kernel
theorem dX5_opens_32 : decode cX5_opens 32 = .ok (.ireturn, 1) := by decide +kernel
theorem dX6_init_0 : decode cX6_init 0 = .ok (.aload_n 0, 1) := by decide +kernel
theorem dX6_init_1 : decode cX6_init 1 = .ok (.invokespecial 3, 3) := by decide +kernel
theorem dX6_init_4 : decode cX6_init 4 = .ok (.aload_n 0, 1) := by decide +kernel
theorem dX6_init_5 : decode cX6_init 5 = .ok (.sipush 500, 3) := by decide +kernel
theorem dX6_init_8 : decode cX6_init 8 = .ok (.newarray .int, 2) := by decide +kernel
theorem dX6_init_10 : decode cX6_init 10 = .ok (.putfield 9, 3) := by decide +kernel
theorem dX6_init_13 : decode cX6_init 13 = .ok (.aload_n 0, 1) := by decide +kernel
theorem dX6_init_14 : decode cX6_init 14 = .ok (.iconst (-1), 1) := by decide +kernel
theorem dX6_init_15 : decode cX6_init 15 = .ok (.putfield 15, 3) := by decide +kernel
theorem dX6_init_18 : decode cX6_init 18 = .ok (.return_, 1) := by decide +kernel
theorem dX6_appendWord_0 : decode cX6_appendWord 0 = .ok (.bipush 24, 2) := by decide +kernel
theorem dX6_appendWord_2 : decode cX6_appendWord 2 = .ok (.istore_n 2, 1) := by decide +kernel
theorem dX6_appendWord_3 : decode cX6_appendWord 3 = .ok (.iload_n 2, 1) := by decide +kernel
theorem dX6_appendWord_4 : decode cX6_appendWord 4 = .ok (.ifCond .lt 37, 3) := by decide +kernel
theorem dX6_appendWord_7 : decode cX6_appendWord 7 = .ok (.aload_n 0, 1) := by decide +kernel
theorem dX6_appendWord_8 : decode cX6_appendWord 8 = .ok (.getfield 9, 3) := by decide +kernel
theorem dX6_appendWord_11 : decode cX6_appendWord 11 = .ok (.aload_n 0, 1) := by decide +kernel
theorem dX6_appendWord_12 : decode cX6_appendWord 12 = .ok (.getfield 19, 3) := by decide +kernel
theorem dX6_appendWord_15 : decode cX6_appendWord 15 = .ok (.iload_n 1, 1) := by decide +kernel
theorem dX6_appendWord_16 : decode cX6_appendWord 16 = .ok (.iload_n 2, 1) := by decide +kernel
theorem dX6_appendWord_17 : decode cX6_appendWord 17 = .ok (.iushr, 1) := by decide +kernel
theorem dX6_appendWord_18 : decode cX6_appendWord 18 = .ok (.sipush 255, 3) := by decide +kernel
theorem dX6_appendWord_21 : decode cX6_appendWord 21 = .ok (.iand, 1) := by decide +kernel
theorem dX6_appendWord_22 : decode cX6_appendWord 22 = .ok (.invokestatic 22, 3) := by decide +kernel
theorem dX6_appendWord_25 : decode cX6_appendWord 25 = .ok (.aload_n 0, 1) := by decide +kernel
theorem dX6_appendWord_26 : decode cX6_appendWord 26 = .ok (.dup, 1) := by decide +kernel
theorem dX6_appendWord_27 : decode cX6_appendWord 27 = .ok (.getfield 19, 3) := by decide +kernel
theorem dX6_appendWord_30 : decode cX6_appendWord 30 = .ok (.iconst 1, 1) := by decide +kernel
theorem dX6_appendWord_31 : decode cX6_appendWord 31 = .ok (.iadd, 1) := by decide +kernel
theorem dX6_appendWord_32 : decode cX6_appendWord 32 = .ok (.putfield 19, 3) := by decide +kernel
theorem dX6_appendWord_35 : decode cX6_appendWord 35 = .ok (.iinc 2 (-8), 3) := by decide +kernel
theorem dX6_appendWord_38 : decode cX6_appendWord 38 = .ok (.goto (-35), 3) := by decide +kernel
theorem dX6_appendWord_41 : decode cX6_appendWord 41 = .ok (.return_, 1) := by decide +kernel
theorem dX6_open_0 : decode cX6_open 0 = .ok (.aload_n 0, 1) := by decide +kernel
theorem dX6_open_1 : decode cX6_open 1 = .ok (.iconst 0, 1) := by decide +kernel
theorem dX6_open_2 : decode cX6_open 2 = .ok (.putfield 26, 3) := by decide +kernel
theorem dX6_open_5 : decode cX6_open 5 = .ok (.aload_n 0, 1) := by decide +kernel
theorem dX6_open_6 : decode cX6_open 6 = .ok (.iconst (-1), 1) := by decide +kernel
theorem dX6_open_7 : decode cX6_open 7 = .ok (.putfield 15, 3) := by decide +kernel
theorem dX6_open_10 : decode cX6_open 10 = .ok (.aload_n 0, 1) := by decide +kernel
theorem dX6_open_11 : decode cX6_open 11 = .ok (.iload_n 1, 1) := by decide +kernel
theorem dX6_open_12 : decode cX6_open 12 = .ok (.putfield 29, 3) := by decide +kernel
theorem dX6_open_15 : decode cX6_open 15 = .ok (.aload_n 0, 1) := by decide +kernel
theorem dX6_open_16 : decode cX6_open 16 = .ok (.iconst 0, 1) := by decide +kernel
theorem dX6_open_17 : decode cX6_open 17 = .ok (.putfield 32, 3) := by decide +kernel
theorem dX6_open_20 : decode cX6_open 20 = .ok (.aload_n 0, 1) := by decide +kernel
theorem dX6_open_21 : decode cX6_open 21 = .ok (.invokevirtual 35, 3) := by decide +kernel
theorem dX6_open_24 : decode cX6_open 24 = .ok (.return_, 1) := by decide +kernel
theorem dX6_hasFailed_0 : decode cX6_hasFailed 0 = .ok (.aload_n 0, 1) := by decide +kernel
theorem dX6_hasFailed_1 : decode cX6_hasFailed 1 = .ok (.getfield 26, 3) := by decide +kernel
theorem dX6_hasFailed_4 : decode cX6_hasFailed 4 = .ok (.ifCond .eq 7, 3) := by decide +kernel
theorem dX6_hasFailed_7 : decode cX6_hasFailed 7 = .ok (.iconst 1, 1) := by decide +kernel
theorem dX6_hasFailed_8 : decode cX6_hasFailed 8 = .ok (.goto 4, 3) := by decide +kernel
theorem dX6_hasFailed_11 : decode cX6_hasFailed 11 = .ok (.iconst 0, 1) := by decide +kernel
theorem dX6_hasFailed_12 : decode cX6_hasFailed 12 = .ok (.ireturn, 1) := by decide +kernel
theorem dX6_fail_0 : decode cX6_fail 0 = .ok (.aload_n 0, 1) := by decide +kernel
theorem dX6_fail_1 : decode cX6_fail 1 = .ok (.getfield 26, 3) := by decide +kernel
theorem dX6_fail_4 : decode cX6_fail 4 = .ok (.ifCond .ne 16, 3) := by decide +kernel
theorem dX6_fail_7 : decode cX6_fail 7 = .ok (.aload_n 0, 1) := by decide +kernel
theorem dX6_fail_8 : decode cX6_fail 8 = .ok (.iload_n 1, 1) := by decide +kernel
theorem dX6_fail_9 : decode cX6_fail 9 = .ok (.putfield 26, 3) := by decide +kernel
theorem dX6_fail_12 : decode cX6_fail 12 = .ok (.aload_n 0, 1) := by decide +kernel
theorem dX6_fail_13 : decode cX6_fail 13 = .ok (.aload_n 0, 1) := by decide +kernel
theorem dX6_fail_14 : decode cX6_fail 14 = .ok (.getfield 38, 3) := by decide +kernel
theorem dX6_fail_17 : decode cX6_fail 17 = .ok (.putfield 15, 3) := by decide +kernel
theorem dX6_fail_20 : decode cX6_fail 20 = .ok (.return_, 1) := by decide +kernel
theorem dX6_isAtEnd_0 : decode cX6_isAtEnd 0 = .ok (.aload_n 0, 1) := by decide +kernel
theorem dX6_isAtEnd_1 : decode cX6_isAtEnd 1 = .ok (.getfield 26, 3) := by decide +kernel
theorem dX6_isAtEnd_4 : decode cX6_isAtEnd 4 = .ok (.ifCond .ne 14, 3) := by decide +kernel
theorem dX6_isAtEnd_7 : decode cX6_isAtEnd 7 = .ok (.aload_n 0, 1) := by decide +kernel
theorem dX6_isAtEnd_8 : decode cX6_isAtEnd 8 = .ok (.getfield 41, 3) := by decide +kernel
theorem dX6_isAtEnd_11 : decode cX6_isAtEnd 11 = .ok (.ifCond .ne 7, 3) := by decide +kernel
theorem dX6_isAtEnd_14 : decode cX6_isAtEnd 14 = .ok (.iconst 1, 1) := by decide +kernel
theorem dX6_isAtEnd_15 : decode cX6_isAtEnd 15 = .ok (.goto 4, 3) := by decide +kernel
theorem dX6_isAtEnd_18 : decode cX6_isAtEnd 18 = .ok (.iconst 0, 1) := by decide +kernel
theorem dX6_isAtEnd_19 : decode cX6_isAtEnd 19 = .ok (.ireturn, 1) := by decide +kernel
theorem dX6_isAtWord_0 : decode cX6_isAtWord 0 = .ok (.aload_n 0, 1) := by decide +kernel
theorem dX6_isAtWord_1 : decode cX6_isAtWord 1 = .ok (.getfield 26, 3) := by decide +kernel
theorem dX6_isAtWord_4 : decode cX6_isAtWord 4 = .ok (.ifCond .ne 27, 3) := by decide +kernel
theorem dX6_isAtWord_7 : decode cX6_isAtWord 7 = .ok (.aload_n 0, 1) := by decide +kernel
theorem dX6_isAtWord_8 : decode cX6_isAtWord 8 = .ok (.getfield 41, 3) := by decide +kernel
theorem dX6_isAtWord_11 : decode cX6_isAtWord 11 = .ok (.iconst 1, 1) := by decide +kernel
theorem dX6_isAtWord_12 : decode cX6_isAtWord 12 = .ok (.if_icmp .ne 19, 3) := by decide +kernel
theorem dX6_isAtWord_15 : decode cX6_isAtWord 15 = .ok (.aload_n 0, 1) := by decide +kernel
theorem dX6_isAtWord_16 : decode cX6_isAtWord 16 = .ok (.getfield 32, 3) := by decide +kernel
theorem dX6_isAtWord_19 : decode cX6_isAtWord 19 = .ok (.aload_n 0, 1) := by decide +kernel
theorem dX6_isAtWord_20 : decode cX6_isAtWord 20 = .ok (.getfield 38, 3) := by decide +kernel
theorem dX6_isAtWord_23 : decode cX6_isAtWord 23 = .ok (.isub, 1) := by decide +kernel
theorem dX6_isAtWord_24 : decode cX6_isAtWord 24 = .ok (.aload_n 1, 1) := by decide +kernel
theorem dX6_isAtWord_25 : decode cX6_isAtWord 25 = .ok (.invokevirtual 44, 3) := by decide +kernel
theorem dX6_isAtWord_28 : decode cX6_isAtWord 28 = .ok (.if_icmp .eq 5, 3) := by decide +kernel
theorem dX6_isAtWord_31 : decode cX6_isAtWord 31 = .ok (.iconst 0, 1) := by decide +kernel
theorem dX6_isAtWord_32 : decode cX6_isAtWord 32 = .ok (.ireturn, 1) := by decide +kernel
theorem dX6_isAtWord_33 : decode cX6_isAtWord 33 = .ok (.iconst 0, 1) := by decide +kernel
theorem dX6_isAtWord_34 : decode cX6_isAtWord 34 = .ok (.istore_n 2, 1) := by decide +kernel
theorem dX6_isAtWord_35 : decode cX6_isAtWord 35 = .ok (.iload_n 2, 1) := by decide +kernel
theorem dX6_isAtWord_36 : decode cX6_isAtWord 36 = .ok (.aload_n 1, 1) := by decide +kernel
theorem dX6_isAtWord_37 : decode cX6_isAtWord 37 = .ok (.invokevirtual 44, 3) := by decide +kernel
theorem dX6_isAtWord_40 : decode cX6_isAtWord 40 = .ok (.if_icmp .ge 32, 3) := by decide +kernel
theorem dX6_isAtWord_43 : decode cX6_isAtWord 43 = .ok (.aload_n 0, 1) := by decide +kernel
theorem dX6_isAtWord_44 : decode cX6_isAtWord 44 = .ok (.getfield 9, 3) := by decide +kernel
theorem dX6_isAtWord_47 : decode cX6_isAtWord 47 = .ok (.aload_n 0, 1) := by decide +kernel
theorem dX6_isAtWord_48 : decode cX6_isAtWord 48 = .ok (.getfield 38, 3) := by decide +kernel
theorem dX6_isAtWord_51 : decode cX6_isAtWord 51 = .ok (.iload_n 2, 1) := by decide +kernel
theorem dX6_isAtWord_52 : decode cX6_isAtWord 52 = .ok (.iadd, 1) := by decide +kernel
theorem dX6_isAtWord_53 : decode cX6_isAtWord 53 = .ok (.invokestatic 50, 3) := by decide +kernel
theorem dX6_isAtWord_56 : decode cX6_isAtWord 56 = .ok (.aload_n 1, 1) := by decide +kernel
theorem dX6_isAtWord_57 : decode cX6_isAtWord 57 = .ok (.iload_n 2, 1) := by decide +kernel
theorem dX6_isAtWord_58 : decode cX6_isAtWord 58 = .ok (.invokevirtual 54, 3) := by decide +kernel
theorem dX6_isAtWord_61 : decode cX6_isAtWord 61 = .ok (.if_icmp .eq 5, 3) := by decide +kernel
theorem dX6_isAtWord_64 : decode cX6_isAtWord 64 = .ok (.iconst 0, 1) := by decide +kernel
theorem dX6_isAtWord_65 : decode cX6_isAtWord 65 = .ok (.ireturn, 1) := by decide +kernel
theorem dX6_isAtWord_66 : decode cX6_isAtWord 66 = .ok (.iinc 2 1, 3) := by decide +kernel
theorem dX6_isAtWord_69 : decode cX6_isAtWord 69 = .ok (.goto (-34), 3) := by decide +kernel
theorem dX6_isAtWord_72 : decode cX6_isAtWord 72 = .ok (.iconst 1, 1) := by decide +kernel
theorem dX6_isAtWord_73 : decode cX6_isAtWord 73 = .ok (.ireturn, 1) := by decide +kernel
theorem dX6_takeWord_0 : decode cX6_takeWord 0 = .ok (.aload_n 0, 1) := by decide +kernel
theorem dX6_takeWord_1 : decode cX6_takeWord 1 = .ok (.aload_n 1, 1) := by decide +kernel
theorem dX6_takeWord_2 : decode cX6_takeWord 2 = .ok (.invokevirtual 58, 3) := by decide +kernel
theorem dX6_takeWord_5 : decode cX6_takeWord 5 = .ok (.ifCond .eq 10, 3) := by decide +kernel
theorem dX6_takeWord_8 : decode cX6_takeWord 8 = .ok (.aload_n 0, 1) := by decide +kernel
theorem dX6_takeWord_9 : decode cX6_takeWord 9 = .ok (.invokevirtual 35, 3) := by decide +kernel
theorem dX6_takeWord_12 : decode cX6_takeWord 12 = .ok (.goto 8, 3) := by decide +kernel
theorem dX6_takeWord_15 : decode cX6_takeWord 15 = .ok (.aload_n 0, 1) := by decide +kernel
theorem dX6_takeWord_16 : decode cX6_takeWord 16 = .ok (.iconst 1, 1) := by decide +kernel
theorem dX6_takeWord_17 : decode cX6_takeWord 17 = .ok (.invokevirtual 62, 3) := by decide +kernel
theorem dX6_takeWord_20 : decode cX6_takeWord 20 = .ok (.return_, 1) := by decide +kernel
theorem dX6_takeEither_0 : decode cX6_takeEither 0 = .ok (.aload_n 0, 1) := by decide +kernel
theorem dX6_takeEither_1 : decode cX6_takeEither 1 = .ok (.aload_n 2, 1) := by decide +kernel
theorem dX6_takeEither_2 : decode cX6_takeEither 2 = .ok (.invokevirtual 58, 3) := by decide +kernel
theorem dX6_takeEither_5 : decode cX6_takeEither 5 = .ok (.istore_n 3, 1) := by decide +kernel
theorem dX6_takeEither_6 : decode cX6_takeEither 6 = .ok (.iload_n 3, 1) := by decide +kernel
theorem dX6_takeEither_7 : decode cX6_takeEither 7 = .ok (.ifCond .ne 11, 3) := by decide +kernel
theorem dX6_takeEither_10 : decode cX6_takeEither 10 = .ok (.aload_n 0, 1) := by decide +kernel
theorem dX6_takeEither_11 : decode cX6_takeEither 11 = .ok (.aload_n 1, 1) := by decide +kernel
theorem dX6_takeEither_12 : decode cX6_takeEither 12 = .ok (.invokevirtual 58, 3) := by decide +kernel
theorem dX6_takeEither_15 : decode cX6_takeEither 15 = .ok (.ifCond .eq 10, 3) := by decide +kernel
theorem dX6_takeEither_18 : decode cX6_takeEither 18 = .ok (.aload_n 0, 1) := by decide +kernel
theorem dX6_takeEither_19 : decode cX6_takeEither 19 = .ok (.invokevirtual 35, 3) := by decide +kernel
theorem dX6_takeEither_22 : decode cX6_takeEither 22 = .ok (.goto 8, 3) := by decide +kernel
theorem dX6_takeEither_25 : decode cX6_takeEither 25 = .ok (.aload_n 0, 1) := by decide +kernel
theorem dX6_takeEither_26 : decode cX6_takeEither 26 = .ok (.iconst 1, 1) := by decide +kernel
theorem dX6_takeEither_27 : decode cX6_takeEither 27 = .ok (.invokevirtual 62, 3) := by decide +kernel
theorem dX6_takeEither_30 : decode cX6_takeEither 30 = .ok (.iload_n 3, 1) := by decide +kernel
theorem dX6_takeEither_31 : decode cX6_takeEither 31 = .ok (.ifCond .eq 7, 3) := by decide +kernel
theorem dX6_takeEither_34 : decode cX6_takeEither 34 = .ok (.iconst 1, 1) := by decide +kernel
theorem dX6_takeEither_35 : decode cX6_takeEither 35 = .ok (.goto 4, 3) := by decide +kernel
theorem dX6_takeEither_38 : decode cX6_takeEither 38 = .ok (.iconst 0, 1) := by decide +kernel
theorem dX6_takeEither_39 : decode cX6_takeEither 39 = .ok (.ireturn, 1) := by decide +kernel
theorem dX6_takeSemicolon_0 : decode cX6_takeSemicolon 0 = .ok (.aload_n 0, 1) := by decide +kernel
theorem dX6_takeSemicolon_1 : decode cX6_takeSemicolon 1 = .ok (.getfield 41, 3) := by decide +kernel
theorem dX6_takeSemicolon_4 : decode cX6_takeSemicolon 4 = .ok (.iconst 3, 1) := by decide +kernel
theorem dX6_takeSemicolon_5 : decode cX6_takeSemicolon 5 = .ok (.if_icmp .ne 10, 3) := by decide +kernel
theorem dX6_takeSemicolon_8 : decode cX6_takeSemicolon 8 = .ok (.aload_n 0, 1) := by decide +kernel
theorem dX6_takeSemicolon_9 : decode cX6_takeSemicolon 9 = .ok (.invokevirtual 35, 3) := by decide +kernel
theorem dX6_takeSemicolon_12 : decode cX6_takeSemicolon 12 = .ok (.goto 8, 3) := by decide +kernel
theorem dX6_takeSemicolon_15 : decode cX6_takeSemicolon 15 = .ok (.aload_n 0, 1) := by decide +kernel
theorem dX6_takeSemicolon_16 : decode cX6_takeSemicolon 16 = .ok (.iconst 1, 1) := by decide +kernel
theorem dX6_takeSemicolon_17 : decode cX6_takeSemicolon 17 = .ok (.invokevirtual 62, 3) := by decide +kernel
theorem dX6_takeSemicolon_20 : decode cX6_takeSemicolon 20 = .ok (.return_, 1) := by decide +kernel
theorem dX6_takeNumber_0 : decode cX6_takeNumber 0 = .ok (.aload_n 0, 1) := by decide +kernel
theorem dX6_takeNumber_1 : decode cX6_takeNumber 1 = .ok (.getfield 66, 3) := by decide +kernel
theorem dX6_takeNumber_4 : decode cX6_takeNumber 4 = .ok (.istore_n 3, 1) := by decide +kernel
theorem dX6_takeNumber_5 : decode cX6_takeNumber 5 = .ok (.aload_n 0, 1) := by decide +kernel
theorem dX6_takeNumber_6 : decode cX6_takeNumber 6 = .ok (.getfield 41, 3) := by decide +kernel
theorem dX6_takeNumber_9 : decode cX6_takeNumber 9 = .ok (.iconst 2, 1) := by decide +kernel
theorem dX6_takeNumber_10 : decode cX6_takeNumber 10 = .ok (.if_icmp .eq 11, 3) := by decide +kernel
theorem dX6_takeNumber_13 : decode cX6_takeNumber 13 = .ok (.aload_n 0, 1) := by decide +kernel
theorem dX6_takeNumber_14 : decode cX6_takeNumber 14 = .ok (.iconst 1, 1) := by decide +kernel
theorem dX6_takeNumber_15 : decode cX6_takeNumber 15 = .ok (.invokevirtual 62, 3) := by decide +kernel
theorem dX6_takeNumber_18 : decode cX6_takeNumber 18 = .ok (.goto 25, 3) := by decide +kernel
theorem dX6_takeNumber_21 : decode cX6_takeNumber 21 = .ok (.iload_n 3, 1) := by decide +kernel
theorem dX6_takeNumber_22 : decode cX6_takeNumber 22 = .ok (.iload_n 1, 1) := by decide +kernel
theorem dX6_takeNumber_23 : decode cX6_takeNumber 23 = .ok (.if_icmp .lt 8, 3) := by decide +kernel
theorem dX6_takeNumber_26 : decode cX6_takeNumber 26 = .ok (.iload_n 3, 1) := by decide +kernel
theorem dX6_takeNumber_27 : decode cX6_takeNumber 27 = .ok (.iload_n 2, 1) := by decide +kernel
theorem dX6_takeNumber_28 : decode cX6_takeNumber 28 = .ok (.if_icmp .le 11, 3) := by decide +kernel
theorem dX6_takeNumber_31 : decode cX6_takeNumber 31 = .ok (.aload_n 0, 1) := by decide +kernel
theorem dX6_takeNumber_32 : decode cX6_takeNumber 32 = .ok (.iconst 2, 1) := by decide +kernel
theorem dX6_takeNumber_33 : decode cX6_takeNumber 33 = .ok (.invokevirtual 62, 3) := by decide +kernel
theorem dX6_takeNumber_36 : decode cX6_takeNumber 36 = .ok (.goto 7, 3) := by decide +kernel
theorem dX6_takeNumber_39 : decode cX6_takeNumber 39 = .ok (.aload_n 0, 1) := by decide +kernel
theorem dX6_takeNumber_40 : decode cX6_takeNumber 40 = .ok (.invokevirtual 35, 3) := by decide +kernel
theorem dX6_takeNumber_43 : decode cX6_takeNumber 43 = .ok (.iload_n 3, 1) := by decide +kernel
theorem dX6_takeNumber_44 : decode cX6_takeNumber 44 = .ok (.ireturn, 1) := by decide +kernel
theorem dX6_advance_0 : decode cX6_advance 0 = .ok (.aload_n 0, 1) := by decide +kernel
theorem dX6_advance_1 : decode cX6_advance 1 = .ok (.getfield 26, 3) := by decide +kernel
theorem dX6_advance_4 : decode cX6_advance 4 = .ok (.ifCond .eq 4, 3) := by decide +kernel
theorem dX6_advance_7 : decode cX6_advance 7 = .ok (.return_, 1) := by decide +kernel
theorem dX6_advance_8 : decode cX6_advance 8 = .ok (.aload_n 0, 1) := by decide +kernel
theorem dX6_advance_9 : decode cX6_advance 9 = .ok (.aload_n 0, 1) := by decide +kernel
theorem dX6_advance_10 : decode cX6_advance 10 = .ok (.getfield 32, 3) := by decide +kernel
theorem dX6_advance_13 : decode cX6_advance 13 = .ok (.putfield 38, 3) := by decide +kernel
theorem dX6_advance_16 : decode cX6_advance 16 = .ok (.aload_n 0, 1) := by decide +kernel
theorem dX6_advance_17 : decode cX6_advance 17 = .ok (.getfield 38, 3) := by decide +kernel
theorem dX6_advance_20 : decode cX6_advance 20 = .ok (.aload_n 0, 1) := by decide +kernel
theorem dX6_advance_21 : decode cX6_advance 21 = .ok (.getfield 29, 3) := by decide +kernel
theorem dX6_advance_24 : decode cX6_advance 24 = .ok (.if_icmp .ge 33, 3) := by decide +kernel
theorem dX6_advance_27 : decode cX6_advance 27 = .ok (.aload_n 0, 1) := by decide +kernel
theorem dX6_advance_28 : decode cX6_advance 28 = .ok (.getfield 9, 3) := by decide +kernel
theorem dX6_advance_31 : decode cX6_advance 31 = .ok (.aload_n 0, 1) := by decide +kernel
theorem dX6_advance_32 : decode cX6_advance 32 = .ok (.getfield 38, 3) := by decide +kernel
theorem dX6_advance_35 : decode cX6_advance 35 = .ok (.invokestatic 50, 3) := by decide +kernel
theorem dX6_advance_38 : decode cX6_advance 38 = .ok (.invokestatic 69, 3) := by decide +kernel
theorem dX6_advance_41 : decode cX6_advance 41 = .ok (.ifCond .eq 16, 3) := by decide +kernel
theorem dX6_advance_44 : decode cX6_advance 44 = .ok (.aload_n 0, 1) := by decide +kernel
theorem dX6_advance_45 : decode cX6_advance 45 = .ok (.dup, 1) := by decide +kernel
theorem dX6_advance_46 : decode cX6_advance 46 = .ok (.getfield 38, 3) := by decide +kernel
theorem dX6_advance_49 : decode cX6_advance 49 = .ok (.iconst 1, 1) := by decide +kernel
theorem dX6_advance_50 : decode cX6_advance 50 = .ok (.iadd, 1) := by decide +kernel
theorem dX6_advance_51 : decode cX6_advance 51 = .ok (.putfield 38, 3) := by decide +kernel
theorem dX6_advance_54 : decode cX6_advance 54 = .ok (.goto (-38), 3) := by decide +kernel
theorem dX6_advance_57 : decode cX6_advance 57 = .ok (.aload_n 0, 1) := by decide +kernel
theorem dX6_advance_58 : decode cX6_advance 58 = .ok (.aload_n 0, 1) := by decide +kernel
theorem dX6_advance_59 : decode cX6_advance 59 = .ok (.getfield 38, 3) := by decide +kernel
theorem dX6_advance_62 : decode cX6_advance 62 = .ok (.putfield 32, 3) := by decide +kernel
theorem dX6_advance_65 : decode cX6_advance 65 = .ok (.aload_n 0, 1) := by decide +kernel
theorem dX6_advance_66 : decode cX6_advance 66 = .ok (.getfield 38, 3) := by decide +kernel
theorem dX6_advance_69 : decode cX6_advance 69 = .ok (.aload_n 0, 1) := by decide +kernel
theorem dX6_advance_70 : decode cX6_advance 70 = .ok (.getfield 29, 3) := by decide +kernel
theorem dX6_advance_73 : decode cX6_advance 73 = .ok (.if_icmp .lt 11, 3) := by decide +kernel
theorem dX6_advance_76 : decode cX6_advance 76 = .ok (.aload_n 0, 1) := by decide +kernel
theorem dX6_advance_77 : decode cX6_advance 77 = .ok (.iconst 0, 1) := by decide +kernel
theorem dX6_advance_78 : decode cX6_advance 78 = .ok (.putfield 41, 3) := by decide +kernel
theorem dX6_advance_81 : decode cX6_advance 81 = .ok (.goto 86, 3) := by decide +kernel
theorem dX6_advance_84 : decode cX6_advance 84 = .ok (.aload_n 0, 1) := by decide +kernel
theorem dX6_advance_85 : decode cX6_advance 85 = .ok (.getfield 9, 3) := by decide +kernel
theorem dX6_advance_88 : decode cX6_advance 88 = .ok (.aload_n 0, 1) := by decide +kernel
theorem dX6_advance_89 : decode cX6_advance 89 = .ok (.getfield 38, 3) := by decide +kernel
theorem dX6_advance_92 : decode cX6_advance 92 = .ok (.invokestatic 50, 3) := by decide +kernel
theorem dX6_advance_95 : decode cX6_advance 95 = .ok (.invokestatic 73, 3) := by decide +kernel
theorem dX6_advance_98 : decode cX6_advance 98 = .ok (.ifCond .eq 10, 3) := by decide +kernel
theorem dX6_advance_101 : decode cX6_advance 101 = .ok (.aload_n 0, 1) := by decide +kernel
theorem dX6_advance_102 : decode cX6_advance 102 = .ok (.invokevirtual 76, 3) := by decide +kernel
theorem dX6_advance_105 : decode cX6_advance 105 = .ok (.goto 62, 3) := by decide +kernel
theorem dX6_advance_108 : decode cX6_advance 108 = .ok (.aload_n 0, 1) := by decide +kernel
theorem dX6_advance_109 : decode cX6_advance 109 = .ok (.getfield 9, 3) := by decide +kernel
theorem dX6_advance_112 : decode cX6_advance 112 = .ok (.aload_n 0, 1) := by decide +kernel
theorem dX6_advance_113 : decode cX6_advance 113 = .ok (.getfield 38, 3) := by decide +kernel
theorem dX6_advance_116 : decode cX6_advance 116 = .ok (.invokestatic 50, 3) := by decide +kernel
theorem dX6_advance_119 : decode cX6_advance 119 = .ok (.invokestatic 79, 3) := by decide +kernel
theorem dX6_advance_122 : decode cX6_advance 122 = .ok (.ifCond .eq 10, 3) := by decide +kernel
theorem dX6_advance_125 : decode cX6_advance 125 = .ok (.aload_n 0, 1) := by decide +kernel
theorem dX6_advance_126 : decode cX6_advance 126 = .ok (.invokevirtual 82, 3) := by decide +kernel
theorem dX6_advance_129 : decode cX6_advance 129 = .ok (.goto 38, 3) := by decide +kernel
theorem dX6_advance_132 : decode cX6_advance 132 = .ok (.aload_n 0, 1) := by decide +kernel
theorem dX6_advance_133 : decode cX6_advance 133 = .ok (.aload_n 0, 1) := by decide +kernel
theorem dX6_advance_134 : decode cX6_advance 134 = .ok (.getfield 9, 3) := by decide +kernel
theorem dX6_advance_137 : decode cX6_advance 137 = .ok (.aload_n 0, 1) := by decide +kernel
theorem dX6_advance_138 : decode cX6_advance 138 = .ok (.getfield 38, 3) := by decide +kernel
theorem dX6_advance_141 : decode cX6_advance 141 = .ok (.invokestatic 50, 3) := by decide +kernel
theorem dX6_advance_144 : decode cX6_advance 144 = .ok (.bipush 59, 2) := by decide +kernel
theorem dX6_advance_146 : decode cX6_advance 146 = .ok (.if_icmp .ne 7, 3) := by decide +kernel
theorem dX6_advance_149 : decode cX6_advance 149 = .ok (.iconst 3, 1) := by decide +kernel
theorem dX6_advance_150 : decode cX6_advance 150 = .ok (.goto 4, 3) := by decide +kernel
theorem dX6_advance_153 : decode cX6_advance 153 = .ok (.iconst 4, 1) := by decide +kernel
theorem dX6_advance_154 : decode cX6_advance 154 = .ok (.putfield 41, 3) := by decide +kernel
theorem dX6_advance_157 : decode cX6_advance 157 = .ok (.aload_n 0, 1) := by decide +kernel
theorem dX6_advance_158 : decode cX6_advance 158 = .ok (.dup, 1) := by decide +kernel
theorem dX6_advance_159 : decode cX6_advance 159 = .ok (.getfield 32, 3) := by decide +kernel
theorem dX6_advance_162 : decode cX6_advance 162 = .ok (.iconst 1, 1) := by decide +kernel
theorem dX6_advance_163 : decode cX6_advance 163 = .ok (.iadd, 1) := by decide +kernel
theorem dX6_advance_164 : decode cX6_advance 164 = .ok (.putfield 32, 3) := by decide +kernel
theorem dX6_advance_167 : decode cX6_advance 167 = .ok (.return_, 1) := by decide +kernel
theorem dX6_scanWord_0 : decode cX6_scanWord 0 = .ok (.aload_n 0, 1) := by decide +kernel
theorem dX6_scanWord_1 : decode cX6_scanWord 1 = .ok (.iconst 1, 1) := by decide +kernel
theorem dX6_scanWord_2 : decode cX6_scanWord 2 = .ok (.putfield 41, 3) := by decide +kernel
theorem dX6_scanWord_5 : decode cX6_scanWord 5 = .ok (.aload_n 0, 1) := by decide +kernel
theorem dX6_scanWord_6 : decode cX6_scanWord 6 = .ok (.getfield 32, 3) := by decide +kernel
theorem dX6_scanWord_9 : decode cX6_scanWord 9 = .ok (.aload_n 0, 1) := by decide +kernel
theorem dX6_scanWord_10 : decode cX6_scanWord 10 = .ok (.getfield 29, 3) := by decide +kernel
theorem dX6_scanWord_13 : decode cX6_scanWord 13 = .ok (.if_icmp .ge 33, 3) := by decide +kernel
theorem dX6_scanWord_16 : decode cX6_scanWord 16 = .ok (.aload_n 0, 1) := by decide +kernel
theorem dX6_scanWord_17 : decode cX6_scanWord 17 = .ok (.getfield 9, 3) := by decide +kernel
theorem dX6_scanWord_20 : decode cX6_scanWord 20 = .ok (.aload_n 0, 1) := by decide +kernel
theorem dX6_scanWord_21 : decode cX6_scanWord 21 = .ok (.getfield 32, 3) := by decide +kernel
theorem dX6_scanWord_24 : decode cX6_scanWord 24 = .ok (.invokestatic 50, 3) := by decide +kernel
theorem dX6_scanWord_27 : decode cX6_scanWord 27 = .ok (.invokestatic 73, 3) := by decide +kernel
theorem dX6_scanWord_30 : decode cX6_scanWord 30 = .ok (.ifCond .eq 16, 3) := by decide +kernel
theorem dX6_scanWord_33 : decode cX6_scanWord 33 = .ok (.aload_n 0, 1) := by decide +kernel
theorem dX6_scanWord_34 : decode cX6_scanWord 34 = .ok (.dup, 1) := by decide +kernel
theorem dX6_scanWord_35 : decode cX6_scanWord 35 = .ok (.getfield 32, 3) := by decide +kernel
theorem dX6_scanWord_38 : decode cX6_scanWord 38 = .ok (.iconst 1, 1) := by decide +kernel
theorem dX6_scanWord_39 : decode cX6_scanWord 39 = .ok (.iadd, 1) := by decide +kernel
theorem dX6_scanWord_40 : decode cX6_scanWord 40 = .ok (.putfield 32, 3) := by decide +kernel
theorem dX6_scanWord_43 : decode cX6_scanWord 43 = .ok (.goto (-38), 3) := by decide +kernel
theorem dX6_scanWord_46 : decode cX6_scanWord 46 = .ok (.return_, 1) := by decide +kernel
theorem dX6_scanNumber_0 : decode cX6_scanNumber 0 = .ok (.aload_n 0, 1) := by decide +kernel
theorem dX6_scanNumber_1 : decode cX6_scanNumber 1 = .ok (.iconst 2, 1) := by decide +kernel
theorem dX6_scanNumber_2 : decode cX6_scanNumber 2 = .ok (.putfield 41, 3) := by decide +kernel
theorem dX6_scanNumber_5 : decode cX6_scanNumber 5 = .ok (.aload_n 0, 1) := by decide +kernel
theorem dX6_scanNumber_6 : decode cX6_scanNumber 6 = .ok (.iconst 0, 1) := by decide +kernel
theorem dX6_scanNumber_7 : decode cX6_scanNumber 7 = .ok (.putfield 66, 3) := by decide +kernel
theorem dX6_scanNumber_10 : decode cX6_scanNumber 10 = .ok (.aload_n 0, 1) := by decide +kernel
theorem dX6_scanNumber_11 : decode cX6_scanNumber 11 = .ok (.getfield 32, 3) := by decide +kernel
theorem dX6_scanNumber_14 : decode cX6_scanNumber 14 = .ok (.aload_n 0, 1) := by decide +kernel
theorem dX6_scanNumber_15 : decode cX6_scanNumber 15 = .ok (.getfield 29, 3) := by decide +kernel
theorem dX6_scanNumber_18 : decode cX6_scanNumber 18 = .ok (.if_icmp .ge 65, 3) := by decide +kernel
theorem dX6_scanNumber_21 : decode cX6_scanNumber 21 = .ok (.aload_n 0, 1) := by decide +kernel
theorem dX6_scanNumber_22 : decode cX6_scanNumber 22 = .ok (.getfield 9, 3) := by decide +kernel
theorem dX6_scanNumber_25 : decode cX6_scanNumber 25 = .ok (.aload_n 0, 1) := by decide +kernel
theorem dX6_scanNumber_26 : decode cX6_scanNumber 26 = .ok (.getfield 32, 3) := by decide +kernel
theorem dX6_scanNumber_29 : decode cX6_scanNumber 29 = .ok (.invokestatic 50, 3) := by decide +kernel
theorem dX6_scanNumber_32 : decode cX6_scanNumber 32 = .ok (.invokestatic 79, 3) := by decide +kernel
theorem dX6_scanNumber_35 : decode cX6_scanNumber 35 = .ok (.ifCond .eq 48, 3) := by decide +kernel
theorem dX6_scanNumber_38 : decode cX6_scanNumber 38 = .ok (.aload_n 0, 1) := by decide +kernel
theorem dX6_scanNumber_39 : decode cX6_scanNumber 39 = .ok (.sipush 1000, 3) := by decide +kernel
theorem dX6_scanNumber_42 : decode cX6_scanNumber 42 = .ok (.aload_n 0, 1) := by decide +kernel
theorem dX6_scanNumber_43 : decode cX6_scanNumber 43 = .ok (.getfield 66, 3) := by decide +kernel
theorem dX6_scanNumber_46 : decode cX6_scanNumber 46 = .ok (.bipush 10, 2) := by decide +kernel
theorem dX6_scanNumber_48 : decode cX6_scanNumber 48 = .ok (.imul, 1) := by decide +kernel
theorem dX6_scanNumber_49 : decode cX6_scanNumber 49 = .ok (.aload_n 0, 1) := by decide +kernel
theorem dX6_scanNumber_50 : decode cX6_scanNumber 50 = .ok (.getfield 9, 3) := by decide +kernel
theorem dX6_scanNumber_53 : decode cX6_scanNumber 53 = .ok (.aload_n 0, 1) := by decide +kernel
theorem dX6_scanNumber_54 : decode cX6_scanNumber 54 = .ok (.getfield 32, 3) := by decide +kernel
theorem dX6_scanNumber_57 : decode cX6_scanNumber 57 = .ok (.invokestatic 50, 3) := by decide +kernel
theorem dX6_scanNumber_60 : decode cX6_scanNumber 60 = .ok (.iadd, 1) := by decide +kernel
theorem dX6_scanNumber_61 : decode cX6_scanNumber 61 = .ok (.bipush 48, 2) := by decide +kernel
theorem dX6_scanNumber_63 : decode cX6_scanNumber 63 = .ok (.isub, 1) := by decide +kernel
theorem dX6_scanNumber_64 : decode cX6_scanNumber 64 = .ok (.invokestatic 85, 3) := by decide +kernel
theorem dX6_scanNumber_67 : decode cX6_scanNumber 67 = .ok (.putfield 66, 3) := by decide +kernel
theorem dX6_scanNumber_70 : decode cX6_scanNumber 70 = .ok (.aload_n 0, 1) := by decide +kernel
theorem dX6_scanNumber_71 : decode cX6_scanNumber 71 = .ok (.dup, 1) := by decide +kernel
theorem dX6_scanNumber_72 : decode cX6_scanNumber 72 = .ok (.getfield 32, 3) := by decide +kernel
theorem dX6_scanNumber_75 : decode cX6_scanNumber 75 = .ok (.iconst 1, 1) := by decide +kernel
theorem dX6_scanNumber_76 : decode cX6_scanNumber 76 = .ok (.iadd, 1) := by decide +kernel
theorem dX6_scanNumber_77 : decode cX6_scanNumber 77 = .ok (.putfield 32, 3) := by decide +kernel
theorem dX6_scanNumber_80 : decode cX6_scanNumber 80 = .ok (.goto (-70), 3) := by decide +kernel
theorem dX6_scanNumber_83 : decode cX6_scanNumber 83 = .ok (.return_, 1) := by decide +kernel
theorem dX6_isBlank_0 : decode cX6_isBlank 0 = .ok (.iload_n 0, 1) := by decide +kernel
theorem dX6_isBlank_1 : decode cX6_isBlank 1 = .ok (.bipush 32, 2) := by decide +kernel
theorem dX6_isBlank_3 : decode cX6_isBlank 3 = .ok (.if_icmp .eq 9, 3) := by decide +kernel
theorem dX6_isBlank_6 : decode cX6_isBlank 6 = .ok (.iload_n 0, 1) := by decide +kernel
theorem dX6_isBlank_7 : decode cX6_isBlank 7 = .ok (.bipush 10, 2) := by decide +kernel
theorem dX6_isBlank_9 : decode cX6_isBlank 9 = .ok (.if_icmp .ne 7, 3) := by decide +kernel
theorem dX6_isBlank_12 : decode cX6_isBlank 12 = .ok (.iconst 1, 1) := by decide +kernel
theorem dX6_isBlank_13 : decode cX6_isBlank 13 = .ok (.goto 4, 3) := by decide +kernel
theorem dX6_isBlank_16 : decode cX6_isBlank 16 = .ok (.iconst 0, 1) := by decide +kernel
theorem dX6_isBlank_17 : decode cX6_isBlank 17 = .ok (.ireturn, 1) := by decide +kernel
theorem dX6_isLetter_0 : decode cX6_isLetter 0 = .ok (.iload_n 0, 1) := by decide +kernel
theorem dX6_isLetter_1 : decode cX6_isLetter 1 = .ok (.bipush 97, 2) := by decide +kernel
theorem dX6_isLetter_3 : decode cX6_isLetter 3 = .ok (.if_icmp .lt 13, 3) := by decide +kernel
theorem dX6_isLetter_6 : decode cX6_isLetter 6 = .ok (.iload_n 0, 1) := by decide +kernel
theorem dX6_isLetter_7 : decode cX6_isLetter 7 = .ok (.bipush 122, 2) := by decide +kernel
theorem dX6_isLetter_9 : decode cX6_isLetter 9 = .ok (.if_icmp .gt 7, 3) := by decide +kernel
theorem dX6_isLetter_12 : decode cX6_isLetter 12 = .ok (.iconst 1, 1) := by decide +kernel
theorem dX6_isLetter_13 : decode cX6_isLetter 13 = .ok (.goto 4, 3) := by decide +kernel
theorem dX6_isLetter_16 : decode cX6_isLetter 16 = .ok (.iconst 0, 1) := by decide +kernel
theorem dX6_isLetter_17 : decode cX6_isLetter 17 = .ok (.ireturn, 1) := by decide +kernel
theorem dX6_isDigit_0 : decode cX6_isDigit 0 = .ok (.iload_n 0, 1) := by decide +kernel
theorem dX6_isDigit_1 : decode cX6_isDigit 1 = .ok (.bipush 48, 2) := by decide +kernel
theorem dX6_isDigit_3 : decode cX6_isDigit 3 = .ok (.if_icmp .lt 13, 3) := by decide +kernel
theorem dX6_isDigit_6 : decode cX6_isDigit 6 = .ok (.iload_n 0, 1) := by decide +kernel
theorem dX6_isDigit_7 : decode cX6_isDigit 7 = .ok (.bipush 57, 2) := by decide +kernel
theorem dX6_isDigit_9 : decode cX6_isDigit 9 = .ok (.if_icmp .gt 7, 3) := by decide +kernel
theorem dX6_isDigit_12 : decode cX6_isDigit 12 = .ok (.iconst 1, 1) := by decide +kernel
theorem dX6_isDigit_13 : decode cX6_isDigit 13 = .ok (.goto 4, 3) := by decide +kernel
theorem dX6_isDigit_16 : decode cX6_isDigit 16 = .ok (.iconst 0, 1) := by decide +kernel
theorem dX6_isDigit_17 : decode cX6_isDigit 17 = .ok (.ireturn, 1) := by decide +kernel
theorem dX7_allows_0 : decode cX7_allows 0 = .ok (.iload_n 1, 1) := by decide +kernel
theorem dX7_allows_1 : decode cX7_allows 1 = .ok (.aload_n 0, 1) := by decide +kernel
theorem dX7_allows_2 : decode cX7_allows 2 = .ok (.getfield 63, 3) := by decide +kernel
theorem dX7_allows_5 : decode cX7_allows 5 = .ok (.if_icmp .lt 15, 3) := by decide +kernel
theorem dX7_allows_8 : decode cX7_allows 8 = .ok (.iload_n 1, 1) := by decide +kernel
theorem dX7_allows_9 : decode cX7_allows 9 = .ok (.aload_n 0, 1) := by decide +kernel
theorem dX7_allows_10 : decode cX7_allows 10 = .ok (.getfield 66, 3) := by decide +kernel
theorem dX7_allows_13 : decode cX7_allows 13 = .ok (.if_icmp .gt 7, 3) := by decide +kernel
theorem dX7_allows_16 : decode cX7_allows 16 = .ok (.iconst 1, 1) := by decide +kernel
theorem dX7_allows_17 : decode cX7_allows 17 = .ok (.goto 4, 3) := by decide +kernel
theorem dX7_allows_20 : decode cX7_allows 20 = .ok (.iconst 0, 1) := by decide +kernel
theorem dX7_allows_21 : decode cX7_allows 21 = .ok (.ireturn, 1) := by decide +kernel
theorem dX8_init_0 : decode cX8_init 0 = .ok (.aload_n 0, 1) := by decide +kernel
theorem dX8_init_1 : decode cX8_init 1 = .ok (.invokespecial 1, 3) := by decide +kernel
theorem dX8_init_4 : decode cX8_init 4 = .ok (.aload_n 0, 1) := by decide +kernel
theorem dX8_init_5 : decode cX8_init 5 = .ok (.new 7, 3) := by decide +kernel
theorem dX8_init_8 : decode cX8_init 8 = .ok (.dup, 1) := by decide +kernel
theorem dX8_init_9 : decode cX8_init 9 = .ok (.invokespecial 9, 3) := by decide +kernel
theorem dX8_init_12 : decode cX8_init 12 = .ok (.putfield 10, 3) := by decide +kernel
theorem dX8_init_15 : decode cX8_init 15 = .ok (.aload_n 0, 1) := by decide +kernel
theorem dX8_init_16 : decode cX8_init 16 = .ok (.new 16, 3) := by decide +kernel
theorem dX8_init_19 : decode cX8_init 19 = .ok (.dup, 1) := by decide +kernel
theorem dX8_init_20 : decode cX8_init 20 = .ok (.invokespecial 18, 3) := by decide +kernel
theorem dX8_init_23 : decode cX8_init 23 = .ok (.putfield 19, 3) := by decide +kernel
theorem dX8_init_26 : decode cX8_init 26 = .ok (.aload_n 0, 1) := by decide +kernel
theorem dX8_init_27 : decode cX8_init 27 = .ok (.new 16, 3) := by decide +kernel
theorem dX8_init_30 : decode cX8_init 30 = .ok (.dup, 1) := by decide +kernel
theorem dX8_init_31 : decode cX8_init 31 = .ok (.invokespecial 18, 3) := by decide +kernel
theorem dX8_init_34 : decode cX8_init 34 = .ok (.putfield 23, 3) := by decide +kernel
theorem dX8_init_37 : decode cX8_init 37 = .ok (.aload_n 0, 1) := by decide +kernel
theorem dX8_init_38 : decode cX8_init 38 = .ok (.new 26, 3) := by decide +kernel
theorem dX8_init_41 : decode cX8_init 41 = .ok (.dup, 1) := by decide +kernel
theorem dX8_init_42 : decode cX8_init 42 = .ok (.aload_n 0, 1) := by decide +kernel
theorem dX8_init_43 : decode cX8_init 43 = .ok (.getfield 23, 3) := by decide +kernel
theorem dX8_init_46 : decode cX8_init 46 = .ok (.invokespecial 28, 3) := by decide +kernel
theorem dX8_init_49 : decode cX8_init 49 = .ok (.putfield 31, 3) := by decide +kernel
theorem dX8_init_52 : decode cX8_init 52 = .ok (.aload_n 0, 1) := by decide +kernel
theorem dX8_init_53 : decode cX8_init 53 = .ok (.new 26, 3) := by decide +kernel
theorem dX8_init_56 : decode cX8_init 56 = .ok (.dup, 1) := by decide +kernel
theorem dX8_init_57 : decode cX8_init 57 = .ok (.aload_n 0, 1) := by decide +kernel
theorem dX8_init_58 : decode cX8_init 58 = .ok (.getfield 23, 3) := by decide +kernel
theorem dX8_init_61 : decode cX8_init 61 = .ok (.invokespecial 28, 3) := by decide +kernel
theorem dX8_init_64 : decode cX8_init 64 = .ok (.putfield 35, 3) := by decide +kernel
theorem dX8_init_67 : decode cX8_init 67 = .ok (.aload_n 0, 1) := by decide +kernel
theorem dX8_init_68 : decode cX8_init 68 = .ok (.new 26, 3) := by decide +kernel
theorem dX8_init_71 : decode cX8_init 71 = .ok (.dup, 1) := by decide +kernel
theorem dX8_init_72 : decode cX8_init 72 = .ok (.aload_n 0, 1) := by decide +kernel
theorem dX8_init_73 : decode cX8_init 73 = .ok (.getfield 23, 3) := by decide +kernel
theorem dX8_init_76 : decode cX8_init 76 = .ok (.invokespecial 28, 3) := by decide +kernel
theorem dX8_init_79 : decode cX8_init 79 = .ok (.putfield 38, 3) := by decide +kernel
theorem dX8_init_82 : decode cX8_init 82 = .ok (.aload_n 0, 1) := by decide +kernel
theorem dX8_init_83 : decode cX8_init 83 = .ok (.new 41, 3) := by decide +kernel
theorem dX8_init_86 : decode cX8_init 86 = .ok (.dup, 1) := by decide +kernel
theorem dX8_init_87 : decode cX8_init 87 = .ok (.aload_n 0, 1) := by decide +kernel
theorem dX8_init_88 : decode cX8_init 88 = .ok (.getfield 23, 3) := by decide +kernel
theorem dX8_init_91 : decode cX8_init 91 = .ok (.invokespecial 43, 3) := by decide +kernel
theorem dX8_init_94 : decode cX8_init 94 = .ok (.putfield 44, 3) := by decide +kernel
theorem dX8_init_97 : decode cX8_init 97 = .ok (.aload_n 0, 1) := by decide +kernel
theorem dX8_init_98 : decode cX8_init 98 = .ok (.new 48, 3) := by decide +kernel
theorem dX8_init_101 : decode cX8_init 101 = .ok (.dup, 1) := by decide +kernel
theorem dX8_init_102 : decode cX8_init 102 = .ok (.invokespecial 50, 3) := by decide +kernel
theorem dX8_init_105 : decode cX8_init 105 = .ok (.putfield 51, 3) := by decide +kernel
theorem dX8_init_108 : decode cX8_init 108 = .ok (.aload_n 0, 1) := by decide +kernel
theorem dX8_init_109 : decode cX8_init 109 = .ok (.bipush 64, 2) := by decide +kernel
theorem dX8_init_111 : decode cX8_init 111 = .ok (.newarray .int, 2) := by decide +kernel
theorem dX8_init_113 : decode cX8_init 113 = .ok (.putfield 55, 3) := by decide +kernel
theorem dX8_init_116 : decode cX8_init 116 = .ok (.aload_n 0, 1) := by decide +kernel
theorem dX8_init_117 : decode cX8_init 117 = .ok (.getfield 23, 3) := by decide +kernel
theorem dX8_init_120 : decode cX8_init 120 = .ok (.bipush 30, 2) := by decide +kernel
theorem dX8_init_122 : decode cX8_init 122 = .ok (.iconst 4, 1) := by decide +kernel
theorem dX8_init_123 : decode cX8_init 123 = .ok (.bipush 9, 2) := by decide +kernel
theorem dX8_init_125 : decode cX8_init 125 = .ok (.iconst 2, 1) := by decide +kernel
theorem dX8_init_126 : decode cX8_init 126 = .ok (.invokevirtual 59, 3) := by decide +kernel
theorem dX8_init_129 : decode cX8_init 129 = .ok (.aload_n 0, 1) := by decide +kernel
theorem dX8_init_130 : decode cX8_init 130 = .ok (.getfield 23, 3) := by decide +kernel
theorem dX8_init_133 : decode cX8_init 133 = .ok (.iconst 1, 1) := by decide +kernel
theorem dX8_init_134 : decode cX8_init 134 = .ok (.iconst 0, 1) := by decide +kernel
theorem dX8_init_135 : decode cX8_init 135 = .ok (.bipush 40, 2) := by decide +kernel
theorem dX8_init_137 : decode cX8_init 137 = .ok (.bipush 10, 2) := by decide +kernel
theorem dX8_init_139 : decode cX8_init 139 = .ok (.bipush 20, 2) := by decide +kernel
theorem dX8_init_141 : decode cX8_init 141 = .ok (.invokevirtual 63, 3) := by decide +kernel
theorem dX8_init_144 : decode cX8_init 144 = .ok (.aload_n 0, 1) := by decide +kernel
theorem dX8_init_145 : decode cX8_init 145 = .ok (.getfield 23, 3) := by decide +kernel
theorem dX8_init_148 : decode cX8_init 148 = .ok (.iconst 0, 1) := by decide +kernel
theorem dX8_init_149 : decode cX8_init 149 = .ok (.iconst 0, 1) := by decide +kernel
theorem dX8_init_150 : decode cX8_init 150 = .ok (.bipush 12, 2) := by decide +kernel
theorem dX8_init_152 : decode cX8_init 152 = .ok (.iconst 0, 1) := by decide +kernel
theorem dX8_init_153 : decode cX8_init 153 = .ok (.iconst 5, 1) := by decide +kernel
theorem dX8_init_154 : decode cX8_init 154 = .ok (.invokevirtual 63, 3) := by decide +kernel
theorem dX8_init_157 : decode cX8_init 157 = .ok (.aload_n 0, 1) := by decide +kernel
theorem dX8_init_158 : decode cX8_init 158 = .ok (.getfield 23, 3) := by decide +kernel
theorem dX8_init_161 : decode cX8_init 161 = .ok (.iconst 0, 1) := by decide +kernel
theorem dX8_init_162 : decode cX8_init 162 = .ok (.iconst 0, 1) := by decide +kernel
theorem dX8_init_163 : decode cX8_init 163 = .ok (.iconst 3, 1) := by decide +kernel
theorem dX8_init_164 : decode cX8_init 164 = .ok (.iconst 5, 1) := by decide +kernel
theorem dX8_init_165 : decode cX8_init 165 = .ok (.bipush 40, 2) := by decide +kernel
theorem dX8_init_167 : decode cX8_init 167 = .ok (.invokevirtual 63, 3) := by decide +kernel
theorem dX8_init_170 : decode cX8_init 170 = .ok (.aload_n 0, 1) := by decide +kernel
theorem dX8_init_171 : decode cX8_init 171 = .ok (.getfield 23, 3) := by decide +kernel
theorem dX8_init_174 : decode cX8_init 174 = .ok (.iconst 1, 1) := by decide +kernel
theorem dX8_init_175 : decode cX8_init 175 = .ok (.iconst 1, 1) := by decide +kernel
theorem dX8_init_176 : decode cX8_init 176 = .ok (.bipush 25, 2) := by decide +kernel
theorem dX8_init_178 : decode cX8_init 178 = .ok (.bipush 30, 2) := by decide +kernel
theorem dX8_init_180 : decode cX8_init 180 = .ok (.iconst 0, 1) := by decide +kernel
theorem dX8_init_181 : decode cX8_init 181 = .ok (.invokevirtual 63, 3) := by decide +kernel
theorem dX8_init_184 : decode cX8_init 184 = .ok (.aload_n 0, 1) := by decide +kernel
theorem dX8_init_185 : decode cX8_init 185 = .ok (.getfield 23, 3) := by decide +kernel
theorem dX8_init_188 : decode cX8_init 188 = .ok (.iconst 0, 1) := by decide +kernel
theorem dX8_init_189 : decode cX8_init 189 = .ok (.iconst 1, 1) := by decide +kernel
theorem dX8_init_190 : decode cX8_init 190 = .ok (.bipush 9, 2) := by decide +kernel
theorem dX8_init_192 : decode cX8_init 192 = .ok (.bipush 20, 2) := by decide +kernel
theorem dX8_init_194 : decode cX8_init 194 = .ok (.bipush 15, 2) := by decide +kernel
theorem dX8_init_196 : decode cX8_init 196 = .ok (.invokevirtual 63, 3) := by decide +kernel
theorem dX8_init_199 : decode cX8_init 199 = .ok (.aload_n 0, 1) := by decide +kernel
theorem dX8_init_200 : decode cX8_init 200 = .ok (.getfield 23, 3) := by decide +kernel
theorem dX8_init_203 : decode cX8_init 203 = .ok (.iconst 1, 1) := by decide +kernel
theorem dX8_init_204 : decode cX8_init 204 = .ok (.iconst 0, 1) := by decide +kernel
theorem dX8_init_205 : decode cX8_init 205 = .ok (.iconst 1, 1) := by decide +kernel
theorem dX8_init_206 : decode cX8_init 206 = .ok (.invokevirtual 67, 3) := by decide +kernel
theorem dX8_init_209 : decode cX8_init 209 = .ok (.aload_n 0, 1) := by decide +kernel
theorem dX8_init_210 : decode cX8_init 210 = .ok (.getfield 23, 3) := by decide +kernel
theorem dX8_init_213 : decode cX8_init 213 = .ok (.iconst 3, 1) := by decide +kernel
theorem dX8_init_214 : decode cX8_init 214 = .ok (.iconst 1, 1) := by decide +kernel
theorem dX8_init_215 : decode cX8_init 215 = .ok (.iconst 2, 1) := by decide +kernel
theorem dX8_init_216 : decode cX8_init 216 = .ok (.invokevirtual 67, 3) := by decide +kernel
theorem dX8_init_219 : decode cX8_init 219 = .ok (.aload_n 0, 1) := by decide +kernel
theorem dX8_init_220 : decode cX8_init 220 = .ok (.getfield 31, 3) := by decide +kernel
theorem dX8_init_223 : decode cX8_init 223 = .ok (.invokevirtual 71, 3) := by decide +kernel
theorem dX8_init_226 : decode cX8_init 226 = .ok (.return_, 1) := by decide +kernel
theorem dX8_appendText_0 : decode cX8_appendText 0 = .ok (.aload_n 0, 1) := by decide +kernel
theorem dX8_appendText_1 : decode cX8_appendText 1 = .ok (.getfield 10, 3) := by decide +kernel
theorem dX8_appendText_4 : decode cX8_appendText 4 = .ok (.getfield 73, 3) := by decide +kernel
theorem dX8_appendText_7 : decode cX8_appendText 7 = .ok (.sipush 480, 3) := by decide +kernel
theorem dX8_appendText_10 : decode cX8_appendText 10 = .ok (.if_icmp .le 5, 3) := by decide +kernel
theorem dX8_appendText_13 : decode cX8_appendText 13 = .ok (.iconst (-1), 1) := by decide +kernel
theorem dX8_appendText_14 : decode cX8_appendText 14 = .ok (.ireturn, 1) := by decide +kernel
theorem dX8_appendText_15 : decode cX8_appendText 15 = .ok (.aload_n 0, 1) := by decide +kernel
theorem dX8_appendText_16 : decode cX8_appendText 16 = .ok (.getfield 10, 3) := by decide +kernel
theorem dX8_appendText_19 : decode cX8_appendText 19 = .ok (.iload_n 1, 1) := by decide +kernel
theorem dX8_appendText_20 : decode cX8_appendText 20 = .ok (.invokevirtual 77, 3) := by decide +kernel
theorem dX8_appendText_23 : decode cX8_appendText 23 = .ok (.aload_n 0, 1) := by decide +kernel
theorem dX8_appendText_24 : decode cX8_appendText 24 = .ok (.getfield 10, 3) := by decide +kernel
theorem dX8_appendText_27 : decode cX8_appendText 27 = .ok (.iload_n 2, 1) := by decide +kernel
theorem dX8_appendText_28 : decode cX8_appendText 28 = .ok (.invokevirtual 77, 3) := by decide +kernel
theorem dX8_appendText_31 : decode cX8_appendText 31 = .ok (.aload_n 0, 1) := by decide +kernel
theorem dX8_appendText_32 : decode cX8_appendText 32 = .ok (.getfield 10, 3) := by decide +kernel
theorem dX8_appendText_35 : decode cX8_appendText 35 = .ok (.iload_n 3, 1) := by decide +kernel
theorem dX8_appendText_36 : decode cX8_appendText 36 = .ok (.invokevirtual 77, 3) := by decide +kernel
theorem dX8_appendText_39 : decode cX8_appendText 39 = .ok (.aload_n 0, 1) := by decide +kernel
theorem dX8_appendText_40 : decode cX8_appendText 40 = .ok (.getfield 10, 3) := by decide +kernel
theorem dX8_appendText_43 : decode cX8_appendText 43 = .ok (.iload 4, 2) := by decide +kernel
theorem dX8_appendText_45 : decode cX8_appendText 45 = .ok (.invokevirtual 77, 3) := by decide +kernel
theorem dX8_appendText_48 : decode cX8_appendText 48 = .ok (.aload_n 0, 1) := by decide +kernel
theorem dX8_appendText_49 : decode cX8_appendText 49 = .ok (.getfield 10, 3) := by decide +kernel
theorem dX8_appendText_52 : decode cX8_appendText 52 = .ok (.iload 5, 2) := by decide +kernel
theorem dX8_appendText_54 : decode cX8_appendText 54 = .ok (.invokevirtual 77, 3) := by decide +kernel
theorem dX8_appendText_57 : decode cX8_appendText 57 = .ok (.aload_n 0, 1) := by decide +kernel
theorem dX8_appendText_58 : decode cX8_appendText 58 = .ok (.getfield 10, 3) := by decide +kernel
theorem dX8_appendText_61 : decode cX8_appendText 61 = .ok (.getfield 73, 3) := by decide +kernel
theorem dX8_appendText_64 : decode cX8_appendText 64 = .ok (.ireturn, 1) := by decide +kernel
theorem dX8_loadGame_0 : decode cX8_loadGame 0 = .ok (.aload_n 0, 1) := by decide +kernel
theorem dX8_loadGame_1 : decode cX8_loadGame 1 = .ok (.iload_n 1, 1) := by decide +kernel
theorem dX8_loadGame_2 : decode cX8_loadGame 2 = .ok (.invokevirtual 81, 3) := by decide +kernel
theorem dX8_loadGame_5 : decode cX8_loadGame 5 = .ok (.aload_n 0, 1) := by decide +kernel
theorem dX8_loadGame_6 : decode cX8_loadGame 6 = .ok (.getfield 10, 3) := by decide +kernel
theorem dX8_loadGame_9 : decode cX8_loadGame 9 = .ok (.iload_n 1, 1) := by decide +kernel
theorem dX8_loadGame_10 : decode cX8_loadGame 10 = .ok (.invokevirtual 84, 3) := by decide +kernel
theorem dX8_loadGame_13 : decode cX8_loadGame 13 = .ok (.aload_n 0, 1) := by decide +kernel
theorem dX8_loadGame_14 : decode cX8_loadGame 14 = .ok (.getfield 10, 3) := by decide +kernel
theorem dX8_loadGame_17 : decode cX8_loadGame 17 = .ok (.aload_n 0, 1) := by decide +kernel
theorem dX8_loadGame_18 : decode cX8_loadGame 18 = .ok (.getfield 19, 3) := by decide +kernel
theorem dX8_loadGame_21 : decode cX8_loadGame 21 = .ok (.invokestatic 87, 3) := by decide +kernel
theorem dX8_loadGame_24 : decode cX8_loadGame 24 = .ok (.aload_n 0, 1) := by decide +kernel
theorem dX8_loadGame_25 : decode cX8_loadGame 25 = .ok (.getfield 10, 3) := by decide +kernel
theorem dX8_loadGame_28 : decode cX8_loadGame 28 = .ok (.aload_n 0, 1) := by decide +kernel
theorem dX8_loadGame_29 : decode cX8_loadGame 29 = .ok (.getfield 19, 3) := by decide +kernel
theorem dX8_loadGame_32 : decode cX8_loadGame 32 = .ok (.invokestatic 91, 3) := by decide +kernel
theorem dX8_loadGame_35 : decode cX8_loadGame 35 = .ok (.aload_n 0, 1) := by decide +kernel
theorem dX8_loadGame_36 : decode cX8_loadGame 36 = .ok (.getfield 10, 3) := by decide +kernel
theorem dX8_loadGame_39 : decode cX8_loadGame 39 = .ok (.aload_n 0, 1) := by decide +kernel
theorem dX8_loadGame_40 : decode cX8_loadGame 40 = .ok (.getfield 19, 3) := by decide +kernel
theorem dX8_loadGame_43 : decode cX8_loadGame 43 = .ok (.invokestatic 94, 3) := by decide +kernel
theorem dX8_loadGame_46 : decode cX8_loadGame 46 = .ok (.aload_n 0, 1) := by decide +kernel
theorem dX8_loadGame_47 : decode cX8_loadGame 47 = .ok (.getfield 10, 3) := by decide +kernel
theorem dX8_loadGame_50 : decode cX8_loadGame 50 = .ok (.iconst 0, 1) := by decide +kernel
theorem dX8_loadGame_51 : decode cX8_loadGame 51 = .ok (.putfield 73, 3) := by decide +kernel
theorem dX8_loadGame_54 : decode cX8_loadGame 54 = .ok (.aload_n 0, 1) := by decide +kernel
theorem dX8_loadGame_55 : decode cX8_loadGame 55 = .ok (.getfield 10, 3) := by decide +kernel
theorem dX8_loadGame_58 : decode cX8_loadGame 58 = .ok (.invokevirtual 97, 3) := by decide +kernel
theorem dX8_loadGame_61 : decode cX8_loadGame 61 = .ok (.ifCond .eq 5, 3) := by decide +kernel
theorem dX8_loadGame_64 : decode cX8_loadGame 64 = .ok (.iconst (-1), 1) := by decide +kernel
theorem dX8_loadGame_65 : decode cX8_loadGame 65 = .ok (.ireturn, 1) := by decide +kernel
theorem dX8_loadGame_66 : decode cX8_loadGame 66 = .ok (.aload_n 0, 1) := by decide +kernel
theorem dX8_loadGame_67 : decode cX8_loadGame 67 = .ok (.getfield 23, 3) := by decide +kernel
theorem dX8_loadGame_70 : decode cX8_loadGame 70 = .ok (.aload_n 0, 1) := by decide +kernel
theorem dX8_loadGame_71 : decode cX8_loadGame 71 = .ok (.getfield 19, 3) := by decide +kernel
theorem dX8_loadGame_74 : decode cX8_loadGame 74 = .ok (.invokevirtual 101, 3) := by decide +kernel
theorem dX8_loadGame_77 : decode cX8_loadGame 77 = .ok (.aload_n 0, 1) := by decide +kernel
theorem dX8_loadGame_78 : decode cX8_loadGame 78 = .ok (.getfield 31, 3) := by decide +kernel
theorem dX8_loadGame_81 : decode cX8_loadGame 81 = .ok (.invokevirtual 71, 3) := by decide +kernel
theorem dX8_loadGame_84 : decode cX8_loadGame 84 = .ok (.aload_n 0, 1) := by decide +kernel
theorem dX8_loadGame_85 : decode cX8_loadGame 85 = .ok (.getfield 44, 3) := by decide +kernel
theorem dX8_loadGame_88 : decode cX8_loadGame 88 = .ok (.invokevirtual 104, 3) := by decide +kernel
theorem dX8_loadGame_91 : decode cX8_loadGame 91 = .ok (.aload_n 0, 1) := by decide +kernel
theorem dX8_loadGame_92 : decode cX8_loadGame 92 = .ok (.iconst 0, 1) := by decide +kernel
theorem dX8_loadGame_93 : decode cX8_loadGame 93 = .ok (.putfield 107, 3) := by decide +kernel
theorem dX8_loadGame_96 : decode cX8_loadGame 96 = .ok (.aload_n 0, 1) := by decide +kernel
theorem dX8_loadGame_97 : decode cX8_loadGame 97 = .ok (.getfield 23, 3) := by decide +kernel
theorem dX8_loadGame_100 : decode cX8_loadGame 100 = .ok (.getfield 111, 3) := by decide +kernel
theorem dX8_loadGame_103 : decode cX8_loadGame 103 = .ok (.ireturn, 1) := by decide +kernel
theorem dX8_errorCode_0 : decode cX8_errorCode 0 = .ok (.aload_n 0, 1) := by decide +kernel
theorem dX8_errorCode_1 : decode cX8_errorCode 1 = .ok (.getfield 10, 3) := by decide +kernel
theorem dX8_errorCode_4 : decode cX8_errorCode 4 = .ok (.getfield 114, 3) := by decide +kernel
theorem dX8_errorCode_7 : decode cX8_errorCode 7 = .ok (.ireturn, 1) := by decide +kernel
theorem dX8_errorOffset_0 : decode cX8_errorOffset 0 = .ok (.aload_n 0, 1) := by decide +kernel
theorem dX8_errorOffset_1 : decode cX8_errorOffset 1 = .ok (.getfield 10, 3) := by decide +kernel
theorem dX8_errorOffset_4 : decode cX8_errorOffset 4 = .ok (.getfield 117, 3) := by decide +kernel
theorem dX8_errorOffset_7 : decode cX8_errorOffset 7 = .ok (.ireturn, 1) := by decide +kernel
theorem dX8_turn_0 : decode cX8_turn 0 = .ok (.aload_n 0, 1) := by decide +kernel
theorem dX8_turn_1 : decode cX8_turn 1 = .ok (.getfield 31, 3) := by decide +kernel
theorem dX8_turn_4 : decode cX8_turn 4 = .ok (.getfield 120, 3) := by decide +kernel
theorem dX8_turn_7 : decode cX8_turn 7 = .ok (.ireturn, 1) := by decide +kernel
theorem dX8_limitAngle_0 : decode cX8_limitAngle 0 = .ok (.aload_n 0, 1) := by decide +kernel
theorem dX8_limitAngle_1 : decode cX8_limitAngle 1 = .ok (.getfield 31, 3) := by decide +kernel
theorem dX8_limitAngle_4 : decode cX8_limitAngle 4 = .ok (.getfield 123, 3) := by decide +kernel
theorem dX8_limitAngle_7 : decode cX8_limitAngle 7 = .ok (.ireturn, 1) := by decide +kernel
theorem dX8_tollBox_0 : decode cX8_tollBox 0 = .ok (.aload_n 0, 1) := by decide +kernel
theorem dX8_tollBox_1 : decode cX8_tollBox 1 = .ok (.getfield 31, 3) := by decide +kernel
theorem dX8_tollBox_4 : decode cX8_tollBox 4 = .ok (.getfield 126, 3) := by decide +kernel
theorem dX8_tollBox_7 : decode cX8_tollBox 7 = .ok (.ireturn, 1) := by decide +kernel
theorem dX8_groundCoins_0 : decode cX8_groundCoins 0 = .ok (.aload_n 0, 1) := by decide +kernel
theorem dX8_groundCoins_1 : decode cX8_groundCoins 1 = .ok (.getfield 31, 3) := by decide +kernel
theorem dX8_groundCoins_4 : decode cX8_groundCoins 4 = .ok (.getfield 129, 3) := by decide +kernel
theorem dX8_groundCoins_7 : decode cX8_groundCoins 7 = .ok (.iload_n 1, 1) := by decide +kernel
theorem dX8_groundCoins_8 : decode cX8_groundCoins 8 = .ok (.invokestatic 132, 3) := by decide +kernel
theorem dX8_groundCoins_11 : decode cX8_groundCoins 11 = .ok (.invokestatic 136, 3) := by decide +kernel
theorem dX8_groundCoins_14 : decode cX8_groundCoins 14 = .ok (.ireturn, 1) := by decide +kernel
theorem dX8_kingCount_0 : decode cX8_kingCount 0 = .ok (.aload_n 0, 1) := by decide +kernel
theorem dX8_kingCount_1 : decode cX8_kingCount 1 = .ok (.getfield 23, 3) := by decide +kernel
theorem dX8_kingCount_4 : decode cX8_kingCount 4 = .ok (.invokevirtual 140, 3) := by decide +kernel
theorem dX8_kingCount_7 : decode cX8_kingCount 7 = .ok (.ireturn, 1) := by decide +kernel
theorem dX8_bankCount_0 : decode cX8_bankCount 0 = .ok (.aload_n 0, 1) := by decide +kernel
theorem dX8_bankCount_1 : decode cX8_bankCount 1 = .ok (.getfield 31, 3) := by decide +kernel
theorem dX8_bankCount_4 : decode cX8_bankCount 4 = .ok (.iload_n 1, 1) := by decide +kernel
theorem dX8_bankCount_5 : decode cX8_bankCount 5 = .ok (.invokestatic 132, 3) := by decide +kernel
theorem dX8_bankCount_8 : decode cX8_bankCount 8 = .ok (.invokevirtual 144, 3) := by decide +kernel
theorem dX8_bankCount_11 : decode cX8_bankCount 11 = .ok (.ireturn, 1) := by decide +kernel
theorem dX8_isKing_0 : decode cX8_isKing 0 = .ok (.aload_n 0, 1) := by decide +kernel
theorem dX8_isKing_1 : decode cX8_isKing 1 = .ok (.iload_n 1, 1) := by decide +kernel
theorem dX8_isKing_2 : decode cX8_isKing 2 = .ok (.invokevirtual 148, 3) := by decide +kernel
theorem dX8_isKing_5 : decode cX8_isKing 5 = .ok (.aload_n 0, 1) := by decide +kernel
theorem dX8_isKing_6 : decode cX8_isKing 6 = .ok (.getfield 23, 3) := by decide +kernel
theorem dX8_isKing_9 : decode cX8_isKing 9 = .ok (.iload_n 1, 1) := by decide +kernel
theorem dX8_isKing_10 : decode cX8_isKing 10 = .ok (.invokevirtual 151, 3) := by decide +kernel
theorem dX8_isKing_13 : decode cX8_isKing 13 = .ok (.ireturn, 1) := by decide +kernel
theorem dX8_isEast_0 : decode cX8_isEast 0 = .ok (.aload_n 0, 1) := by decide +kernel
theorem dX8_isEast_1 : decode cX8_isEast 1 = .ok (.iload_n 1, 1) := by decide +kernel
theorem dX8_isEast_2 : decode cX8_isEast 2 = .ok (.invokevirtual 148, 3) := by decide +kernel
theorem dX8_isEast_5 : decode cX8_isEast 5 = .ok (.aload_n 0, 1) := by decide +kernel
theorem dX8_isEast_6 : decode cX8_isEast 6 = .ok (.getfield 31, 3) := by decide +kernel
theorem dX8_isEast_9 : decode cX8_isEast 9 = .ok (.getfield 155, 3) := by decide +kernel
theorem dX8_isEast_12 : decode cX8_isEast 12 = .ok (.iload_n 1, 1) := by decide +kernel
theorem dX8_isEast_13 : decode cX8_isEast 13 = .ok (.invokestatic 136, 3) := by decide +kernel
theorem dX8_isEast_16 : decode cX8_isEast 16 = .ok (.iconst 1, 1) := by decide +kernel
theorem dX8_isEast_17 : decode cX8_isEast 17 = .ok (.if_icmp .ne 7, 3) := by decide +kernel
theorem dX8_isEast_20 : decode cX8_isEast 20 = .ok (.iconst 1, 1) := by decide +kernel
theorem dX8_isEast_21 : decode cX8_isEast 21 = .ok (.goto 4, 3) := by decide +kernel
theorem dX8_isEast_24 : decode cX8_isEast 24 = .ok (.iconst 0, 1) := by decide +kernel
theorem dX8_isEast_25 : decode cX8_isEast 25 = .ok (.ireturn, 1) := by decide +kernel
theorem dX8_coins_0 : decode cX8_coins 0 = .ok (.aload_n 0, 1) := by decide +kernel
theorem dX8_coins_1 : decode cX8_coins 1 = .ok (.iload_n 1, 1) := by decide +kernel
theorem dX8_coins_2 : decode cX8_coins 2 = .ok (.invokevirtual 148, 3) := by decide +kernel
theorem dX8_coins_5 : decode cX8_coins 5 = .ok (.aload_n 0, 1) := by decide +kernel
theorem dX8_coins_6 : decode cX8_coins 6 = .ok (.getfield 31, 3) := by decide +kernel
theorem dX8_coins_9 : decode cX8_coins 9 = .ok (.getfield 158, 3) := by decide +kernel
theorem dX8_coins_12 : decode cX8_coins 12 = .ok (.iload_n 1, 1) := by decide +kernel
theorem dX8_coins_13 : decode cX8_coins 13 = .ok (.invokestatic 136, 3) := by decide +kernel
theorem dX8_coins_16 : decode cX8_coins 16 = .ok (.ireturn, 1) := by decide +kernel
theorem dX8_rags_0 : decode cX8_rags 0 = .ok (.aload_n 0, 1) := by decide +kernel
theorem dX8_rags_1 : decode cX8_rags 1 = .ok (.iload_n 1, 1) := by decide +kernel
theorem dX8_rags_2 : decode cX8_rags 2 = .ok (.invokevirtual 148, 3) := by decide +kernel
theorem dX8_rags_5 : decode cX8_rags 5 = .ok (.aload_n 0, 1) := by decide +kernel
theorem dX8_rags_6 : decode cX8_rags 6 = .ok (.getfield 31, 3) := by decide +kernel
theorem dX8_rags_9 : decode cX8_rags 9 = .ok (.getfield 164, 3) := by decide +kernel
theorem dX8_rags_12 : decode cX8_rags 12 = .ok (.iload_n 1, 1) := by decide +kernel
theorem dX8_rags_13 : decode cX8_rags 13 = .ok (.invokestatic 136, 3) := by decide +kernel
theorem dX8_rags_16 : decode cX8_rags 16 = .ok (.ireturn, 1) := by decide +kernel
theorem dX8_wearer_0 : decode cX8_wearer 0 = .ok (.aload_n 0, 1) := by decide +kernel
theorem dX8_wearer_1 : decode cX8_wearer 1 = .ok (.iload_n 1, 1) := by decide +kernel
theorem dX8_wearer_2 : decode cX8_wearer 2 = .ok (.invokevirtual 148, 3) := by decide +kernel
theorem dX8_wearer_5 : decode cX8_wearer 5 = .ok (.aload_n 0, 1) := by decide +kernel
theorem dX8_wearer_6 : decode cX8_wearer 6 = .ok (.getfield 31, 3) := by decide +kernel
theorem dX8_wearer_9 : decode cX8_wearer 9 = .ok (.iload_n 1, 1) := by decide +kernel
theorem dX8_wearer_10 : decode cX8_wearer 10 = .ok (.invokevirtual 170, 3) := by decide +kernel
theorem dX8_wearer_13 : decode cX8_wearer 13 = .ok (.ireturn, 1) := by decide +kernel
theorem dX8_crossings_0 : decode cX8_crossings 0 = .ok (.aload_n 0, 1) := by decide +kernel
theorem dX8_crossings_1 : decode cX8_crossings 1 = .ok (.iload_n 1, 1) := by decide +kernel
theorem dX8_crossings_2 : decode cX8_crossings 2 = .ok (.invokevirtual 148, 3) := by decide +kernel
theorem dX8_crossings_5 : decode cX8_crossings 5 = .ok (.aload_n 0, 1) := by decide +kernel
theorem dX8_crossings_6 : decode cX8_crossings 6 = .ok (.getfield 31, 3) := by decide +kernel
theorem dX8_crossings_9 : decode cX8_crossings 9 = .ok (.getfield 173, 3) := by decide +kernel
theorem dX8_crossings_12 : decode cX8_crossings 12 = .ok (.iload_n 1, 1) := by decide +kernel
theorem dX8_crossings_13 : decode cX8_crossings 13 = .ok (.invokestatic 136, 3) := by decide +kernel
theorem dX8_crossings_16 : decode cX8_crossings 16 = .ok (.ireturn, 1) := by decide +kernel
theorem dX8_royalHolder_0 : decode cX8_royalHolder 0 = .ok (.aload_n 0, 1) := by decide +kernel
theorem dX8_royalHolder_1 : decode cX8_royalHolder 1 = .ok (.iload_n 1, 1) := by decide +kernel
theorem dX8_royalHolder_2 : decode cX8_royalHolder 2 = .ok (.invokevirtual 211, 3) := by decide +kernel
theorem dX8_royalHolder_5 : decode cX8_royalHolder 5 = .ok (.aload_n 0, 1) := by decide +kernel
theorem dX8_royalHolder_6 : decode cX8_royalHolder 6 = .ok (.getfield 31, 3) := by decide +kernel
theorem dX8_royalHolder_9 : decode cX8_royalHolder 9 = .ok (.getfield 214, 3) := by decide +kernel
theorem dX8_royalHolder_12 : decode cX8_royalHolder 12 = .ok (.iload_n 1, 1) := by decide +kernel
theorem dX8_royalHolder_13 : decode cX8_royalHolder 13 = .ok (.invokestatic 136, 3) := by decide +kernel
theorem dX8_royalHolder_16 : decode cX8_royalHolder 16 = .ok (.ireturn, 1) := by decide +kernel
theorem dX8_isRoyalCoinEast_0 : decode cX8_isRoyalCoinEast 0 = .ok (.aload_n 0, 1) := by decide +kernel
theorem dX8_isRoyalCoinEast_1 : decode cX8_isRoyalCoinEast 1 = .ok (.iload_n 1, 1) := by decide +kernel
theorem dX8_isRoyalCoinEast_2 : decode cX8_isRoyalCoinEast 2 = .ok (.invokevirtual 211, 3) := by decide +kernel
theorem dX8_isRoyalCoinEast_5 : decode cX8_isRoyalCoinEast 5 = .ok (.aload_n 0, 1) := by decide +kernel
theorem dX8_isRoyalCoinEast_6 : decode cX8_isRoyalCoinEast 6 = .ok (.getfield 31, 3) := by decide +kernel
theorem dX8_isRoyalCoinEast_9 : decode cX8_isRoyalCoinEast 9 = .ok (.iload_n 1, 1) := by decide +kernel
theorem dX8_isRoyalCoinEast_10 : decode cX8_isRoyalCoinEast 10 = .ok (.invokevirtual 217, 3) := by decide +kernel
theorem dX8_isRoyalCoinEast_13 : decode cX8_isRoyalCoinEast 13 = .ok (.iconst 1, 1) := by decide +kernel
theorem dX8_isRoyalCoinEast_14 : decode cX8_isRoyalCoinEast 14 = .ok (.if_icmp .ne 7, 3) := by decide +kernel
theorem dX8_isRoyalCoinEast_17 : decode cX8_isRoyalCoinEast 17 = .ok (.iconst 1, 1) := by decide +kernel
theorem dX8_isRoyalCoinEast_18 : decode cX8_isRoyalCoinEast 18 = .ok (.goto 4, 3) := by decide +kernel
theorem dX8_isRoyalCoinEast_21 : decode cX8_isRoyalCoinEast 21 = .ok (.iconst 0, 1) := by decide +kernel
theorem dX8_isRoyalCoinEast_22 : decode cX8_isRoyalCoinEast 22 = .ok (.ireturn, 1) := by decide +kernel
theorem dX8_isCounted_0 : decode cX8_isCounted 0 = .ok (.aload_n 0, 1) := by decide +kernel
theorem dX8_isCounted_1 : decode cX8_isCounted 1 = .ok (.iload_n 1, 1) := by decide +kernel
theorem dX8_isCounted_2 : decode cX8_isCounted 2 = .ok (.invokevirtual 211, 3) := by decide +kernel
theorem dX8_isCounted_5 : decode cX8_isCounted 5 = .ok (.aload_n 0, 1) := by decide +kernel
theorem dX8_isCounted_6 : decode cX8_isCounted 6 = .ok (.getfield 31, 3) := by decide +kernel
theorem dX8_isCounted_9 : decode cX8_isCounted 9 = .ok (.getfield 220, 3) := by decide +kernel
theorem dX8_isCounted_12 : decode cX8_isCounted 12 = .ok (.iload_n 1, 1) := by decide +kernel
theorem dX8_isCounted_13 : decode cX8_isCounted 13 = .ok (.invokestatic 136, 3) := by decide +kernel
theorem dX8_isCounted_16 : decode cX8_isCounted 16 = .ok (.iconst 1, 1) := by decide +kernel
theorem dX8_isCounted_17 : decode cX8_isCounted 17 = .ok (.if_icmp .ne 7, 3) := by decide +kernel
theorem dX8_isCounted_20 : decode cX8_isCounted 20 = .ok (.iconst 1, 1) := by decide +kernel
theorem dX8_isCounted_21 : decode cX8_isCounted 21 = .ok (.goto 4, 3) := by decide +kernel
theorem dX8_isCounted_24 : decode cX8_isCounted 24 = .ok (.iconst 0, 1) := by decide +kernel
theorem dX8_isCounted_25 : decode cX8_isCounted 25 = .ok (.ireturn, 1) := by decide +kernel
theorem dX8_royalCoins_0 : decode cX8_royalCoins 0 = .ok (.aload_n 0, 1) := by decide +kernel
theorem dX8_royalCoins_1 : decode cX8_royalCoins 1 = .ok (.iload_n 1, 1) := by decide +kernel
theorem dX8_royalCoins_2 : decode cX8_royalCoins 2 = .ok (.invokevirtual 148, 3) := by decide +kernel
theorem dX8_royalCoins_5 : decode cX8_royalCoins 5 = .ok (.aload_n 0, 1) := by decide +kernel
theorem dX8_royalCoins_6 : decode cX8_royalCoins 6 = .ok (.getfield 31, 3) := by decide +kernel
theorem dX8_royalCoins_9 : decode cX8_royalCoins 9 = .ok (.iload_n 1, 1) := by decide +kernel
theorem dX8_royalCoins_10 : decode cX8_royalCoins 10 = .ok (.invokevirtual 223, 3) := by decide +kernel
theorem dX8_royalCoins_13 : decode cX8_royalCoins 13 = .ok (.ireturn, 1) := by decide +kernel
theorem dX8_countedRoyalCoins_0 : decode cX8_countedRoyalCoins 0 = .ok (.aload_n 0, 1) := by decide +kernel
theorem dX8_countedRoyalCoins_1 : decode cX8_countedRoyalCoins 1 = .ok (.getfield 31, 3) := by decide +kernel
theorem dX8_countedRoyalCoins_4 : decode cX8_countedRoyalCoins 4 = .ok (.invokevirtual 226, 3) := by decide +kernel
theorem dX8_countedRoyalCoins_7 : decode cX8_countedRoyalCoins 7 = .ok (.ireturn, 1) := by decide +kernel
theorem dX8_queueLength_0 : decode cX8_queueLength 0 = .ok (.aload_n 0, 1) := by decide +kernel
theorem dX8_queueLength_1 : decode cX8_queueLength 1 = .ok (.getfield 31, 3) := by decide +kernel
theorem dX8_queueLength_4 : decode cX8_queueLength 4 = .ok (.iload_n 1, 1) := by decide +kernel
theorem dX8_queueLength_5 : decode cX8_queueLength 5 = .ok (.invokestatic 132, 3) := by decide +kernel
theorem dX8_queueLength_8 : decode cX8_queueLength 8 = .ok (.invokevirtual 229, 3) := by decide +kernel
theorem dX8_queueLength_11 : decode cX8_queueLength 11 = .ok (.getfield 233, 3) := by decide +kernel
theorem dX8_queueLength_14 : decode cX8_queueLength 14 = .ok (.ireturn, 1) := by decide +kernel
theorem dX8_queued_0 : decode cX8_queued 0 = .ok (.aload_n 0, 1) := by decide +kernel
theorem dX8_queued_1 : decode cX8_queued 1 = .ok (.getfield 31, 3) := by decide +kernel
theorem dX8_queued_4 : decode cX8_queued 4 = .ok (.iload_n 1, 1) := by decide +kernel
theorem dX8_queued_5 : decode cX8_queued 5 = .ok (.invokestatic 132, 3) := by decide +kernel
theorem dX8_queued_8 : decode cX8_queued 8 = .ok (.invokevirtual 229, 3) := by decide +kernel
theorem dX8_queued_11 : decode cX8_queued 11 = .ok (.iload_n 2, 1) := by decide +kernel
theorem dX8_queued_12 : decode cX8_queued 12 = .ok (.invokevirtual 238, 3) := by decide +kernel
theorem dX8_queued_15 : decode cX8_queued 15 = .ok (.ireturn, 1) := by decide +kernel
theorem dX8_offer_0 : decode cX8_offer 0 = .ok (.aload_n 0, 1) := by decide +kernel
theorem dX8_offer_1 : decode cX8_offer 1 = .ok (.iload_n 1, 1) := by decide +kernel
theorem dX8_offer_2 : decode cX8_offer 2 = .ok (.invokevirtual 148, 3) := by decide +kernel
theorem dX8_offer_5 : decode cX8_offer 5 = .ok (.aload_n 0, 1) := by decide +kernel
theorem dX8_offer_6 : decode cX8_offer 6 = .ok (.getfield 31, 3) := by decide +kernel
theorem dX8_offer_9 : decode cX8_offer 9 = .ok (.iload_n 1, 1) := by decide +kernel
theorem dX8_offer_10 : decode cX8_offer 10 = .ok (.invokevirtual 241, 3) := by decide +kernel
theorem dX8_offer_13 : decode cX8_offer 13 = .ok (.ireturn, 1) := by decide +kernel
theorem dX8_coinGap_0 : decode cX8_coinGap 0 = .ok (.aload_n 0, 1) := by decide +kernel
theorem dX8_coinGap_1 : decode cX8_coinGap 1 = .ok (.getfield 31, 3) := by decide +kernel
theorem dX8_coinGap_4 : decode cX8_coinGap 4 = .ok (.invokevirtual 279, 3) := by decide +kernel
theorem dX8_coinGap_7 : decode cX8_coinGap 7 = .ok (.aload_n 0, 1) := by decide +kernel
theorem dX8_coinGap_8 : decode cX8_coinGap 8 = .ok (.getfield 23, 3) := by decide +kernel
theorem dX8_coinGap_11 : decode cX8_coinGap 11 = .ok (.invokevirtual 282, 3) := by decide +kernel
theorem dX8_coinGap_14 : decode cX8_coinGap 14 = .ok (.isub, 1) := by decide +kernel
theorem dX8_coinGap_15 : decode cX8_coinGap 15 = .ok (.invokestatic 283, 3) := by decide +kernel
theorem dX8_coinGap_18 : decode cX8_coinGap 18 = .ok (.ireturn, 1) := by decide +kernel
theorem dX8_dropCoins_0 : decode cX8_dropCoins 0 = .ok (.aload_n 0, 1) := by decide +kernel
theorem dX8_dropCoins_1 : decode cX8_dropCoins 1 = .ok (.getstatic 286, 3) := by decide +kernel
theorem dX8_dropCoins_4 : decode cX8_dropCoins 4 = .ok (.iload_n 1, 1) := by decide +kernel
theorem dX8_dropCoins_5 : decode cX8_dropCoins 5 = .ok (.iload_n 2, 1) := by decide +kernel
theorem dX8_dropCoins_6 : decode cX8_dropCoins 6 = .ok (.invokevirtual 292, 3) := by decide +kernel
theorem dX8_dropCoins_9 : decode cX8_dropCoins 9 = .ok (.aload_n 0, 1) := by decide +kernel
theorem dX8_dropCoins_10 : decode cX8_dropCoins 10 = .ok (.getfield 31, 3) := by decide +kernel
theorem dX8_dropCoins_13 : decode cX8_dropCoins 13 = .ok (.iload_n 1, 1) := by decide +kernel
theorem dX8_dropCoins_14 : decode cX8_dropCoins 14 = .ok (.iload_n 2, 1) := by decide +kernel
theorem dX8_dropCoins_15 : decode cX8_dropCoins 15 = .ok (.invokevirtual 296, 3) := by decide +kernel
theorem dX8_dropCoins_18 : decode cX8_dropCoins 18 = .ok (.ireturn, 1) := by decide +kernel
theorem dX8_pickCoins_0 : decode cX8_pickCoins 0 = .ok (.aload_n 0, 1) := by decide +kernel
theorem dX8_pickCoins_1 : decode cX8_pickCoins 1 = .ok (.getstatic 299, 3) := by decide +kernel
theorem dX8_pickCoins_4 : decode cX8_pickCoins 4 = .ok (.iload_n 1, 1) := by decide +kernel
theorem dX8_pickCoins_5 : decode cX8_pickCoins 5 = .ok (.iload_n 2, 1) := by decide +kernel
theorem dX8_pickCoins_6 : decode cX8_pickCoins 6 = .ok (.invokevirtual 292, 3) := by decide +kernel
theorem dX8_pickCoins_9 : decode cX8_pickCoins 9 = .ok (.aload_n 0, 1) := by decide +kernel
theorem dX8_pickCoins_10 : decode cX8_pickCoins 10 = .ok (.getfield 31, 3) := by decide +kernel
theorem dX8_pickCoins_13 : decode cX8_pickCoins 13 = .ok (.iload_n 1, 1) := by decide +kernel
theorem dX8_pickCoins_14 : decode cX8_pickCoins 14 = .ok (.iload_n 2, 1) := by decide +kernel
theorem dX8_pickCoins_15 : decode cX8_pickCoins 15 = .ok (.invokevirtual 302, 3) := by decide +kernel
theorem dX8_pickCoins_18 : decode cX8_pickCoins 18 = .ok (.ireturn, 1) := by decide +kernel
theorem dX8_layRoyalCoin_0 : decode cX8_layRoyalCoin 0 = .ok (.aload_n 0, 1) := by decide +kernel
theorem dX8_layRoyalCoin_1 : decode cX8_layRoyalCoin 1 = .ok (.getstatic 305, 3) := by decide +kernel
theorem dX8_layRoyalCoin_4 : decode cX8_layRoyalCoin 4 = .ok (.iload_n 1, 1) := by decide +kernel
theorem dX8_layRoyalCoin_5 : decode cX8_layRoyalCoin 5 = .ok (.iload_n 2, 1) := by decide +kernel
theorem dX8_layRoyalCoin_6 : decode cX8_layRoyalCoin 6 = .ok (.invokevirtual 292, 3) := by decide +kernel
theorem dX8_layRoyalCoin_9 : decode cX8_layRoyalCoin 9 = .ok (.aload_n 0, 1) := by decide +kernel
theorem dX8_layRoyalCoin_10 : decode cX8_layRoyalCoin 10 = .ok (.getfield 31, 3) := by decide +kernel
theorem dX8_layRoyalCoin_13 : decode cX8_layRoyalCoin 13 = .ok (.iload_n 1, 1) := by decide +kernel
theorem dX8_layRoyalCoin_14 : decode cX8_layRoyalCoin 14 = .ok (.iload_n 2, 1) := by decide +kernel
theorem dX8_layRoyalCoin_15 : decode cX8_layRoyalCoin 15 = .ok (.invokevirtual 308, 3) := by decide +kernel
theorem dX8_layRoyalCoin_18 : decode cX8_layRoyalCoin 18 = .ok (.ireturn, 1) := by decide +kernel
theorem dX8_liftRoyalCoin_0 : decode cX8_liftRoyalCoin 0 = .ok (.aload_n 0, 1) := by decide +kernel
theorem dX8_liftRoyalCoin_1 : decode cX8_liftRoyalCoin 1 = .ok (.getstatic 311, 3) := by decide +kernel
theorem dX8_liftRoyalCoin_4 : decode cX8_liftRoyalCoin 4 = .ok (.iload_n 1, 1) := by decide +kernel
theorem dX8_liftRoyalCoin_5 : decode cX8_liftRoyalCoin 5 = .ok (.iload_n 2, 1) := by decide +kernel
theorem dX8_liftRoyalCoin_6 : decode cX8_liftRoyalCoin 6 = .ok (.invokevirtual 292, 3) := by decide +kernel
theorem dX8_liftRoyalCoin_9 : decode cX8_liftRoyalCoin 9 = .ok (.aload_n 0, 1) := by decide +kernel
theorem dX8_liftRoyalCoin_10 : decode cX8_liftRoyalCoin 10 = .ok (.getfield 31, 3) := by decide +kernel
theorem dX8_liftRoyalCoin_13 : decode cX8_liftRoyalCoin 13 = .ok (.iload_n 1, 1) := by decide +kernel
theorem dX8_liftRoyalCoin_14 : decode cX8_liftRoyalCoin 14 = .ok (.iload_n 2, 1) := by decide +kernel
theorem dX8_liftRoyalCoin_15 : decode cX8_liftRoyalCoin 15 = .ok (.invokevirtual 314, 3) := by decide +kernel
theorem dX8_liftRoyalCoin_18 : decode cX8_liftRoyalCoin 18 = .ok (.ireturn, 1) := by decide +kernel
theorem dX8_swapRags_0 : decode cX8_swapRags 0 = .ok (.aload_n 0, 1) := by decide +kernel
theorem dX8_swapRags_1 : decode cX8_swapRags 1 = .ok (.getstatic 317, 3) := by decide +kernel
theorem dX8_swapRags_4 : decode cX8_swapRags 4 = .ok (.iload_n 1, 1) := by decide +kernel
theorem dX8_swapRags_5 : decode cX8_swapRags 5 = .ok (.iload_n 2, 1) := by decide +kernel
theorem dX8_swapRags_6 : decode cX8_swapRags 6 = .ok (.invokevirtual 292, 3) := by decide +kernel
theorem dX8_swapRags_9 : decode cX8_swapRags 9 = .ok (.aload_n 0, 1) := by decide +kernel
theorem dX8_swapRags_10 : decode cX8_swapRags 10 = .ok (.getfield 31, 3) := by decide +kernel
theorem dX8_swapRags_13 : decode cX8_swapRags 13 = .ok (.iload_n 1, 1) := by decide +kernel
theorem dX8_swapRags_14 : decode cX8_swapRags 14 = .ok (.iload_n 2, 1) := by decide +kernel
theorem dX8_swapRags_15 : decode cX8_swapRags 15 = .ok (.invokevirtual 320, 3) := by decide +kernel
theorem dX8_swapRags_18 : decode cX8_swapRags 18 = .ok (.ireturn, 1) := by decide +kernel
theorem dX8_joinQueue_0 : decode cX8_joinQueue 0 = .ok (.aload_n 0, 1) := by decide +kernel
theorem dX8_joinQueue_1 : decode cX8_joinQueue 1 = .ok (.getstatic 323, 3) := by decide +kernel
theorem dX8_joinQueue_4 : decode cX8_joinQueue 4 = .ok (.iload_n 1, 1) := by decide +kernel
theorem dX8_joinQueue_5 : decode cX8_joinQueue 5 = .ok (.iload_n 2, 1) := by decide +kernel
theorem dX8_joinQueue_6 : decode cX8_joinQueue 6 = .ok (.invokevirtual 292, 3) := by decide +kernel
theorem dX8_joinQueue_9 : decode cX8_joinQueue 9 = .ok (.aload_n 0, 1) := by decide +kernel
theorem dX8_joinQueue_10 : decode cX8_joinQueue 10 = .ok (.getfield 31, 3) := by decide +kernel
theorem dX8_joinQueue_13 : decode cX8_joinQueue 13 = .ok (.iload_n 1, 1) := by decide +kernel
theorem dX8_joinQueue_14 : decode cX8_joinQueue 14 = .ok (.iload_n 2, 1) := by decide +kernel
theorem dX8_joinQueue_15 : decode cX8_joinQueue 15 = .ok (.invokevirtual 326, 3) := by decide +kernel
theorem dX8_joinQueue_18 : decode cX8_joinQueue 18 = .ok (.ireturn, 1) := by decide +kernel
theorem dX8_quitQueue_0 : decode cX8_quitQueue 0 = .ok (.aload_n 0, 1) := by decide +kernel
theorem dX8_quitQueue_1 : decode cX8_quitQueue 1 = .ok (.getstatic 329, 3) := by decide +kernel
theorem dX8_quitQueue_4 : decode cX8_quitQueue 4 = .ok (.iload_n 1, 1) := by decide +kernel
theorem dX8_quitQueue_5 : decode cX8_quitQueue 5 = .ok (.iconst 0, 1) := by decide +kernel
theorem dX8_quitQueue_6 : decode cX8_quitQueue 6 = .ok (.invokevirtual 292, 3) := by decide +kernel
theorem dX8_quitQueue_9 : decode cX8_quitQueue 9 = .ok (.aload_n 0, 1) := by decide +kernel
theorem dX8_quitQueue_10 : decode cX8_quitQueue 10 = .ok (.getfield 31, 3) := by decide +kernel
theorem dX8_quitQueue_13 : decode cX8_quitQueue 13 = .ok (.iload_n 1, 1) := by decide +kernel
theorem dX8_quitQueue_14 : decode cX8_quitQueue 14 = .ok (.invokevirtual 332, 3) := by decide +kernel
theorem dX8_quitQueue_17 : decode cX8_quitQueue 17 = .ok (.ireturn, 1) := by decide +kernel
theorem dX8_setPride_0 : decode cX8_setPride 0 = .ok (.aload_n 0, 1) := by decide +kernel
theorem dX8_setPride_1 : decode cX8_setPride 1 = .ok (.getstatic 335, 3) := by decide +kernel
theorem dX8_setPride_4 : decode cX8_setPride 4 = .ok (.iload_n 1, 1) := by decide +kernel
theorem dX8_setPride_5 : decode cX8_setPride 5 = .ok (.iload_n 2, 1) := by decide +kernel
theorem dX8_setPride_6 : decode cX8_setPride 6 = .ok (.invokevirtual 292, 3) := by decide +kernel
theorem dX8_setPride_9 : decode cX8_setPride 9 = .ok (.aload_n 0, 1) := by decide +kernel
theorem dX8_setPride_10 : decode cX8_setPride 10 = .ok (.getfield 31, 3) := by decide +kernel
theorem dX8_setPride_13 : decode cX8_setPride 13 = .ok (.iload_n 1, 1) := by decide +kernel
theorem dX8_setPride_14 : decode cX8_setPride 14 = .ok (.iload_n 2, 1) := by decide +kernel
theorem dX8_setPride_15 : decode cX8_setPride 15 = .ok (.invokevirtual 338, 3) := by decide +kernel
theorem dX8_setPride_18 : decode cX8_setPride 18 = .ok (.ireturn, 1) := by decide +kernel
theorem dX8_passTurns_0 : decode cX8_passTurns 0 = .ok (.aload_n 0, 1) := by decide +kernel
theorem dX8_passTurns_1 : decode cX8_passTurns 1 = .ok (.getstatic 341, 3) := by decide +kernel
theorem dX8_passTurns_4 : decode cX8_passTurns 4 = .ok (.iload_n 1, 1) := by decide +kernel
theorem dX8_passTurns_5 : decode cX8_passTurns 5 = .ok (.iconst 0, 1) := by decide +kernel
theorem dX8_passTurns_6 : decode cX8_passTurns 6 = .ok (.invokevirtual 292, 3) := by decide +kernel
theorem dX8_passTurns_9 : decode cX8_passTurns 9 = .ok (.aload_n 0, 1) := by decide +kernel
theorem dX8_passTurns_10 : decode cX8_passTurns 10 = .ok (.getfield 31, 3) := by decide +kernel
theorem dX8_passTurns_13 : decode cX8_passTurns 13 = .ok (.iload_n 1, 1) := by decide +kernel
theorem dX8_passTurns_14 : decode cX8_passTurns 14 = .ok (.invokevirtual 344, 3) := by decide +kernel
theorem dX8_passTurns_17 : decode cX8_passTurns 17 = .ok (.ireturn, 1) := by decide +kernel
theorem dX8_requirePerson_0 : decode cX8_requirePerson 0 = .ok (.aload_n 0, 1) := by decide +kernel
theorem dX8_requirePerson_1 : decode cX8_requirePerson 1 = .ok (.getfield 23, 3) := by decide +kernel
theorem dX8_requirePerson_4 : decode cX8_requirePerson 4 = .ok (.iload_n 1, 1) := by decide +kernel
theorem dX8_requirePerson_5 : decode cX8_requirePerson 5 = .ok (.invokevirtual 385, 3) := by decide +kernel
theorem dX8_requirePerson_8 : decode cX8_requirePerson 8 = .ok (.ifCond .ne 14, 3) := by decide +kernel
theorem dX8_requirePerson_11 : decode cX8_requirePerson 11 = .ok (.new 247, 3) := by decide +kernel
theorem dX8_requirePerson_14 : decode cX8_requirePerson 14 = .ok (.dup, 1) := by decide +kernel
theorem dX8_requirePerson_15 : decode cX8_requirePerson 15 = .ok (.ldc_w 388, 3) := by decide +kernel
theorem dX8_requirePerson_18 : decode cX8_requirePerson 18 = .ok (.invokespecial 251, 3) := by decide +kernel
theorem dX8_requirePerson_21 : decode cX8_requirePerson 21 = .ok (.athrow, 1) := by decide +kernel
theorem dX8_requirePerson_22 : decode cX8_requirePerson 22 = .ok (.return_, 1) := by decide +kernel
theorem dX8_requireKing_0 : decode cX8_requireKing 0 = .ok (.aload_n 0, 1) := by decide +kernel
theorem dX8_requireKing_1 : decode cX8_requireKing 1 = .ok (.iload_n 1, 1) := by decide +kernel
theorem dX8_requireKing_2 : decode cX8_requireKing 2 = .ok (.invokevirtual 148, 3) := by decide +kernel
theorem dX8_requireKing_5 : decode cX8_requireKing 5 = .ok (.aload_n 0, 1) := by decide +kernel
theorem dX8_requireKing_6 : decode cX8_requireKing 6 = .ok (.getfield 23, 3) := by decide +kernel
theorem dX8_requireKing_9 : decode cX8_requireKing 9 = .ok (.iload_n 1, 1) := by decide +kernel
theorem dX8_requireKing_10 : decode cX8_requireKing 10 = .ok (.invokevirtual 151, 3) := by decide +kernel
theorem dX8_requireKing_13 : decode cX8_requireKing 13 = .ok (.ifCond .ne 14, 3) := by decide +kernel
theorem dX8_requireKing_16 : decode cX8_requireKing 16 = .ok (.new 179, 3) := by decide +kernel
theorem dX8_requireKing_19 : decode cX8_requireKing 19 = .ok (.dup, 1) := by decide +kernel
theorem dX8_requireKing_20 : decode cX8_requireKing 20 = .ok (.ldc_w 390, 3) := by decide +kernel
theorem dX8_requireKing_23 : decode cX8_requireKing 23 = .ok (.invokespecial 183, 3) := by decide +kernel
theorem dX8_requireKing_26 : decode cX8_requireKing 26 = .ok (.athrow, 1) := by decide +kernel
theorem dX8_requireKing_27 : decode cX8_requireKing 27 = .ok (.return_, 1) := by decide +kernel
theorem dX8_requireLength_0 : decode cX8_requireLength 0 = .ok (.iload_n 1, 1) := by decide +kernel
theorem dX8_requireLength_1 : decode cX8_requireLength 1 = .ok (.ifCond .lt 14, 3) := by decide +kernel
theorem dX8_requireLength_4 : decode cX8_requireLength 4 = .ok (.iload_n 1, 1) := by decide +kernel
theorem dX8_requireLength_5 : decode cX8_requireLength 5 = .ok (.aload_n 0, 1) := by decide +kernel
theorem dX8_requireLength_6 : decode cX8_requireLength 6 = .ok (.getfield 10, 3) := by decide +kernel
theorem dX8_requireLength_9 : decode cX8_requireLength 9 = .ok (.getfield 73, 3) := by decide +kernel
theorem dX8_requireLength_12 : decode cX8_requireLength 12 = .ok (.if_icmp .le 14, 3) := by decide +kernel
theorem dX8_requireLength_15 : decode cX8_requireLength 15 = .ok (.new 179, 3) := by decide +kernel
theorem dX8_requireLength_18 : decode cX8_requireLength 18 = .ok (.dup, 1) := by decide +kernel
theorem dX8_requireLength_19 : decode cX8_requireLength 19 = .ok (.ldc_w 392, 3) := by decide +kernel
theorem dX8_requireLength_22 : decode cX8_requireLength 22 = .ok (.invokespecial 183, 3) := by decide +kernel
theorem dX8_requireLength_25 : decode cX8_requireLength 25 = .ok (.athrow, 1) := by decide +kernel
theorem dX8_requireLength_26 : decode cX8_requireLength 26 = .ok (.return_, 1) := by decide +kernel
theorem dX8_allow_0 : decode cX8_allow 0 = .ok (.aload_n 0, 1) := by decide +kernel
theorem dX8_allow_1 : decode cX8_allow 1 = .ok (.getfield 31, 3) := by decide +kernel
theorem dX8_allow_4 : decode cX8_allow 4 = .ok (.aload_n 1, 1) := by decide +kernel
theorem dX8_allow_5 : decode cX8_allow 5 = .ok (.iload_n 2, 1) := by decide +kernel
theorem dX8_allow_6 : decode cX8_allow 6 = .ok (.iload_n 3, 1) := by decide +kernel
theorem dX8_allow_7 : decode cX8_allow 7 = .ok (.invokevirtual 396, 3) := by decide +kernel
theorem dX8_allow_10 : decode cX8_allow 10 = .ok (.istore 4, 2) := by decide +kernel
theorem dX8_allow_12 : decode cX8_allow 12 = .ok (.iload 4, 2) := by decide +kernel
theorem dX8_allow_14 : decode cX8_allow 14 = .ok (.iconst 1, 1) := by decide +kernel
theorem dX8_allow_15 : decode cX8_allow 15 = .ok (.if_icmp .ne 14, 3) := by decide +kernel
theorem dX8_allow_18 : decode cX8_allow 18 = .ok (.new 247, 3) := by decide +kernel
theorem dX8_allow_21 : decode cX8_allow 21 = .ok (.dup, 1) := by decide +kernel
theorem dX8_allow_22 : decode cX8_allow 22 = .ok (.ldc_w 388, 3) := by decide +kernel
theorem dX8_allow_25 : decode cX8_allow 25 = .ok (.invokespecial 251, 3) := by decide +kernel
theorem dX8_allow_28 : decode cX8_allow 28 = .ok (.athrow, 1) := by decide +kernel
theorem dX8_allow_29 : decode cX8_allow 29 = .ok (.iload 4, 2) := by decide +kernel
theorem dX8_allow_31 : decode cX8_allow 31 = .ok (.iconst 2, 1) := by decide +kernel
theorem dX8_allow_32 : decode cX8_allow 32 = .ok (.if_icmp .ne 14, 3) := by decide +kernel
theorem dX8_allow_35 : decode cX8_allow 35 = .ok (.new 179, 3) := by decide +kernel
theorem dX8_allow_38 : decode cX8_allow 38 = .ok (.dup, 1) := by decide +kernel
theorem dX8_allow_39 : decode cX8_allow 39 = .ok (.ldc_w 400, 3) := by decide +kernel
theorem dX8_allow_42 : decode cX8_allow 42 = .ok (.invokespecial 183, 3) := by decide +kernel
theorem dX8_allow_45 : decode cX8_allow 45 = .ok (.athrow, 1) := by decide +kernel
theorem dX8_allow_46 : decode cX8_allow 46 = .ok (.iload 4, 2) := by decide +kernel
theorem dX8_allow_48 : decode cX8_allow 48 = .ok (.iconst 3, 1) := by decide +kernel
theorem dX8_allow_49 : decode cX8_allow 49 = .ok (.if_icmp .ne 14, 3) := by decide +kernel
theorem dX8_allow_52 : decode cX8_allow 52 = .ok (.new 375, 3) := by decide +kernel
theorem dX8_allow_55 : decode cX8_allow 55 = .ok (.dup, 1) := by decide +kernel
theorem dX8_allow_56 : decode cX8_allow 56 = .ok (.ldc_w 402, 3) := by decide +kernel
theorem dX8_allow_59 : decode cX8_allow 59 = .ok (.invokespecial 379, 3) := by decide +kernel
theorem dX8_allow_62 : decode cX8_allow 62 = .ok (.athrow, 1) := by decide +kernel
theorem dX8_allow_63 : decode cX8_allow 63 = .ok (.aload_n 0, 1) := by decide +kernel
theorem dX8_allow_64 : decode cX8_allow 64 = .ok (.getfield 44, 3) := by decide +kernel
theorem dX8_allow_67 : decode cX8_allow 67 = .ok (.aload_n 0, 1) := by decide +kernel
theorem dX8_allow_68 : decode cX8_allow 68 = .ok (.getfield 31, 3) := by decide +kernel
theorem dX8_allow_71 : decode cX8_allow 71 = .ok (.invokevirtual 351, 3) := by decide +kernel
theorem dX8_allow_74 : decode cX8_allow 74 = .ok (.return_, 1) := by decide +kernel
theorem dX8_bankOf_0 : decode cX8_bankOf 0 = .ok (.iload_n 0, 1) := by decide +kernel
theorem dX8_bankOf_1 : decode cX8_bankOf 1 = .ok (.ifCond .eq 7, 3) := by decide +kernel
theorem dX8_bankOf_4 : decode cX8_bankOf 4 = .ok (.iconst 1, 1) := by decide +kernel
theorem dX8_bankOf_5 : decode cX8_bankOf 5 = .ok (.goto 4, 3) := by decide +kernel
theorem dX8_bankOf_8 : decode cX8_bankOf 8 = .ok (.iconst 0, 1) := by decide +kernel
theorem dX8_bankOf_9 : decode cX8_bankOf 9 = .ok (.ireturn, 1) := by decide +kernel
theorem dX8_at_0 : decode cX8_at 0 = .ok (.iload_n 1, 1) := by decide +kernel
theorem dX8_at_1 : decode cX8_at 1 = .ok (.ifCond .lt 15, 3) := by decide +kernel
theorem dX8_at_4 : decode cX8_at 4 = .ok (.iload_n 1, 1) := by decide +kernel
theorem dX8_at_5 : decode cX8_at 5 = .ok (.aload_n 0, 1) := by decide +kernel
theorem dX8_at_6 : decode cX8_at 6 = .ok (.arraylength, 1) := by decide +kernel
theorem dX8_at_7 : decode cX8_at 7 = .ok (.if_icmp .ge 9, 3) := by decide +kernel
theorem dX8_at_10 : decode cX8_at 10 = .ok (.aload_n 0, 1) := by decide +kernel
theorem dX8_at_11 : decode cX8_at 11 = .ok (.iload_n 1, 1) := by decide +kernel
theorem dX8_at_12 : decode cX8_at 12 = .ok (.iaload, 1) := by decide +kernel
theorem dX8_at_13 : decode cX8_at 13 = .ok (.goto 4, 3) := by decide +kernel
theorem dX8_at_16 : decode cX8_at 16 = .ok (.iconst 0, 1) := by decide +kernel
theorem dX8_at_17 : decode cX8_at 17 = .ok (.ireturn, 1) := by decide +kernel
theorem dX8_put_0 : decode cX8_put 0 = .ok (.iload_n 1, 1) := by decide +kernel
theorem dX8_put_1 : decode cX8_put 1 = .ok (.ifCond .lt 13, 3) := by decide +kernel
theorem dX8_put_4 : decode cX8_put 4 = .ok (.iload_n 1, 1) := by decide +kernel
theorem dX8_put_5 : decode cX8_put 5 = .ok (.aload_n 0, 1) := by decide +kernel
theorem dX8_put_6 : decode cX8_put 6 = .ok (.arraylength, 1) := by decide +kernel
theorem dX8_put_7 : decode cX8_put 7 = .ok (.if_icmp .ge 7, 3) := by decide +kernel
theorem dX8_put_10 : decode cX8_put 10 = .ok (.aload_n 0, 1) := by decide +kernel
theorem dX8_put_11 : decode cX8_put 11 = .ok (.iload_n 1, 1) := by decide +kernel
theorem dX8_put_12 : decode cX8_put 12 = .ok (.iload_n 2, 1) := by decide +kernel
theorem dX8_put_13 : decode cX8_put 13 = .ok (.iastore, 1) := by decide +kernel
theorem dX8_put_14 : decode cX8_put 14 = .ok (.return_, 1) := by decide +kernel
theorem dX8_add_0 : decode cX8_add 0 = .ok (.aload_n 0, 1) := by decide +kernel
theorem dX8_add_1 : decode cX8_add 1 = .ok (.iload_n 1, 1) := by decide +kernel
theorem dX8_add_2 : decode cX8_add 2 = .ok (.aload_n 0, 1) := by decide +kernel
theorem dX8_add_3 : decode cX8_add 3 = .ok (.iload_n 1, 1) := by decide +kernel
theorem dX8_add_4 : decode cX8_add 4 = .ok (.invokestatic 136, 3) := by decide +kernel
theorem dX8_add_7 : decode cX8_add 7 = .ok (.iload_n 2, 1) := by decide +kernel
theorem dX8_add_8 : decode cX8_add 8 = .ok (.iadd, 1) := by decide +kernel
theorem dX8_add_9 : decode cX8_add 9 = .ok (.invokestatic 404, 3) := by decide +kernel
theorem dX8_add_12 : decode cX8_add 12 = .ok (.return_, 1) := by decide +kernel
theorem dX8_copyRow_0 : decode cX8_copyRow 0 = .ok (.aload_n 0, 1) := by decide +kernel
theorem dX8_copyRow_1 : decode cX8_copyRow 1 = .ok (.iconst 0, 1) := by decide +kernel
theorem dX8_copyRow_2 : decode cX8_copyRow 2 = .ok (.aload_n 1, 1) := by decide +kernel
theorem dX8_copyRow_3 : decode cX8_copyRow 3 = .ok (.iconst 0, 1) := by decide +kernel
theorem dX8_copyRow_4 : decode cX8_copyRow 4 = .ok (.aload_n 0, 1) := by decide +kernel
theorem dX8_copyRow_5 : decode cX8_copyRow 5 = .ok (.arraylength, 1) := by decide +kernel
theorem dX8_copyRow_6 : decode cX8_copyRow 6 = .ok (.aload_n 1, 1) := by decide +kernel
theorem dX8_copyRow_7 : decode cX8_copyRow 7 = .ok (.arraylength, 1) := by decide +kernel
theorem dX8_copyRow_8 : decode cX8_copyRow 8 = .ok (.invokestatic 408, 3) := by decide +kernel
theorem dX8_copyRow_11 : decode cX8_copyRow 11 = .ok (.invokestatic 411, 3) := by decide +kernel
theorem dX8_copyRow_14 : decode cX8_copyRow 14 = .ok (.return_, 1) := by decide +kernel
theorem dX8_readHeader_0 : decode cX8_readHeader 0 = .ok (.aload_n 0, 1) := by decide +kernel
theorem dX8_readHeader_1 : decode cX8_readHeader 1 = .ok (.ldc_w 417, 3) := by decide +kernel
theorem dX8_readHeader_4 : decode cX8_readHeader 4 = .ok (.invokevirtual 419, 3) := by decide +kernel
theorem dX8_readHeader_7 : decode cX8_readHeader 7 = .ok (.aload_n 0, 1) := by decide +kernel
theorem dX8_readHeader_8 : decode cX8_readHeader 8 = .ok (.iconst 0, 1) := by decide +kernel
theorem dX8_readHeader_9 : decode cX8_readHeader 9 = .ok (.bipush 90, 2) := by decide +kernel
theorem dX8_readHeader_11 : decode cX8_readHeader 11 = .ok (.invokevirtual 422, 3) := by decide +kernel
theorem dX8_readHeader_14 : decode cX8_readHeader 14 = .ok (.istore_n 2, 1) := by decide +kernel
theorem dX8_readHeader_15 : decode cX8_readHeader 15 = .ok (.aload_n 0, 1) := by decide +kernel
theorem dX8_readHeader_16 : decode cX8_readHeader 16 = .ok (.iconst 0, 1) := by decide +kernel
theorem dX8_readHeader_17 : decode cX8_readHeader 17 = .ok (.bipush 9, 2) := by decide +kernel
theorem dX8_readHeader_19 : decode cX8_readHeader 19 = .ok (.invokevirtual 422, 3) := by decide +kernel
theorem dX8_readHeader_22 : decode cX8_readHeader 22 = .ok (.istore_n 3, 1) := by decide +kernel
theorem dX8_readHeader_23 : decode cX8_readHeader 23 = .ok (.aload_n 0, 1) := by decide +kernel
theorem dX8_readHeader_24 : decode cX8_readHeader 24 = .ok (.iconst 0, 1) := by decide +kernel
theorem dX8_readHeader_25 : decode cX8_readHeader 25 = .ok (.bipush 99, 2) := by decide +kernel
theorem dX8_readHeader_27 : decode cX8_readHeader 27 = .ok (.invokevirtual 422, 3) := by decide +kernel
theorem dX8_readHeader_30 : decode cX8_readHeader 30 = .ok (.istore 4, 2) := by decide +kernel
theorem dX8_readHeader_32 : decode cX8_readHeader 32 = .ok (.aload_n 0, 1) := by decide +kernel
theorem dX8_readHeader_33 : decode cX8_readHeader 33 = .ok (.iconst 0, 1) := by decide +kernel
theorem dX8_readHeader_34 : decode cX8_readHeader 34 = .ok (.bipush 99, 2) := by decide +kernel
theorem dX8_readHeader_36 : decode cX8_readHeader 36 = .ok (.invokevirtual 422, 3) := by decide +kernel
theorem dX8_readHeader_39 : decode cX8_readHeader 39 = .ok (.istore 5, 2) := by decide +kernel
theorem dX8_readHeader_41 : decode cX8_readHeader 41 = .ok (.aload_n 0, 1) := by decide +kernel
theorem dX8_readHeader_42 : decode cX8_readHeader 42 = .ok (.invokevirtual 425, 3) := by decide +kernel
theorem dX8_readHeader_45 : decode cX8_readHeader 45 = .ok (.aload_n 1, 1) := by decide +kernel
theorem dX8_readHeader_46 : decode cX8_readHeader 46 = .ok (.iload_n 2, 1) := by decide +kernel
theorem dX8_readHeader_47 : decode cX8_readHeader 47 = .ok (.iload_n 3, 1) := by decide +kernel
theorem dX8_readHeader_48 : decode cX8_readHeader 48 = .ok (.iload 4, 2) := by decide +kernel
theorem dX8_readHeader_50 : decode cX8_readHeader 50 = .ok (.iload 5, 2) := by decide +kernel
theorem dX8_readHeader_52 : decode cX8_readHeader 52 = .ok (.invokevirtual 59, 3) := by decide +kernel
theorem dX8_readHeader_55 : decode cX8_readHeader 55 = .ok (.return_, 1) := by decide +kernel
theorem dX8_readPeople_0 : decode cX8_readPeople 0 = .ok (.iconst 0, 1) := by decide +kernel
theorem dX8_readPeople_1 : decode cX8_readPeople 1 = .ok (.istore_n 2, 1) := by decide +kernel
theorem dX8_readPeople_2 : decode cX8_readPeople 2 = .ok (.iload_n 2, 1) := by decide +kernel
theorem dX8_readPeople_3 : decode cX8_readPeople 3 = .ok (.bipush 10, 2) := by decide +kernel
theorem dX8_readPeople_5 : decode cX8_readPeople 5 = .ok (.if_icmp .gt 35, 3) := by decide +kernel
theorem dX8_readPeople_8 : decode cX8_readPeople 8 = .ok (.aload_n 0, 1) := by decide +kernel
theorem dX8_readPeople_9 : decode cX8_readPeople 9 = .ok (.invokestatic 428, 3) := by decide +kernel
theorem dX8_readPeople_12 : decode cX8_readPeople 12 = .ok (.ifCond .eq 28, 3) := by decide +kernel
theorem dX8_readPeople_15 : decode cX8_readPeople 15 = .ok (.iload_n 2, 1) := by decide +kernel
theorem dX8_readPeople_16 : decode cX8_readPeople 16 = .ok (.bipush 10, 2) := by decide +kernel
theorem dX8_readPeople_18 : decode cX8_readPeople 18 = .ok (.if_icmp .ne 11, 3) := by decide +kernel
theorem dX8_readPeople_21 : decode cX8_readPeople 21 = .ok (.aload_n 0, 1) := by decide +kernel
theorem dX8_readPeople_22 : decode cX8_readPeople 22 = .ok (.iconst 3, 1) := by decide +kernel
theorem dX8_readPeople_23 : decode cX8_readPeople 23 = .ok (.invokevirtual 432, 3) := by decide +kernel
theorem dX8_readPeople_26 : decode cX8_readPeople 26 = .ok (.goto 8, 3) := by decide +kernel
theorem dX8_readPeople_29 : decode cX8_readPeople 29 = .ok (.aload_n 0, 1) := by decide +kernel
theorem dX8_readPeople_30 : decode cX8_readPeople 30 = .ok (.aload_n 1, 1) := by decide +kernel
theorem dX8_readPeople_31 : decode cX8_readPeople 31 = .ok (.invokestatic 435, 3) := by decide +kernel
theorem dX8_readPeople_34 : decode cX8_readPeople 34 = .ok (.iinc 2 1, 3) := by decide +kernel
theorem dX8_readPeople_37 : decode cX8_readPeople 37 = .ok (.goto (-35), 3) := by decide +kernel
theorem dX8_readPeople_40 : decode cX8_readPeople 40 = .ok (.aload_n 1, 1) := by decide +kernel
theorem dX8_readPeople_41 : decode cX8_readPeople 41 = .ok (.getfield 111, 3) := by decide +kernel
theorem dX8_readPeople_44 : decode cX8_readPeople 44 = .ok (.iconst 3, 1) := by decide +kernel
theorem dX8_readPeople_45 : decode cX8_readPeople 45 = .ok (.if_icmp .ge 8, 3) := by decide +kernel
theorem dX8_readPeople_48 : decode cX8_readPeople 48 = .ok (.aload_n 0, 1) := by decide +kernel
theorem dX8_readPeople_49 : decode cX8_readPeople 49 = .ok (.iconst 1, 1) := by decide +kernel
theorem dX8_readPeople_50 : decode cX8_readPeople 50 = .ok (.invokevirtual 432, 3) := by decide +kernel
theorem dX8_readPeople_53 : decode cX8_readPeople 53 = .ok (.return_, 1) := by decide +kernel
theorem dX8_isAtPerson_0 : decode cX8_isAtPerson 0 = .ok (.aload_n 0, 1) := by decide +kernel
theorem dX8_isAtPerson_1 : decode cX8_isAtPerson 1 = .ok (.ldc_w 438, 3) := by decide +kernel
theorem dX8_isAtPerson_4 : decode cX8_isAtPerson 4 = .ok (.invokevirtual 440, 3) := by decide +kernel
theorem dX8_isAtPerson_7 : decode cX8_isAtPerson 7 = .ok (.ifCond .ne 13, 3) := by decide +kernel
theorem dX8_isAtPerson_10 : decode cX8_isAtPerson 10 = .ok (.aload_n 0, 1) := by decide +kernel
theorem dX8_isAtPerson_11 : decode cX8_isAtPerson 11 = .ok (.ldc_w 444, 3) := by decide +kernel
theorem dX8_isAtPerson_14 : decode cX8_isAtPerson 14 = .ok (.invokevirtual 440, 3) := by decide +kernel
theorem dX8_isAtPerson_17 : decode cX8_isAtPerson 17 = .ok (.ifCond .eq 7, 3) := by decide +kernel
theorem dX8_isAtPerson_20 : decode cX8_isAtPerson 20 = .ok (.iconst 1, 1) := by decide +kernel
theorem dX8_isAtPerson_21 : decode cX8_isAtPerson 21 = .ok (.goto 4, 3) := by decide +kernel
theorem dX8_isAtPerson_24 : decode cX8_isAtPerson 24 = .ok (.iconst 0, 1) := by decide +kernel
theorem dX8_isAtPerson_25 : decode cX8_isAtPerson 25 = .ok (.ireturn, 1) := by decide +kernel
theorem dX8_readPerson_0 : decode cX8_readPerson 0 = .ok (.aload_n 0, 1) := by decide +kernel
theorem dX8_readPerson_1 : decode cX8_readPerson 1 = .ok (.ldc_w 444, 3) := by decide +kernel
theorem dX8_readPerson_4 : decode cX8_readPerson 4 = .ok (.ldc_w 438, 3) := by decide +kernel
theorem dX8_readPerson_7 : decode cX8_readPerson 7 = .ok (.invokevirtual 446, 3) := by decide +kernel
theorem dX8_readPerson_10 : decode cX8_readPerson 10 = .ok (.istore_n 2, 1) := by decide +kernel
theorem dX8_readPerson_11 : decode cX8_readPerson 11 = .ok (.aload_n 0, 1) := by decide +kernel
theorem dX8_readPerson_12 : decode cX8_readPerson 12 = .ok (.ldc_w 450, 3) := by decide +kernel
theorem dX8_readPerson_15 : decode cX8_readPerson 15 = .ok (.ldc_w 452, 3) := by decide +kernel
theorem dX8_readPerson_18 : decode cX8_readPerson 18 = .ok (.invokevirtual 446, 3) := by decide +kernel
theorem dX8_readPerson_21 : decode cX8_readPerson 21 = .ok (.istore_n 3, 1) := by decide +kernel
theorem dX8_readPerson_22 : decode cX8_readPerson 22 = .ok (.aload_n 0, 1) := by decide +kernel
theorem dX8_readPerson_23 : decode cX8_readPerson 23 = .ok (.iconst 0, 1) := by decide +kernel
theorem dX8_readPerson_24 : decode cX8_readPerson 24 = .ok (.sipush 999, 3) := by decide +kernel
theorem dX8_readPerson_27 : decode cX8_readPerson 27 = .ok (.invokevirtual 422, 3) := by decide +kernel
theorem dX8_readPerson_30 : decode cX8_readPerson 30 = .ok (.istore 4, 2) := by decide +kernel
theorem dX8_readPerson_32 : decode cX8_readPerson 32 = .ok (.aload_n 0, 1) := by decide +kernel
theorem dX8_readPerson_33 : decode cX8_readPerson 33 = .ok (.iconst 0, 1) := by decide +kernel
theorem dX8_readPerson_34 : decode cX8_readPerson 34 = .ok (.bipush 40, 2) := by decide +kernel
theorem dX8_readPerson_36 : decode cX8_readPerson 36 = .ok (.invokevirtual 422, 3) := by decide +kernel
theorem dX8_readPerson_39 : decode cX8_readPerson 39 = .ok (.istore 5, 2) := by decide +kernel
theorem dX8_readPerson_41 : decode cX8_readPerson 41 = .ok (.aload_n 0, 1) := by decide +kernel
theorem dX8_readPerson_42 : decode cX8_readPerson 42 = .ok (.iconst 0, 1) := by decide +kernel
theorem dX8_readPerson_43 : decode cX8_readPerson 43 = .ok (.bipush 50, 2) := by decide +kernel
theorem dX8_readPerson_45 : decode cX8_readPerson 45 = .ok (.invokevirtual 422, 3) := by decide +kernel
theorem dX8_readPerson_48 : decode cX8_readPerson 48 = .ok (.istore 6, 2) := by decide +kernel
theorem dX8_readPerson_50 : decode cX8_readPerson 50 = .ok (.aload_n 0, 1) := by decide +kernel
theorem dX8_readPerson_51 : decode cX8_readPerson 51 = .ok (.invokevirtual 425, 3) := by decide +kernel
theorem dX8_readPerson_54 : decode cX8_readPerson 54 = .ok (.aload_n 1, 1) := by decide +kernel
theorem dX8_readPerson_55 : decode cX8_readPerson 55 = .ok (.iload_n 2, 1) := by decide +kernel
theorem dX8_readPerson_56 : decode cX8_readPerson 56 = .ok (.iload_n 3, 1) := by decide +kernel
theorem dX8_readPerson_57 : decode cX8_readPerson 57 = .ok (.iload 4, 2) := by decide +kernel
theorem dX8_readPerson_59 : decode cX8_readPerson 59 = .ok (.iload 5, 2) := by decide +kernel
theorem dX8_readPerson_61 : decode cX8_readPerson 61 = .ok (.iload 6, 2) := by decide +kernel
theorem dX8_readPerson_63 : decode cX8_readPerson 63 = .ok (.invokevirtual 63, 3) := by decide +kernel
theorem dX8_readPerson_66 : decode cX8_readPerson 66 = .ok (.return_, 1) := by decide +kernel
theorem dX8_readBridges_0 : decode cX8_readBridges 0 = .ok (.iconst 0, 1) := by decide +kernel
theorem dX8_readBridges_1 : decode cX8_readBridges 1 = .ok (.istore_n 2, 1) := by decide +kernel
theorem dX8_readBridges_2 : decode cX8_readBridges 2 = .ok (.iload_n 2, 1) := by decide +kernel
theorem dX8_readBridges_3 : decode cX8_readBridges 3 = .ok (.iconst 4, 1) := by decide +kernel
theorem dX8_readBridges_4 : decode cX8_readBridges 4 = .ok (.if_icmp .gt 37, 3) := by decide +kernel
theorem dX8_readBridges_7 : decode cX8_readBridges 7 = .ok (.aload_n 0, 1) := by decide +kernel
theorem dX8_readBridges_8 : decode cX8_readBridges 8 = .ok (.ldc_w 454, 3) := by decide +kernel
theorem dX8_readBridges_11 : decode cX8_readBridges 11 = .ok (.invokevirtual 440, 3) := by decide +kernel
theorem dX8_readBridges_14 : decode cX8_readBridges 14 = .ok (.ifCond .eq 27, 3) := by decide +kernel
theorem dX8_readBridges_17 : decode cX8_readBridges 17 = .ok (.iload_n 2, 1) := by decide +kernel
theorem dX8_readBridges_18 : decode cX8_readBridges 18 = .ok (.iconst 4, 1) := by decide +kernel
theorem dX8_readBridges_19 : decode cX8_readBridges 19 = .ok (.if_icmp .ne 11, 3) := by decide +kernel
theorem dX8_readBridges_22 : decode cX8_readBridges 22 = .ok (.aload_n 0, 1) := by decide +kernel
theorem dX8_readBridges_23 : decode cX8_readBridges 23 = .ok (.iconst 3, 1) := by decide +kernel
theorem dX8_readBridges_24 : decode cX8_readBridges 24 = .ok (.invokevirtual 432, 3) := by decide +kernel
theorem dX8_readBridges_27 : decode cX8_readBridges 27 = .ok (.goto 8, 3) := by decide +kernel
theorem dX8_readBridges_30 : decode cX8_readBridges 30 = .ok (.aload_n 0, 1) := by decide +kernel
theorem dX8_readBridges_31 : decode cX8_readBridges 31 = .ok (.aload_n 1, 1) := by decide +kernel
theorem dX8_readBridges_32 : decode cX8_readBridges 32 = .ok (.invokestatic 456, 3) := by decide +kernel
theorem dX8_readBridges_35 : decode cX8_readBridges 35 = .ok (.iinc 2 1, 3) := by decide +kernel
theorem dX8_readBridges_38 : decode cX8_readBridges 38 = .ok (.goto (-36), 3) := by decide +kernel
theorem dX8_readBridges_41 : decode cX8_readBridges 41 = .ok (.aload_n 1, 1) := by decide +kernel
theorem dX8_readBridges_42 : decode cX8_readBridges 42 = .ok (.getfield 244, 3) := by decide +kernel
theorem dX8_readBridges_45 : decode cX8_readBridges 45 = .ok (.ifCond .eq 10, 3) := by decide +kernel
theorem dX8_readBridges_48 : decode cX8_readBridges 48 = .ok (.aload_n 0, 1) := by decide +kernel
theorem dX8_readBridges_49 : decode cX8_readBridges 49 = .ok (.invokevirtual 459, 3) := by decide +kernel
theorem dX8_readBridges_52 : decode cX8_readBridges 52 = .ok (.ifCond .ne 8, 3) := by decide +kernel
theorem dX8_readBridges_55 : decode cX8_readBridges 55 = .ok (.aload_n 0, 1) := by decide +kernel
theorem dX8_readBridges_56 : decode cX8_readBridges 56 = .ok (.iconst 1, 1) := by decide +kernel
theorem dX8_readBridges_57 : decode cX8_readBridges 57 = .ok (.invokevirtual 432, 3) := by decide +kernel
theorem dX8_readBridges_60 : decode cX8_readBridges 60 = .ok (.return_, 1) := by decide +kernel
theorem dX8_readBridge_0 : decode cX8_readBridge 0 = .ok (.aload_n 0, 1) := by decide +kernel
theorem dX8_readBridge_1 : decode cX8_readBridge 1 = .ok (.ldc_w 454, 3) := by decide +kernel
theorem dX8_readBridge_4 : decode cX8_readBridge 4 = .ok (.invokevirtual 419, 3) := by decide +kernel
theorem dX8_readBridge_7 : decode cX8_readBridge 7 = .ok (.aload_n 0, 1) := by decide +kernel
theorem dX8_readBridge_8 : decode cX8_readBridge 8 = .ok (.iconst 1, 1) := by decide +kernel
theorem dX8_readBridge_9 : decode cX8_readBridge 9 = .ok (.bipush 9, 2) := by decide +kernel
theorem dX8_readBridge_11 : decode cX8_readBridge 11 = .ok (.invokevirtual 422, 3) := by decide +kernel
theorem dX8_readBridge_14 : decode cX8_readBridge 14 = .ok (.istore_n 2, 1) := by decide +kernel
theorem dX8_readBridge_15 : decode cX8_readBridge 15 = .ok (.aload_n 0, 1) := by decide +kernel
theorem dX8_readBridge_16 : decode cX8_readBridge 16 = .ok (.iconst 0, 1) := by decide +kernel
theorem dX8_readBridge_17 : decode cX8_readBridge 17 = .ok (.iload_n 2, 1) := by decide +kernel
theorem dX8_readBridge_18 : decode cX8_readBridge 18 = .ok (.iconst 1, 1) := by decide +kernel
theorem dX8_readBridge_19 : decode cX8_readBridge 19 = .ok (.isub, 1) := by decide +kernel
theorem dX8_readBridge_20 : decode cX8_readBridge 20 = .ok (.invokevirtual 422, 3) := by decide +kernel
theorem dX8_readBridge_23 : decode cX8_readBridge 23 = .ok (.istore_n 3, 1) := by decide +kernel
theorem dX8_readBridge_24 : decode cX8_readBridge 24 = .ok (.aload_n 0, 1) := by decide +kernel
theorem dX8_readBridge_25 : decode cX8_readBridge 25 = .ok (.iconst 1, 1) := by decide +kernel
theorem dX8_readBridge_26 : decode cX8_readBridge 26 = .ok (.iconst 3, 1) := by decide +kernel
theorem dX8_readBridge_27 : decode cX8_readBridge 27 = .ok (.invokevirtual 422, 3) := by decide +kernel
theorem dX8_readBridge_30 : decode cX8_readBridge 30 = .ok (.istore 4, 2) := by decide +kernel
theorem dX8_readBridge_32 : decode cX8_readBridge 32 = .ok (.aload_n 0, 1) := by decide +kernel
theorem dX8_readBridge_33 : decode cX8_readBridge 33 = .ok (.invokevirtual 425, 3) := by decide +kernel
theorem dX8_readBridge_36 : decode cX8_readBridge 36 = .ok (.aload_n 1, 1) := by decide +kernel
theorem dX8_readBridge_37 : decode cX8_readBridge 37 = .ok (.iload_n 2, 1) := by decide +kernel
theorem dX8_readBridge_38 : decode cX8_readBridge 38 = .ok (.iload_n 3, 1) := by decide +kernel
theorem dX8_readBridge_39 : decode cX8_readBridge 39 = .ok (.iload 4, 2) := by decide +kernel
theorem dX8_readBridge_41 : decode cX8_readBridge 41 = .ok (.invokevirtual 67, 3) := by decide +kernel
theorem dX8_readBridge_44 : decode cX8_readBridge 44 = .ok (.return_, 1) := by decide +kernel
theorem dJx29ce0_ordinal_8abf5_0 : decode cJx29ce0_ordinal_8abf5 0 = .ok (.aload_n 0, 1) := by decide +kernel
theorem dJx29ce0_ordinal_8abf5_1 : decode cJx29ce0_ordinal_8abf5 1 = .ok (.getfield 7, 3) := by decide +kernel
theorem dJx29ce0_ordinal_8abf5_4 : decode cJx29ce0_ordinal_8abf5 4 = .ok (.ireturn, 1) := by decide +kernel
theorem dJ9_abs_0f7a4_0 : decode cJ9_abs_0f7a4 0 = .ok (.iload_n 0, 1) := by decide +kernel
theorem dJ9_abs_0f7a4_1 : decode cJ9_abs_0f7a4 1 = .ok (.ifCond .ge 8, 3) := by decide +kernel
theorem dJ9_abs_0f7a4_4 : decode cJ9_abs_0f7a4 4 = .ok (.iload_n 0, 1) := by decide +kernel
theorem dJ9_abs_0f7a4_5 : decode cJ9_abs_0f7a4 5 = .ok (.ineg, 1) := by decide +kernel
theorem dJ9_abs_0f7a4_6 : decode cJ9_abs_0f7a4 6 = .ok (.goto 4, 3) := by decide +kernel
theorem dJ9_abs_0f7a4_9 : decode cJ9_abs_0f7a4 9 = .ok (.iload_n 0, 1) := by decide +kernel
theorem dJ9_abs_0f7a4_10 : decode cJ9_abs_0f7a4 10 = .ok (.ireturn, 1) := by decide +kernel
theorem dJ9_max_7cf53_0 : decode cJ9_max_7cf53 0 = .ok (.iload_n 0, 1) := by decide +kernel
theorem dJ9_max_7cf53_1 : decode cJ9_max_7cf53 1 = .ok (.iload_n 1, 1) := by decide +kernel
theorem dJ9_max_7cf53_2 : decode cJ9_max_7cf53 2 = .ok (.if_icmp .lt 7, 3) := by decide +kernel
theorem dJ9_max_7cf53_5 : decode cJ9_max_7cf53 5 = .ok (.iload_n 0, 1) := by decide +kernel
theorem dJ9_max_7cf53_6 : decode cJ9_max_7cf53 6 = .ok (.goto 4, 3) := by decide +kernel
theorem dJ9_max_7cf53_9 : decode cJ9_max_7cf53 9 = .ok (.iload_n 1, 1) := by decide +kernel
theorem dJ9_max_7cf53_10 : decode cJ9_max_7cf53 10 = .ok (.ireturn, 1) := by decide +kernel
theorem dJ9_min_7cf53_0 : decode cJ9_min_7cf53 0 = .ok (.iload_n 0, 1) := by decide +kernel
theorem dJ9_min_7cf53_1 : decode cJ9_min_7cf53 1 = .ok (.iload_n 1, 1) := by decide +kernel
theorem dJ9_min_7cf53_2 : decode cJ9_min_7cf53 2 = .ok (.if_icmp .gt 7, 3) := by decide +kernel
theorem dJ9_min_7cf53_5 : decode cJ9_min_7cf53 5 = .ok (.iload_n 0, 1) := by decide +kernel
theorem dJ9_min_7cf53_6 : decode cJ9_min_7cf53 6 = .ok (.goto 4, 3) := by decide +kernel
theorem dJ9_min_7cf53_9 : decode cJ9_min_7cf53 9 = .ok (.iload_n 1, 1) := by decide +kernel
theorem dJ9_min_7cf53_10 : decode cJ9_min_7cf53 10 = .ok (.ireturn, 1) := by decide +kernel
theorem dJ0_length_8abf5_0 : decode cJ0_length_8abf5 0 = .ok (.aload_n 0, 1) := by decide +kernel
theorem dJ0_length_8abf5_1 : decode cJ0_length_8abf5 1 = .ok (.getfield 9, 3) := by decide +kernel
theorem dJ0_length_8abf5_4 : decode cJ0_length_8abf5 4 = .ok (.arraylength, 1) := by decide +kernel
theorem dJ0_length_8abf5_5 : decode cJ0_length_8abf5 5 = .ok (.aload_n 0, 1) := by decide +kernel
theorem dJ0_length_8abf5_6 : decode cJ0_length_8abf5 6 = .ok (.invokevirtual 335, 3) := by decide +kernel
theorem dJ0_length_8abf5_9 : decode cJ0_length_8abf5 9 = .ok (.ishr, 1) := by decide +kernel
theorem dJ0_length_8abf5_10 : decode cJ0_length_8abf5 10 = .ok (.ireturn, 1) := by decide +kernel
theorem dJ0_charAt_5068e_0 : decode cJ0_charAt_5068e 0 = .ok (.aload_n 0, 1) := by decide +kernel
theorem dJ0_charAt_5068e_1 : decode cJ0_charAt_5068e 1 = .ok (.invokevirtual 492, 3) := by decide +kernel
theorem dJ0_charAt_5068e_4 : decode cJ0_charAt_5068e 4 = .ok (.ifCond .eq 12, 3) := by decide +kernel
theorem dJ0_charAt_5068e_7 : decode cJ0_charAt_5068e 7 = .ok (.aload_n 0, 1) := by decide +kernel
theorem dJ0_charAt_5068e_8 : decode cJ0_charAt_5068e 8 = .ok (.getfield 9, 3) := by decide +kernel
theorem dJ0_charAt_5068e_11 : decode cJ0_charAt_5068e 11 = .ok (.iload_n 1, 1) := by decide +kernel
theorem dJ0_charAt_5068e_12 : decode cJ0_charAt_5068e 12 = .ok (.invokestatic 495, 3) := by decide +kernel
theorem dJ0_charAt_5068e_15 : decode cJ0_charAt_5068e 15 = .ok (.ireturn, 1) := by decide +kernel
theorem dJ0_charAt_5068e_16 : decode cJ0_charAt_5068e 16 = .ok (.aload_n 0, 1) := by decide +kernel
theorem dJ0_charAt_5068e_17 : decode cJ0_charAt_5068e 17 = .ok (.getfield 9, 3) := by decide +kernel
theorem dJ0_charAt_5068e_20 : decode cJ0_charAt_5068e 20 = .ok (.iload_n 1, 1) := by decide +kernel
theorem dJ0_charAt_5068e_21 : decode cJ0_charAt_5068e 21 = .ok (.invokestatic 498, 3) := by decide +kernel
theorem dJ0_charAt_5068e_24 : decode cJ0_charAt_5068e 24 = .ok (.ireturn, 1) := by decide +kernel
theorem dJ0_coder_7d493_0 : decode cJ0_coder_7d493 0 = .ok (.getstatic 38, 3) := by decide +kernel
theorem dJ0_coder_7d493_3 : decode cJ0_coder_7d493 3 = .ok (.ifCond .eq 10, 3) := by decide +kernel
theorem dJ0_coder_7d493_6 : decode cJ0_coder_7d493 6 = .ok (.aload_n 0, 1) := by decide +kernel
theorem dJ0_coder_7d493_7 : decode cJ0_coder_7d493 7 = .ok (.getfield 15, 3) := by decide +kernel
theorem dJ0_coder_7d493_10 : decode cJ0_coder_7d493 10 = .ok (.goto 4, 3) := by decide +kernel
theorem dJ0_coder_7d493_13 : decode cJ0_coder_7d493 13 = .ok (.iconst 1, 1) := by decide +kernel
theorem dJ0_coder_7d493_14 : decode cJ0_coder_7d493 14 = .ok (.ireturn, 1) := by decide +kernel
theorem dJ0_isLatin1_aae02_0 : decode cJ0_isLatin1_aae02 0 = .ok (.getstatic 38, 3) := by decide +kernel
theorem dJ0_isLatin1_aae02_3 : decode cJ0_isLatin1_aae02 3 = .ok (.ifCond .eq 14, 3) := by decide +kernel
theorem dJ0_isLatin1_aae02_6 : decode cJ0_isLatin1_aae02 6 = .ok (.aload_n 0, 1) := by decide +kernel
theorem dJ0_isLatin1_aae02_7 : decode cJ0_isLatin1_aae02 7 = .ok (.getfield 15, 3) := by decide +kernel
theorem dJ0_isLatin1_aae02_10 : decode cJ0_isLatin1_aae02 10 = .ok (.ifCond .ne 7, 3) := by decide +kernel
theorem dJ0_isLatin1_aae02_13 : decode cJ0_isLatin1_aae02 13 = .ok (.iconst 1, 1) := by decide +kernel
theorem dJ0_isLatin1_aae02_14 : decode cJ0_isLatin1_aae02 14 = .ok (.goto 4, 3) := by decide +kernel
theorem dJ0_isLatin1_aae02_17 : decode cJ0_isLatin1_aae02 17 = .ok (.iconst 0, 1) := by decide +kernel
theorem dJ0_isLatin1_aae02_18 : decode cJ0_isLatin1_aae02 18 = .ok (.ireturn, 1) := by decide +kernel
theorem dJ0_checkIndex_df160_0 : decode cJ0_checkIndex_df160 0 = .ok (.iload_n 0, 1) := by decide +kernel
theorem dJ0_checkIndex_df160_1 : decode cJ0_checkIndex_df160 1 = .ok (.iload_n 1, 1) := by decide +kernel
theorem dJ0_checkIndex_df160_2 : decode cJ0_checkIndex_df160 2 = .ok (.getstatic 1053, 3) := by decide +kernel
theorem dJ0_checkIndex_df160_5 : decode cJ0_checkIndex_df160 5 = .ok (.invokestatic 1059, 3) := by decide +kernel
theorem dJ0_checkIndex_df160_8 : decode cJ0_checkIndex_df160 8 = .ok (.pop, 1) := by decide +kernel
theorem dJ0_checkIndex_df160_9 : decode cJ0_checkIndex_df160 9 = .ok (.return_, 1) := by decide +kernel
theorem dJ1_charAt_3b067_0 : decode cJ1_charAt_3b067 0 = .ok (.iload_n 1, 1) := by decide +kernel
theorem dJ1_charAt_3b067_1 : decode cJ1_charAt_3b067 1 = .ok (.aload_n 0, 1) := by decide +kernel
theorem dJ1_charAt_3b067_2 : decode cJ1_charAt_3b067 2 = .ok (.arraylength, 1) := by decide +kernel
theorem dJ1_charAt_3b067_3 : decode cJ1_charAt_3b067 3 = .ok (.invokestatic 9, 3) := by decide +kernel
theorem dJ1_charAt_3b067_6 : decode cJ1_charAt_3b067 6 = .ok (.aload_n 0, 1) := by decide +kernel
theorem dJ1_charAt_3b067_7 : decode cJ1_charAt_3b067 7 = .ok (.iload_n 1, 1) := by decide +kernel
theorem dJ1_charAt_3b067_8 : decode cJ1_charAt_3b067 8 = .ok (.baload, 1) := by decide +kernel
theorem dJ1_charAt_3b067_9 : decode cJ1_charAt_3b067 9 = .ok (.sipush 255, 3) := by decide +kernel
theorem dJ1_charAt_3b067_12 : decode cJ1_charAt_3b067 12 = .ok (.iand, 1) := by decide +kernel
theorem dJ1_charAt_3b067_13 : decode cJ1_charAt_3b067 13 = .ok (.i2c, 1) := by decide +kernel
theorem dJ1_charAt_3b067_14 : decode cJ1_charAt_3b067 14 = .ok (.ireturn, 1) := by decide +kernel
theorem dJ2_getChar_3b067_0 : decode cJ2_getChar_3b067 0 = .ok (.getstatic 44, 3) := by decide +kernel
theorem dJ2_getChar_3b067_3 : decode cJ2_getChar_3b067 3 = .ok (.ifCond .ne 25, 3) := by decide +kernel
theorem dJ2_getChar_3b067_6 : decode cJ2_getChar_3b067 6 = .ok (.iload_n 1, 1) := by decide +kernel
theorem dJ2_getChar_3b067_7 : decode cJ2_getChar_3b067 7 = .ok (.ifCond .lt 11, 3) := by decide +kernel
theorem dJ2_getChar_3b067_10 : decode cJ2_getChar_3b067 10 = .ok (.iload_n 1, 1) := by decide +kernel
theorem dJ2_getChar_3b067_11 : decode cJ2_getChar_3b067 11 = .ok (.aload_n 0, 1) := by decide +kernel
theorem dJ2_getChar_3b067_12 : decode cJ2_getChar_3b067 12 = .ok (.invokestatic 48, 3) := by decide +kernel
theorem dJ2_getChar_3b067_15 : decode cJ2_getChar_3b067 15 = .ok (.if_icmp .lt 13, 3) := by decide +kernel
theorem dJ2_getChar_3b067_18 : decode cJ2_getChar_3b067 18 = .ok (.new 52, 3) := by decide +kernel
theorem dJ2_getChar_3b067_21 : decode cJ2_getChar_3b067 21 = .ok (.dup, 1) := by decide +kernel
theorem dJ2_getChar_3b067_22 : decode cJ2_getChar_3b067 22 = .ok (.ldc 54, 2) := by decide +kernel
theorem dJ2_getChar_3b067_24 : decode cJ2_getChar_3b067 24 = .ok (.invokespecial 56, 3) := by decide +kernel
theorem dJ2_getChar_3b067_27 : decode cJ2_getChar_3b067 27 = .ok (.athrow, 1) := by decide +kernel
theorem dJ2_getChar_3b067_28 : decode cJ2_getChar_3b067 28 = .ok (.iload_n 1, 1) := by decide +kernel
theorem dJ2_getChar_3b067_29 : decode cJ2_getChar_3b067 29 = .ok (.iconst 1, 1) := by decide +kernel
theorem dJ2_getChar_3b067_30 : decode cJ2_getChar_3b067 30 = .ok (.ishl, 1) := by decide +kernel
theorem dJ2_getChar_3b067_31 : decode cJ2_getChar_3b067 31 = .ok (.istore_n 1, 1) := by decide +kernel
theorem dJ2_getChar_3b067_32 : decode cJ2_getChar_3b067 32 = .ok (.aload_n 0, 1) := by decide +kernel
theorem dJ2_getChar_3b067_33 : decode cJ2_getChar_3b067 33 = .ok (.iload_n 1, 1) := by decide +kernel
theorem dJ2_getChar_3b067_34 : decode cJ2_getChar_3b067 34 = .ok (.iinc 1 1, 3) := by decide +kernel
theorem dJ2_getChar_3b067_37 : decode cJ2_getChar_3b067 37 = .ok (.baload, 1) := by decide +kernel
theorem dJ2_getChar_3b067_38 : decode cJ2_getChar_3b067 38 = .ok (.sipush 255, 3) := by decide +kernel
theorem dJ2_getChar_3b067_41 : decode cJ2_getChar_3b067 41 = .ok (.iand, 1) := by decide +kernel
theorem dJ2_getChar_3b067_42 : decode cJ2_getChar_3b067 42 = .ok (.getstatic 59, 3) := by decide +kernel
theorem dJ2_getChar_3b067_45 : decode cJ2_getChar_3b067 45 = .ok (.ishl, 1) := by decide +kernel
theorem dJ2_getChar_3b067_46 : decode cJ2_getChar_3b067 46 = .ok (.aload_n 0, 1) := by decide +kernel
theorem dJ2_getChar_3b067_47 : decode cJ2_getChar_3b067 47 = .ok (.iload_n 1, 1) := by decide +kernel
theorem dJ2_getChar_3b067_48 : decode cJ2_getChar_3b067 48 = .ok (.baload, 1) := by decide +kernel
theorem dJ2_getChar_3b067_49 : decode cJ2_getChar_3b067 49 = .ok (.sipush 255, 3) := by decide +kernel
theorem dJ2_getChar_3b067_52 : decode cJ2_getChar_3b067 52 = .ok (.iand, 1) := by decide +kernel
theorem dJ2_getChar_3b067_53 : decode cJ2_getChar_3b067 53 = .ok (.getstatic 63, 3) := by decide +kernel
theorem dJ2_getChar_3b067_56 : decode cJ2_getChar_3b067 56 = .ok (.ishl, 1) := by decide +kernel
theorem dJ2_getChar_3b067_57 : decode cJ2_getChar_3b067 57 = .ok (.ior, 1) := by decide +kernel
theorem dJ2_getChar_3b067_58 : decode cJ2_getChar_3b067 58 = .ok (.i2c, 1) := by decide +kernel
theorem dJ2_getChar_3b067_59 : decode cJ2_getChar_3b067 59 = .ok (.ireturn, 1) := by decide +kernel
theorem dJ2_length_9d52b_0 : decode cJ2_length_9d52b 0 = .ok (.aload_n 0, 1) := by decide +kernel
theorem dJ2_length_9d52b_1 : decode cJ2_length_9d52b 1 = .ok (.arraylength, 1) := by decide +kernel
theorem dJ2_length_9d52b_2 : decode cJ2_length_9d52b 2 = .ok (.iconst 1, 1) := by decide +kernel
theorem dJ2_length_9d52b_3 : decode cJ2_length_9d52b 3 = .ok (.ishr, 1) := by decide +kernel
theorem dJ2_length_9d52b_4 : decode cJ2_length_9d52b 4 = .ok (.ireturn, 1) := by decide +kernel
theorem dJ2_charAt_3b067_0 : decode cJ2_charAt_3b067 0 = .ok (.iload_n 1, 1) := by decide +kernel
theorem dJ2_charAt_3b067_1 : decode cJ2_charAt_3b067 1 = .ok (.aload_n 0, 1) := by decide +kernel
theorem dJ2_charAt_3b067_2 : decode cJ2_charAt_3b067 2 = .ok (.invokestatic 67, 3) := by decide +kernel
theorem dJ2_charAt_3b067_5 : decode cJ2_charAt_3b067 5 = .ok (.aload_n 0, 1) := by decide +kernel
theorem dJ2_charAt_3b067_6 : decode cJ2_charAt_3b067 6 = .ok (.iload_n 1, 1) := by decide +kernel
theorem dJ2_charAt_3b067_7 : decode cJ2_charAt_3b067 7 = .ok (.invokestatic 71, 3) := by decide +kernel
theorem dJ2_charAt_3b067_10 : decode cJ2_charAt_3b067 10 = .ok (.ireturn, 1) := by decide +kernel
theorem dJ2_checkIndex_2214a_0 : decode cJ2_checkIndex_2214a 0 = .ok (.iload_n 0, 1) := by decide +kernel
theorem dJ2_checkIndex_2214a_1 : decode cJ2_checkIndex_2214a 1 = .ok (.aload_n 1, 1) := by decide +kernel
theorem dJ2_checkIndex_2214a_2 : decode cJ2_checkIndex_2214a 2 = .ok (.invokestatic 48, 3) := by decide +kernel
theorem dJ2_checkIndex_2214a_5 : decode cJ2_checkIndex_2214a 5 = .ok (.invokestatic 414, 3) := by decide +kernel
theorem dJ2_checkIndex_2214a_8 : decode cJ2_checkIndex_2214a 8 = .ok (.return_, 1) := by decide +kernel
theorem dJ3_checkIndex_8e157_0 : decode cJ3_checkIndex_8e157 0 = .ok (.iload_n 0, 1) := by decide +kernel
theorem dJ3_checkIndex_8e157_1 : decode cJ3_checkIndex_8e157 1 = .ok (.ifCond .lt 8, 3) := by decide +kernel
theorem dJ3_checkIndex_8e157_4 : decode cJ3_checkIndex_8e157 4 = .ok (.iload_n 0, 1) := by decide +kernel
theorem dJ3_checkIndex_8e157_5 : decode cJ3_checkIndex_8e157 5 = .ok (.iload_n 1, 1) := by decide +kernel
theorem dJ3_checkIndex_8e157_6 : decode cJ3_checkIndex_8e157 6 = .ok (.if_icmp .lt 10, 3) := by decide +kernel
theorem dJ3_checkIndex_8e157_9 : decode cJ3_checkIndex_8e157 9 = .ok (.aload_n 2, 1) := by decide +kernel
theorem dJ3_checkIndex_8e157_10 : decode cJ3_checkIndex_8e157 10 = .ok (.iload_n 0, 1) := by decide +kernel
theorem dJ3_checkIndex_8e157_11 : decode cJ3_checkIndex_8e157 11 = .ok (.iload_n 1, 1) := by decide +kernel
theorem dJ3_checkIndex_8e157_12 : decode cJ3_checkIndex_8e157 12 = .ok (.invokestatic 95, 3) := by decide +kernel
theorem dJ3_checkIndex_8e157_15 : decode cJ3_checkIndex_8e157 15 = .ok (.athrow, 1) := by decide +kernel
theorem dJ3_checkIndex_8e157_16 : decode cJ3_checkIndex_8e157 16 = .ok (.iload_n 0, 1) := by decide +kernel
theorem dJ3_checkIndex_8e157_17 : decode cJ3_checkIndex_8e157 17 = .ok (.ireturn, 1) := by decide +kernel
theorem dL_init_0 : decode cL_init 0 = .ok (.aload_n 0, 1) := by decide +kernel
theorem dL_init_1 : decode cL_init 1 = .ok (.invokespecial 1, 3) := by decide +kernel
theorem dL_init_4 : decode cL_init 4 = .ok (.aload_n 0, 1) := by decide +kernel
theorem dL_init_5 : decode cL_init 5 = .ok (.sipush 500, 3) := by decide +kernel
theorem dL_init_8 : decode cL_init 8 = .ok (.newarray .int, 2) := by decide +kernel
theorem dL_init_10 : decode cL_init 10 = .ok (.putfield 7, 3) := by decide +kernel
theorem dL_init_13 : decode cL_init 13 = .ok (.aload_n 0, 1) := by decide +kernel
theorem dL_init_14 : decode cL_init 14 = .ok (.iconst 5, 1) := by decide +kernel
theorem dL_init_15 : decode cL_init 15 = .ok (.newarray .int, 2) := by decide +kernel
theorem dL_init_17 : decode cL_init 17 = .ok (.putfield 13, 3) := by decide +kernel
theorem dL_init_20 : decode cL_init 20 = .ok (.return_, 1) := by decide +kernel
theorem dL_writes_0 : decode cL_writes 0 = .ok (.iconst 0, 1) := by decide +kernel
theorem dL_writes_1 : decode cL_writes 1 = .ok (.istore_n 2, 1) := by decide +kernel
theorem dL_writes_2 : decode cL_writes 2 = .ok (.iload_n 2, 1) := by decide +kernel
theorem dL_writes_3 : decode cL_writes 3 = .ok (.aload_n 1, 1) := by decide +kernel
theorem dL_writes_4 : decode cL_writes 4 = .ok (.invokevirtual 16, 3) := by decide +kernel
theorem dL_writes_7 : decode cL_writes 7 = .ok (.if_icmp .ge 18, 3) := by decide +kernel
theorem dL_writes_10 : decode cL_writes 10 = .ok (.aload_n 0, 1) := by decide +kernel
theorem dL_writes_11 : decode cL_writes 11 = .ok (.aload_n 1, 1) := by decide +kernel
theorem dL_writes_12 : decode cL_writes 12 = .ok (.iload_n 2, 1) := by decide +kernel
theorem dL_writes_13 : decode cL_writes 13 = .ok (.invokevirtual 22, 3) := by decide +kernel
theorem dL_writes_16 : decode cL_writes 16 = .ok (.invokevirtual 26, 3) := by decide +kernel
theorem dL_writes_19 : decode cL_writes 19 = .ok (.iinc 2 1, 3) := by decide +kernel
theorem dL_writes_22 : decode cL_writes 22 = .ok (.goto (-20), 3) := by decide +kernel
theorem dL_writes_25 : decode cL_writes 25 = .ok (.return_, 1) := by decide +kernel
theorem dL_sign_0 : decode cL_sign 0 = .ok (.aload_n 0, 1) := by decide +kernel
theorem dL_sign_1 : decode cL_sign 1 = .ok (.getfield 7, 3) := by decide +kernel
theorem dL_sign_4 : decode cL_sign 4 = .ok (.aload_n 0, 1) := by decide +kernel
theorem dL_sign_5 : decode cL_sign 5 = .ok (.getfield 30, 3) := by decide +kernel
theorem dL_sign_8 : decode cL_sign 8 = .ok (.iload_n 1, 1) := by decide +kernel
theorem dL_sign_9 : decode cL_sign 9 = .ok (.iastore, 1) := by decide +kernel
theorem dL_sign_10 : decode cL_sign 10 = .ok (.aload_n 0, 1) := by decide +kernel
theorem dL_sign_11 : decode cL_sign 11 = .ok (.dup, 1) := by decide +kernel
theorem dL_sign_12 : decode cL_sign 12 = .ok (.getfield 30, 3) := by decide +kernel
theorem dL_sign_15 : decode cL_sign 15 = .ok (.iconst 1, 1) := by decide +kernel
theorem dL_sign_16 : decode cL_sign 16 = .ok (.iadd, 1) := by decide +kernel
theorem dL_sign_17 : decode cL_sign 17 = .ok (.putfield 30, 3) := by decide +kernel
theorem dL_sign_20 : decode cL_sign 20 = .ok (.return_, 1) := by decide +kernel
theorem dL_number_0 : decode cL_number 0 = .ok (.iconst 1, 1) := by decide +kernel
theorem dL_number_1 : decode cL_number 1 = .ok (.istore_n 2, 1) := by decide +kernel
theorem dL_number_2 : decode cL_number 2 = .ok (.iload_n 1, 1) := by decide +kernel
theorem dL_number_3 : decode cL_number 3 = .ok (.iload_n 2, 1) := by decide +kernel
theorem dL_number_4 : decode cL_number 4 = .ok (.idiv, 1) := by decide +kernel
theorem dL_number_5 : decode cL_number 5 = .ok (.bipush 9, 2) := by decide +kernel
theorem dL_number_7 : decode cL_number 7 = .ok (.if_icmp .le 11, 3) := by decide +kernel
theorem dL_number_10 : decode cL_number 10 = .ok (.iload_n 2, 1) := by decide +kernel
theorem dL_number_11 : decode cL_number 11 = .ok (.bipush 10, 2) := by decide +kernel
theorem dL_number_13 : decode cL_number 13 = .ok (.imul, 1) := by decide +kernel
theorem dL_number_14 : decode cL_number 14 = .ok (.istore_n 2, 1) := by decide +kernel
theorem dL_number_15 : decode cL_number 15 = .ok (.goto (-13), 3) := by decide +kernel
theorem dL_number_18 : decode cL_number 18 = .ok (.aload_n 0, 1) := by decide +kernel
theorem dL_number_19 : decode cL_number 19 = .ok (.bipush 32, 2) := by decide +kernel
theorem dL_number_21 : decode cL_number 21 = .ok (.invokevirtual 26, 3) := by decide +kernel
theorem dL_number_24 : decode cL_number 24 = .ok (.iload_n 2, 1) := by decide +kernel
theorem dL_number_25 : decode cL_number 25 = .ok (.ifCond .le 24, 3) := by decide +kernel
theorem dL_number_28 : decode cL_number 28 = .ok (.aload_n 0, 1) := by decide +kernel
theorem dL_number_29 : decode cL_number 29 = .ok (.bipush 48, 2) := by decide +kernel
theorem dL_number_31 : decode cL_number 31 = .ok (.iload_n 1, 1) := by decide +kernel
theorem dL_number_32 : decode cL_number 32 = .ok (.iload_n 2, 1) := by decide +kernel
theorem dL_number_33 : decode cL_number 33 = .ok (.idiv, 1) := by decide +kernel
theorem dL_number_34 : decode cL_number 34 = .ok (.bipush 10, 2) := by decide +kernel
theorem dL_number_36 : decode cL_number 36 = .ok (.irem, 1) := by decide +kernel
theorem dL_number_37 : decode cL_number 37 = .ok (.iadd, 1) := by decide +kernel
theorem dL_number_38 : decode cL_number 38 = .ok (.invokevirtual 26, 3) := by decide +kernel
theorem dL_number_41 : decode cL_number 41 = .ok (.iload_n 2, 1) := by decide +kernel
theorem dL_number_42 : decode cL_number 42 = .ok (.bipush 10, 2) := by decide +kernel
theorem dL_number_44 : decode cL_number 44 = .ok (.idiv, 1) := by decide +kernel
theorem dL_number_45 : decode cL_number 45 = .ok (.istore_n 2, 1) := by decide +kernel
theorem dL_number_46 : decode cL_number 46 = .ok (.goto (-22), 3) := by decide +kernel
theorem dL_number_49 : decode cL_number 49 = .ok (.return_, 1) := by decide +kernel
theorem dL_cell_0 : decode cL_cell 0 = .ok (.iload_n 1, 1) := by decide +kernel
theorem dL_cell_1 : decode cL_cell 1 = .ok (.aload_n 0, 1) := by decide +kernel
theorem dL_cell_2 : decode cL_cell 2 = .ok (.arraylength, 1) := by decide +kernel
theorem dL_cell_3 : decode cL_cell 3 = .ok (.if_icmp .ge 12, 3) := by decide +kernel
theorem dL_cell_6 : decode cL_cell 6 = .ok (.aload_n 0, 1) := by decide +kernel
theorem dL_cell_7 : decode cL_cell 7 = .ok (.iload_n 1, 1) := by decide +kernel
theorem dL_cell_8 : decode cL_cell 8 = .ok (.iaload, 1) := by decide +kernel
theorem dL_cell_9 : decode cL_cell 9 = .ok (.ldc 34, 2) := by decide +kernel
theorem dL_cell_11 : decode cL_cell 11 = .ok (.iand, 1) := by decide +kernel
theorem dL_cell_12 : decode cL_cell 12 = .ok (.goto 4, 3) := by decide +kernel
theorem dL_cell_15 : decode cL_cell 15 = .ok (.iconst 0, 1) := by decide +kernel
theorem dL_cell_16 : decode cL_cell 16 = .ok (.ireturn, 1) := by decide +kernel
theorem dL_feeds_0 : decode cL_feeds 0 = .ok (.iconst 0, 1) := by decide +kernel
theorem dL_feeds_1 : decode cL_feeds 1 = .ok (.istore_n 2, 1) := by decide +kernel
theorem dL_feeds_2 : decode cL_feeds 2 = .ok (.iload_n 2, 1) := by decide +kernel
theorem dL_feeds_3 : decode cL_feeds 3 = .ok (.aload_n 0, 1) := by decide +kernel
theorem dL_feeds_4 : decode cL_feeds 4 = .ok (.getfield 30, 3) := by decide +kernel
theorem dL_feeds_7 : decode cL_feeds 7 = .ok (.if_icmp .ge 101, 3) := by decide +kernel
theorem dL_feeds_10 : decode cL_feeds 10 = .ok (.iconst 0, 1) := by decide +kernel
theorem dL_feeds_11 : decode cL_feeds 11 = .ok (.istore_n 3, 1) := by decide +kernel
theorem dL_feeds_12 : decode cL_feeds 12 = .ok (.iload_n 3, 1) := by decide +kernel
theorem dL_feeds_13 : decode cL_feeds 13 = .ok (.bipush 20, 2) := by decide +kernel
theorem dL_feeds_15 : decode cL_feeds 15 = .ok (.if_icmp .ge 52, 3) := by decide +kernel
theorem dL_feeds_18 : decode cL_feeds 18 = .ok (.aload_n 0, 1) := by decide +kernel
theorem dL_feeds_19 : decode cL_feeds 19 = .ok (.getfield 13, 3) := by decide +kernel
theorem dL_feeds_22 : decode cL_feeds 22 = .ok (.iload_n 3, 1) := by decide +kernel
theorem dL_feeds_23 : decode cL_feeds 23 = .ok (.iconst 4, 1) := by decide +kernel
theorem dL_feeds_24 : decode cL_feeds 24 = .ok (.idiv, 1) := by decide +kernel
theorem dL_feeds_25 : decode cL_feeds 25 = .ok (.aload_n 0, 1) := by decide +kernel
theorem dL_feeds_26 : decode cL_feeds 26 = .ok (.getfield 13, 3) := by decide +kernel
theorem dL_feeds_29 : decode cL_feeds 29 = .ok (.iload_n 3, 1) := by decide +kernel
theorem dL_feeds_30 : decode cL_feeds 30 = .ok (.iconst 4, 1) := by decide +kernel
theorem dL_feeds_31 : decode cL_feeds 31 = .ok (.idiv, 1) := by decide +kernel
theorem dL_feeds_32 : decode cL_feeds 32 = .ok (.iaload, 1) := by decide +kernel
theorem dL_feeds_33 : decode cL_feeds 33 = .ok (.bipush 8, 2) := by decide +kernel
theorem dL_feeds_35 : decode cL_feeds 35 = .ok (.ishl, 1) := by decide +kernel
theorem dL_feeds_36 : decode cL_feeds 36 = .ok (.iload_n 2, 1) := by decide +kernel
theorem dL_feeds_37 : decode cL_feeds 37 = .ok (.iload_n 3, 1) := by decide +kernel
theorem dL_feeds_38 : decode cL_feeds 38 = .ok (.iadd, 1) := by decide +kernel
theorem dL_feeds_39 : decode cL_feeds 39 = .ok (.aload_n 0, 1) := by decide +kernel
theorem dL_feeds_40 : decode cL_feeds 40 = .ok (.getfield 30, 3) := by decide +kernel
theorem dL_feeds_43 : decode cL_feeds 43 = .ok (.if_icmp .ge 14, 3) := by decide +kernel
theorem dL_feeds_46 : decode cL_feeds 46 = .ok (.aload_n 0, 1) := by decide +kernel
theorem dL_feeds_47 : decode cL_feeds 47 = .ok (.getfield 7, 3) := by decide +kernel
theorem dL_feeds_50 : decode cL_feeds 50 = .ok (.iload_n 2, 1) := by decide +kernel
theorem dL_feeds_51 : decode cL_feeds 51 = .ok (.iload_n 3, 1) := by decide +kernel
theorem dL_feeds_52 : decode cL_feeds 52 = .ok (.iadd, 1) := by decide +kernel
theorem dL_feeds_53 : decode cL_feeds 53 = .ok (.iaload, 1) := by decide +kernel
theorem dL_feeds_54 : decode cL_feeds 54 = .ok (.goto 5, 3) := by decide +kernel
theorem dL_feeds_57 : decode cL_feeds 57 = .ok (.bipush 32, 2) := by decide +kernel
theorem dL_feeds_59 : decode cL_feeds 59 = .ok (.ior, 1) := by decide +kernel
theorem dL_feeds_60 : decode cL_feeds 60 = .ok (.iastore, 1) := by decide +kernel
theorem dL_feeds_61 : decode cL_feeds 61 = .ok (.iinc 3 1, 3) := by decide +kernel
theorem dL_feeds_64 : decode cL_feeds 64 = .ok (.goto (-52), 3) := by decide +kernel
theorem dL_feeds_67 : decode cL_feeds 67 = .ok (.aload_n 1, 1) := by decide +kernel
theorem dL_feeds_68 : decode cL_feeds 68 = .ok (.aload_n 0, 1) := by decide +kernel
theorem dL_feeds_69 : decode cL_feeds 69 = .ok (.getfield 13, 3) := by decide +kernel
theorem dL_feeds_72 : decode cL_feeds 72 = .ok (.iconst 0, 1) := by decide +kernel
theorem dL_feeds_73 : decode cL_feeds 73 = .ok (.iaload, 1) := by decide +kernel
theorem dL_feeds_74 : decode cL_feeds 74 = .ok (.aload_n 0, 1) := by decide +kernel
theorem dL_feeds_75 : decode cL_feeds 75 = .ok (.getfield 13, 3) := by decide +kernel
theorem dL_feeds_78 : decode cL_feeds 78 = .ok (.iconst 1, 1) := by decide +kernel
theorem dL_feeds_79 : decode cL_feeds 79 = .ok (.iaload, 1) := by decide +kernel
theorem dL_feeds_80 : decode cL_feeds 80 = .ok (.aload_n 0, 1) := by decide +kernel
theorem dL_feeds_81 : decode cL_feeds 81 = .ok (.getfield 13, 3) := by decide +kernel
theorem dL_feeds_84 : decode cL_feeds 84 = .ok (.iconst 2, 1) := by decide +kernel
theorem dL_feeds_85 : decode cL_feeds 85 = .ok (.iaload, 1) := by decide +kernel
theorem dL_feeds_86 : decode cL_feeds 86 = .ok (.aload_n 0, 1) := by decide +kernel
theorem dL_feeds_87 : decode cL_feeds 87 = .ok (.getfield 13, 3) := by decide +kernel
theorem dL_feeds_90 : decode cL_feeds 90 = .ok (.iconst 3, 1) := by decide +kernel
theorem dL_feeds_91 : decode cL_feeds 91 = .ok (.iaload, 1) := by decide +kernel
theorem dL_feeds_92 : decode cL_feeds 92 = .ok (.aload_n 0, 1) := by decide +kernel
theorem dL_feeds_93 : decode cL_feeds 93 = .ok (.getfield 13, 3) := by decide +kernel
theorem dL_feeds_96 : decode cL_feeds 96 = .ok (.iconst 4, 1) := by decide +kernel
theorem dL_feeds_97 : decode cL_feeds 97 = .ok (.iaload, 1) := by decide +kernel
theorem dL_feeds_98 : decode cL_feeds 98 = .ok (.invokevirtual 35, 3) := by decide +kernel
theorem dL_feeds_101 : decode cL_feeds 101 = .ok (.istore_n 3, 1) := by decide +kernel
theorem dL_feeds_102 : decode cL_feeds 102 = .ok (.iinc 2 20, 3) := by decide +kernel
theorem dL_feeds_105 : decode cL_feeds 105 = .ok (.goto (-103), 3) := by decide +kernel
theorem dL_feeds_108 : decode cL_feeds 108 = .ok (.aload_n 0, 1) := by decide +kernel
theorem dL_feeds_109 : decode cL_feeds 109 = .ok (.getfield 30, 3) := by decide +kernel
theorem dL_feeds_112 : decode cL_feeds 112 = .ok (.istore_n 2, 1) := by decide +kernel
theorem dL_feeds_113 : decode cL_feeds 113 = .ok (.aload_n 0, 1) := by decide +kernel
theorem dL_feeds_114 : decode cL_feeds 114 = .ok (.iconst 0, 1) := by decide +kernel
theorem dL_feeds_115 : decode cL_feeds 115 = .ok (.putfield 30, 3) := by decide +kernel
theorem dL_feeds_118 : decode cL_feeds 118 = .ok (.iload_n 2, 1) := by decide +kernel
theorem dL_feeds_119 : decode cL_feeds 119 = .ok (.ireturn, 1) := by decide +kernel
theorem dL_loads_0 : decode cL_loads 0 = .ok (.aload_n 2, 1) := by decide +kernel
theorem dL_loads_1 : decode cL_loads 1 = .ok (.iconst 0, 1) := by decide +kernel
theorem dL_loads_2 : decode cL_loads 2 = .ok (.invokestatic 41, 3) := by decide +kernel
theorem dL_loads_5 : decode cL_loads 5 = .ok (.istore_n 3, 1) := by decide +kernel
theorem dL_loads_6 : decode cL_loads 6 = .ok (.aload_n 0, 1) := by decide +kernel
theorem dL_loads_7 : decode cL_loads 7 = .ok (.iconst 3, 1) := by decide +kernel
theorem dL_loads_8 : decode cL_loads 8 = .ok (.iload_n 3, 1) := by decide +kernel
theorem dL_loads_9 : decode cL_loads 9 = .ok (.iconst 4, 1) := by decide +kernel
theorem dL_loads_10 : decode cL_loads 10 = .ok (.irem, 1) := by decide +kernel
theorem dL_loads_11 : decode cL_loads 11 = .ok (.iadd, 1) := by decide +kernel
theorem dL_loads_12 : decode cL_loads 12 = .ok (.putfield 45, 3) := by decide +kernel
theorem dL_loads_15 : decode cL_loads 15 = .ok (.aload_n 0, 1) := by decide +kernel
theorem dL_loads_16 : decode cL_loads 16 = .ok (.iconst 1, 1) := by decide +kernel
theorem dL_loads_17 : decode cL_loads 17 = .ok (.iload_n 3, 1) := by decide +kernel
theorem dL_loads_18 : decode cL_loads 18 = .ok (.iconst 4, 1) := by decide +kernel
theorem dL_loads_19 : decode cL_loads 19 = .ok (.idiv, 1) := by decide +kernel
theorem dL_loads_20 : decode cL_loads 20 = .ok (.iconst 2, 1) := by decide +kernel
theorem dL_loads_21 : decode cL_loads 21 = .ok (.irem, 1) := by decide +kernel
theorem dL_loads_22 : decode cL_loads 22 = .ok (.iadd, 1) := by decide +kernel
theorem dL_loads_23 : decode cL_loads 23 = .ok (.putfield 48, 3) := by decide +kernel
theorem dL_loads_26 : decode cL_loads 26 = .ok (.aload_n 0, 1) := by decide +kernel
theorem dL_loads_27 : decode cL_loads 27 = .ok (.ldc 51, 2) := by decide +kernel
theorem dL_loads_29 : decode cL_loads 29 = .ok (.invokevirtual 53, 3) := by decide +kernel
theorem dL_loads_32 : decode cL_loads 32 = .ok (.aload_n 0, 1) := by decide +kernel
theorem dL_loads_33 : decode cL_loads 33 = .ok (.iload_n 3, 1) := by decide +kernel
theorem dL_loads_34 : decode cL_loads 34 = .ok (.bipush 16, 2) := by decide +kernel
theorem dL_loads_36 : decode cL_loads 36 = .ok (.idiv, 1) := by decide +kernel
theorem dL_loads_37 : decode cL_loads 37 = .ok (.bipush 91, 2) := by decide +kernel
theorem dL_loads_39 : decode cL_loads 39 = .ok (.irem, 1) := by decide +kernel
theorem dL_loads_40 : decode cL_loads 40 = .ok (.invokevirtual 57, 3) := by decide +kernel
theorem dL_loads_43 : decode cL_loads 43 = .ok (.aload_n 0, 1) := by decide +kernel
theorem dL_loads_44 : decode cL_loads 44 = .ok (.iload_n 3, 1) := by decide +kernel
theorem dL_loads_45 : decode cL_loads 45 = .ok (.sipush 2048, 3) := by decide +kernel
theorem dL_loads_48 : decode cL_loads 48 = .ok (.idiv, 1) := by decide +kernel
theorem dL_loads_49 : decode cL_loads 49 = .ok (.bipush 10, 2) := by decide +kernel
theorem dL_loads_51 : decode cL_loads 51 = .ok (.irem, 1) := by decide +kernel
theorem dL_loads_52 : decode cL_loads 52 = .ok (.invokevirtual 57, 3) := by decide +kernel
theorem dL_loads_55 : decode cL_loads 55 = .ok (.aload_n 0, 1) := by decide +kernel
theorem dL_loads_56 : decode cL_loads 56 = .ok (.iload_n 3, 1) := by decide +kernel
theorem dL_loads_57 : decode cL_loads 57 = .ok (.ldc 60, 2) := by decide +kernel
theorem dL_loads_59 : decode cL_loads 59 = .ok (.idiv, 1) := by decide +kernel
theorem dL_loads_60 : decode cL_loads 60 = .ok (.bipush 13, 2) := by decide +kernel
theorem dL_loads_62 : decode cL_loads 62 = .ok (.irem, 1) := by decide +kernel
theorem dL_loads_63 : decode cL_loads 63 = .ok (.invokevirtual 57, 3) := by decide +kernel
theorem dL_loads_66 : decode cL_loads 66 = .ok (.aload_n 0, 1) := by decide +kernel
theorem dL_loads_67 : decode cL_loads 67 = .ok (.iload_n 3, 1) := by decide +kernel
theorem dL_loads_68 : decode cL_loads 68 = .ok (.ldc 61, 2) := by decide +kernel
theorem dL_loads_70 : decode cL_loads 70 = .ok (.idiv, 1) := by decide +kernel
theorem dL_loads_71 : decode cL_loads 71 = .ok (.bipush 7, 2) := by decide +kernel
theorem dL_loads_73 : decode cL_loads 73 = .ok (.irem, 1) := by decide +kernel
theorem dL_loads_74 : decode cL_loads 74 = .ok (.invokevirtual 57, 3) := by decide +kernel
theorem dL_loads_77 : decode cL_loads 77 = .ok (.aload_n 0, 1) := by decide +kernel
theorem dL_loads_78 : decode cL_loads 78 = .ok (.ldc 62, 2) := by decide +kernel
theorem dL_loads_80 : decode cL_loads 80 = .ok (.invokevirtual 53, 3) := by decide +kernel
theorem dL_loads_83 : decode cL_loads 83 = .ok (.iconst 0, 1) := by decide +kernel
theorem dL_loads_84 : decode cL_loads 84 = .ok (.istore 4, 2) := by decide +kernel
theorem dL_loads_86 : decode cL_loads 86 = .ok (.iload 4, 2) := by decide +kernel
theorem dL_loads_88 : decode cL_loads 88 = .ok (.aload_n 0, 1) := by decide +kernel
theorem dL_loads_89 : decode cL_loads 89 = .ok (.getfield 45, 3) := by decide +kernel
theorem dL_loads_92 : decode cL_loads 92 = .ok (.if_icmp .ge 110, 3) := by decide +kernel
theorem dL_loads_95 : decode cL_loads 95 = .ok (.aload_n 2, 1) := by decide +kernel
theorem dL_loads_96 : decode cL_loads 96 = .ok (.iconst 1, 1) := by decide +kernel
theorem dL_loads_97 : decode cL_loads 97 = .ok (.invokestatic 41, 3) := by decide +kernel
theorem dL_loads_100 : decode cL_loads 100 = .ok (.iconst 2, 1) := by decide +kernel
theorem dL_loads_101 : decode cL_loads 101 = .ok (.iload 4, 2) := by decide +kernel
theorem dL_loads_103 : decode cL_loads 103 = .ok (.imul, 1) := by decide +kernel
theorem dL_loads_104 : decode cL_loads 104 = .ok (.iconst 1, 1) := by decide +kernel
theorem dL_loads_105 : decode cL_loads 105 = .ok (.iadd, 1) := by decide +kernel
theorem dL_loads_106 : decode cL_loads 106 = .ok (.idiv, 1) := by decide +kernel
theorem dL_loads_107 : decode cL_loads 107 = .ok (.bipush 7, 2) := by decide +kernel
theorem dL_loads_109 : decode cL_loads 109 = .ok (.iload 4, 2) := by decide +kernel
theorem dL_loads_111 : decode cL_loads 111 = .ok (.imul, 1) := by decide +kernel
theorem dL_loads_112 : decode cL_loads 112 = .ok (.iadd, 1) := by decide +kernel
theorem dL_loads_113 : decode cL_loads 113 = .ok (.istore 5, 2) := by decide +kernel
theorem dL_loads_115 : decode cL_loads 115 = .ok (.aload_n 0, 1) := by decide +kernel
theorem dL_loads_116 : decode cL_loads 116 = .ok (.iload 5, 2) := by decide +kernel
theorem dL_loads_118 : decode cL_loads 118 = .ok (.iconst 3, 1) := by decide +kernel
theorem dL_loads_119 : decode cL_loads 119 = .ok (.irem, 1) := by decide +kernel
theorem dL_loads_120 : decode cL_loads 120 = .ok (.ifCond .ne 8, 3) := by decide +kernel
theorem dL_loads_123 : decode cL_loads 123 = .ok (.ldc 64, 2) := by decide +kernel
theorem dL_loads_125 : decode cL_loads 125 = .ok (.goto 5, 3) := by decide +kernel
theorem dL_loads_128 : decode cL_loads 128 = .ok (.ldc 66, 2) := by decide +kernel
theorem dL_loads_130 : decode cL_loads 130 = .ok (.invokevirtual 53, 3) := by decide +kernel
theorem dL_loads_133 : decode cL_loads 133 = .ok (.aload_n 0, 1) := by decide +kernel
theorem dL_loads_134 : decode cL_loads 134 = .ok (.iload 5, 2) := by decide +kernel
theorem dL_loads_136 : decode cL_loads 136 = .ok (.iconst 4, 1) := by decide +kernel
theorem dL_loads_137 : decode cL_loads 137 = .ok (.idiv, 1) := by decide +kernel
theorem dL_loads_138 : decode cL_loads 138 = .ok (.iconst 3, 1) := by decide +kernel
theorem dL_loads_139 : decode cL_loads 139 = .ok (.irem, 1) := by decide +kernel
theorem dL_loads_140 : decode cL_loads 140 = .ok (.ifCond .ne 8, 3) := by decide +kernel
theorem dL_loads_143 : decode cL_loads 143 = .ok (.ldc 68, 2) := by decide +kernel
theorem dL_loads_145 : decode cL_loads 145 = .ok (.goto 5, 3) := by decide +kernel
theorem dL_loads_148 : decode cL_loads 148 = .ok (.ldc 70, 2) := by decide +kernel
theorem dL_loads_150 : decode cL_loads 150 = .ok (.invokevirtual 53, 3) := by decide +kernel
theorem dL_loads_153 : decode cL_loads 153 = .ok (.aload_n 0, 1) := by decide +kernel
theorem dL_loads_154 : decode cL_loads 154 = .ok (.iload 5, 2) := by decide +kernel
theorem dL_loads_156 : decode cL_loads 156 = .ok (.bipush 16, 2) := by decide +kernel
theorem dL_loads_158 : decode cL_loads 158 = .ok (.idiv, 1) := by decide +kernel
theorem dL_loads_159 : decode cL_loads 159 = .ok (.bipush 60, 2) := by decide +kernel
theorem dL_loads_161 : decode cL_loads 161 = .ok (.irem, 1) := by decide +kernel
theorem dL_loads_162 : decode cL_loads 162 = .ok (.invokevirtual 57, 3) := by decide +kernel
theorem dL_loads_165 : decode cL_loads 165 = .ok (.aload_n 0, 1) := by decide +kernel
theorem dL_loads_166 : decode cL_loads 166 = .ok (.iload 5, 2) := by decide +kernel
theorem dL_loads_168 : decode cL_loads 168 = .ok (.bipush 64, 2) := by decide +kernel
theorem dL_loads_170 : decode cL_loads 170 = .ok (.idiv, 1) := by decide +kernel
theorem dL_loads_171 : decode cL_loads 171 = .ok (.bipush 41, 2) := by decide +kernel
theorem dL_loads_173 : decode cL_loads 173 = .ok (.irem, 1) := by decide +kernel
theorem dL_loads_174 : decode cL_loads 174 = .ok (.invokevirtual 57, 3) := by decide +kernel
theorem dL_loads_177 : decode cL_loads 177 = .ok (.aload_n 0, 1) := by decide +kernel
theorem dL_loads_178 : decode cL_loads 178 = .ok (.iload 5, 2) := by decide +kernel
theorem dL_loads_180 : decode cL_loads 180 = .ok (.sipush 256, 3) := by decide +kernel
theorem dL_loads_183 : decode cL_loads 183 = .ok (.idiv, 1) := by decide +kernel
theorem dL_loads_184 : decode cL_loads 184 = .ok (.bipush 51, 2) := by decide +kernel
theorem dL_loads_186 : decode cL_loads 186 = .ok (.irem, 1) := by decide +kernel
theorem dL_loads_187 : decode cL_loads 187 = .ok (.invokevirtual 57, 3) := by decide +kernel
theorem dL_loads_190 : decode cL_loads 190 = .ok (.aload_n 0, 1) := by decide +kernel
theorem dL_loads_191 : decode cL_loads 191 = .ok (.ldc 62, 2) := by decide +kernel
theorem dL_loads_193 : decode cL_loads 193 = .ok (.invokevirtual 53, 3) := by decide +kernel
theorem dL_loads_196 : decode cL_loads 196 = .ok (.iinc 4 1, 3) := by decide +kernel
theorem dL_loads_199 : decode cL_loads 199 = .ok (.goto (-113), 3) := by decide +kernel
theorem dL_loads_202 : decode cL_loads 202 = .ok (.iconst 0, 1) := by decide +kernel
theorem dL_loads_203 : decode cL_loads 203 = .ok (.istore 4, 2) := by decide +kernel
theorem dL_loads_205 : decode cL_loads 205 = .ok (.iload 4, 2) := by decide +kernel
theorem dL_loads_207 : decode cL_loads 207 = .ok (.aload_n 0, 1) := by decide +kernel
theorem dL_loads_208 : decode cL_loads 208 = .ok (.getfield 48, 3) := by decide +kernel
theorem dL_loads_211 : decode cL_loads 211 = .ok (.if_icmp .ge 71, 3) := by decide +kernel
theorem dL_loads_214 : decode cL_loads 214 = .ok (.aload_n 2, 1) := by decide +kernel
theorem dL_loads_215 : decode cL_loads 215 = .ok (.iconst 2, 1) := by decide +kernel
theorem dL_loads_216 : decode cL_loads 216 = .ok (.invokestatic 41, 3) := by decide +kernel
theorem dL_loads_219 : decode cL_loads 219 = .ok (.iload 4, 2) := by decide +kernel
theorem dL_loads_221 : decode cL_loads 221 = .ok (.iconst 1, 1) := by decide +kernel
theorem dL_loads_222 : decode cL_loads 222 = .ok (.iadd, 1) := by decide +kernel
theorem dL_loads_223 : decode cL_loads 223 = .ok (.idiv, 1) := by decide +kernel
theorem dL_loads_224 : decode cL_loads 224 = .ok (.istore 5, 2) := by decide +kernel
theorem dL_loads_226 : decode cL_loads 226 = .ok (.iconst 1, 1) := by decide +kernel
theorem dL_loads_227 : decode cL_loads 227 = .ok (.iload 5, 2) := by decide +kernel
theorem dL_loads_229 : decode cL_loads 229 = .ok (.iconst 3, 1) := by decide +kernel
theorem dL_loads_230 : decode cL_loads 230 = .ok (.irem, 1) := by decide +kernel
theorem dL_loads_231 : decode cL_loads 231 = .ok (.iadd, 1) := by decide +kernel
theorem dL_loads_232 : decode cL_loads 232 = .ok (.istore 6, 2) := by decide +kernel
theorem dL_loads_234 : decode cL_loads 234 = .ok (.aload_n 0, 1) := by decide +kernel
theorem dL_loads_235 : decode cL_loads 235 = .ok (.ldc 72, 2) := by decide +kernel
theorem dL_loads_237 : decode cL_loads 237 = .ok (.invokevirtual 53, 3) := by decide +kernel
theorem dL_loads_240 : decode cL_loads 240 = .ok (.aload_n 0, 1) := by decide +kernel
theorem dL_loads_241 : decode cL_loads 241 = .ok (.iload 6, 2) := by decide +kernel
theorem dL_loads_243 : decode cL_loads 243 = .ok (.invokevirtual 57, 3) := by decide +kernel
theorem dL_loads_246 : decode cL_loads 246 = .ok (.aload_n 0, 1) := by decide +kernel
theorem dL_loads_247 : decode cL_loads 247 = .ok (.iload 5, 2) := by decide +kernel
theorem dL_loads_249 : decode cL_loads 249 = .ok (.iconst 4, 1) := by decide +kernel
theorem dL_loads_250 : decode cL_loads 250 = .ok (.idiv, 1) := by decide +kernel
theorem dL_loads_251 : decode cL_loads 251 = .ok (.iload 6, 2) := by decide +kernel
theorem dL_loads_253 : decode cL_loads 253 = .ok (.irem, 1) := by decide +kernel
theorem dL_loads_254 : decode cL_loads 254 = .ok (.invokevirtual 57, 3) := by decide +kernel
theorem dL_loads_257 : decode cL_loads 257 = .ok (.aload_n 0, 1) := by decide +kernel
theorem dL_loads_258 : decode cL_loads 258 = .ok (.iconst 1, 1) := by decide +kernel
theorem dL_loads_259 : decode cL_loads 259 = .ok (.iload 5, 2) := by decide +kernel
theorem dL_loads_261 : decode cL_loads 261 = .ok (.bipush 16, 2) := by decide +kernel
theorem dL_loads_263 : decode cL_loads 263 = .ok (.idiv, 1) := by decide +kernel
theorem dL_loads_264 : decode cL_loads 264 = .ok (.iconst 3, 1) := by decide +kernel
theorem dL_loads_265 : decode cL_loads 265 = .ok (.irem, 1) := by decide +kernel
theorem dL_loads_266 : decode cL_loads 266 = .ok (.iadd, 1) := by decide +kernel
theorem dL_loads_267 : decode cL_loads 267 = .ok (.invokevirtual 57, 3) := by decide +kernel
theorem dL_loads_270 : decode cL_loads 270 = .ok (.aload_n 0, 1) := by decide +kernel
theorem dL_loads_271 : decode cL_loads 271 = .ok (.ldc 62, 2) := by decide +kernel
theorem dL_loads_273 : decode cL_loads 273 = .ok (.invokevirtual 53, 3) := by decide +kernel
theorem dL_loads_276 : decode cL_loads 276 = .ok (.iinc 4 1, 3) := by decide +kernel
theorem dL_loads_279 : decode cL_loads 279 = .ok (.goto (-74), 3) := by decide +kernel
theorem dL_loads_282 : decode cL_loads 282 = .ok (.aload_n 1, 1) := by decide +kernel
theorem dL_loads_283 : decode cL_loads 283 = .ok (.aload_n 0, 1) := by decide +kernel
theorem dL_loads_284 : decode cL_loads 284 = .ok (.aload_n 1, 1) := by decide +kernel
theorem dL_loads_285 : decode cL_loads 285 = .ok (.invokevirtual 74, 3) := by decide +kernel
theorem dL_loads_288 : decode cL_loads 288 = .ok (.invokevirtual 78, 3) := by decide +kernel
theorem dL_loads_291 : decode cL_loads 291 = .ok (.aload_n 0, 1) := by decide +kernel
theorem dL_loads_292 : decode cL_loads 292 = .ok (.getfield 45, 3) := by decide +kernel
theorem dL_loads_295 : decode cL_loads 295 = .ok (.if_icmp .ne 36, 3) := by decide +kernel
theorem dL_loads_298 : decode cL_loads 298 = .ok (.aload_n 1, 1) := by decide +kernel
theorem dL_loads_299 : decode cL_loads 299 = .ok (.invokevirtual 82, 3) := by decide +kernel
theorem dL_loads_302 : decode cL_loads 302 = .ok (.ifCond .ne 29, 3) := by decide +kernel
theorem dL_loads_305 : decode cL_loads 305 = .ok (.aload_n 1, 1) := by decide +kernel
theorem dL_loads_306 : decode cL_loads 306 = .ok (.invokevirtual 85, 3) := by decide +kernel
theorem dL_loads_309 : decode cL_loads 309 = .ok (.iconst (-1), 1) := by decide +kernel
theorem dL_loads_310 : decode cL_loads 310 = .ok (.if_icmp .ne 21, 3) := by decide +kernel
theorem dL_loads_313 : decode cL_loads 313 = .ok (.aload_n 1, 1) := by decide +kernel
theorem dL_loads_314 : decode cL_loads 314 = .ok (.invokevirtual 88, 3) := by decide +kernel
theorem dL_loads_317 : decode cL_loads 317 = .ok (.ifCond .ne 14, 3) := by decide +kernel
theorem dL_loads_320 : decode cL_loads 320 = .ok (.aload_n 1, 1) := by decide +kernel
theorem dL_loads_321 : decode cL_loads 321 = .ok (.invokevirtual 91, 3) := by decide +kernel
theorem dL_loads_324 : decode cL_loads 324 = .ok (.ifCond .ne 7, 3) := by decide +kernel
theorem dL_loads_327 : decode cL_loads 327 = .ok (.iconst 1, 1) := by decide +kernel
theorem dL_loads_328 : decode cL_loads 328 = .ok (.goto 4, 3) := by decide +kernel
theorem dL_loads_331 : decode cL_loads 331 = .ok (.iconst 0, 1) := by decide +kernel
theorem dL_loads_332 : decode cL_loads 332 = .ok (.ireturn, 1) := by decide +kernel
theorem dL_king_0 : decode cL_king 0 = .ok (.iconst 0, 1) := by decide +kernel
theorem dL_king_1 : decode cL_king 1 = .ok (.istore_n 3, 1) := by decide +kernel
theorem dL_king_2 : decode cL_king 2 = .ok (.iload_n 3, 1) := by decide +kernel
theorem dL_king_3 : decode cL_king 3 = .ok (.aload_n 0, 1) := by decide +kernel
theorem dL_king_4 : decode cL_king 4 = .ok (.getfield 45, 3) := by decide +kernel
theorem dL_king_7 : decode cL_king 7 = .ok (.if_icmp .ge 33, 3) := by decide +kernel
theorem dL_king_10 : decode cL_king 10 = .ok (.aload_n 1, 1) := by decide +kernel
theorem dL_king_11 : decode cL_king 11 = .ok (.iload_n 2, 1) := by decide +kernel
theorem dL_king_12 : decode cL_king 12 = .ok (.iload_n 3, 1) := by decide +kernel
theorem dL_king_13 : decode cL_king 13 = .ok (.iadd, 1) := by decide +kernel
theorem dL_king_14 : decode cL_king 14 = .ok (.aload_n 0, 1) := by decide +kernel
theorem dL_king_15 : decode cL_king 15 = .ok (.getfield 45, 3) := by decide +kernel
theorem dL_king_18 : decode cL_king 18 = .ok (.irem, 1) := by decide +kernel
theorem dL_king_19 : decode cL_king 19 = .ok (.invokevirtual 94, 3) := by decide +kernel
theorem dL_king_22 : decode cL_king 22 = .ok (.ifCond .eq 12, 3) := by decide +kernel
theorem dL_king_25 : decode cL_king 25 = .ok (.iload_n 2, 1) := by decide +kernel
theorem dL_king_26 : decode cL_king 26 = .ok (.iload_n 3, 1) := by decide +kernel
theorem dL_king_27 : decode cL_king 27 = .ok (.iadd, 1) := by decide +kernel
theorem dL_king_28 : decode cL_king 28 = .ok (.aload_n 0, 1) := by decide +kernel
theorem dL_king_29 : decode cL_king 29 = .ok (.getfield 45, 3) := by decide +kernel
theorem dL_king_32 : decode cL_king 32 = .ok (.irem, 1) := by decide +kernel
theorem dL_king_33 : decode cL_king 33 = .ok (.ireturn, 1) := by decide +kernel
theorem dL_king_34 : decode cL_king 34 = .ok (.iinc 3 1, 3) := by decide +kernel
theorem dL_king_37 : decode cL_king 37 = .ok (.goto (-35), 3) := by decide +kernel
theorem dL_king_40 : decode cL_king 40 = .ok (.iload_n 2, 1) := by decide +kernel
theorem dL_king_41 : decode cL_king 41 = .ok (.ireturn, 1) := by decide +kernel
theorem dL_acts_0 : decode cL_acts 0 = .ok (.iload_n 2, 1) := by decide +kernel
theorem dL_acts_1 : decode cL_acts 1 = .ok (.bipush 16, 2) := by decide +kernel
theorem dL_acts_3 : decode cL_acts 3 = .ok (.idiv, 1) := by decide +kernel
theorem dL_acts_4 : decode cL_acts 4 = .ok (.istore_n 3, 1) := by decide +kernel
theorem dL_acts_5 : decode cL_acts 5 = .ok (.iload_n 3, 1) := by decide +kernel
theorem dL_acts_6 : decode cL_acts 6 = .ok (.aload_n 0, 1) := by decide +kernel
theorem dL_acts_7 : decode cL_acts 7 = .ok (.getfield 45, 3) := by decide +kernel
theorem dL_acts_10 : decode cL_acts 10 = .ok (.irem, 1) := by decide +kernel
theorem dL_acts_11 : decode cL_acts 11 = .ok (.istore 4, 2) := by decide +kernel
theorem dL_acts_13 : decode cL_acts 13 = .ok (.iload 4, 2) := by decide +kernel
theorem dL_acts_15 : decode cL_acts 15 = .ok (.iconst 1, 1) := by decide +kernel
theorem dL_acts_16 : decode cL_acts 16 = .ok (.iadd, 1) := by decide +kernel
theorem dL_acts_17 : decode cL_acts 17 = .ok (.iload_n 3, 1) := by decide +kernel
theorem dL_acts_18 : decode cL_acts 18 = .ok (.bipush 8, 2) := by decide +kernel
theorem dL_acts_20 : decode cL_acts 20 = .ok (.idiv, 1) := by decide +kernel
theorem dL_acts_21 : decode cL_acts 21 = .ok (.aload_n 0, 1) := by decide +kernel
theorem dL_acts_22 : decode cL_acts 22 = .ok (.getfield 45, 3) := by decide +kernel
theorem dL_acts_25 : decode cL_acts 25 = .ok (.iconst 1, 1) := by decide +kernel
theorem dL_acts_26 : decode cL_acts 26 = .ok (.isub, 1) := by decide +kernel
theorem dL_acts_27 : decode cL_acts 27 = .ok (.irem, 1) := by decide +kernel
theorem dL_acts_28 : decode cL_acts 28 = .ok (.iadd, 1) := by decide +kernel
theorem dL_acts_29 : decode cL_acts 29 = .ok (.aload_n 0, 1) := by decide +kernel
theorem dL_acts_30 : decode cL_acts 30 = .ok (.getfield 45, 3) := by decide +kernel
theorem dL_acts_33 : decode cL_acts 33 = .ok (.irem, 1) := by decide +kernel
theorem dL_acts_34 : decode cL_acts 34 = .ok (.istore 5, 2) := by decide +kernel
theorem dL_acts_36 : decode cL_acts 36 = .ok (.aload_n 0, 1) := by decide +kernel
theorem dL_acts_37 : decode cL_acts 37 = .ok (.aload_n 1, 1) := by decide +kernel
theorem dL_acts_38 : decode cL_acts 38 = .ok (.iload 5, 2) := by decide +kernel
theorem dL_acts_40 : decode cL_acts 40 = .ok (.invokevirtual 98, 3) := by decide +kernel
theorem dL_acts_43 : decode cL_acts 43 = .ok (.istore 6, 2) := by decide +kernel
theorem dL_acts_45 : decode cL_acts 45 = .ok (.iload_n 2, 1) := by decide +kernel
theorem dL_acts_46 : decode cL_acts 46 = .ok (.bipush 13, 2) := by decide +kernel
theorem dL_acts_48 : decode cL_acts 48 = .ok (.irem, 1) := by decide +kernel
theorem dL_acts_49 : decode cL_acts 49 = .ok (.tableswitch 335 0 9 #[55, 92, 137, 174, 225, 257, 257, 257, 289, 313], 55) := by decide +kernel
theorem dL_acts_104 : decode cL_acts 104 = .ok (.aload_n 1, 1) := by decide +kernel
theorem dL_acts_105 : decode cL_acts 105 = .ok (.iload 4, 2) := by decide +kernel
theorem dL_acts_107 : decode cL_acts 107 = .ok (.invokevirtual 101, 3) := by decide +kernel
theorem dL_acts_110 : decode cL_acts 110 = .ok (.ifCond .le 29, 3) := by decide +kernel
theorem dL_acts_113 : decode cL_acts 113 = .ok (.aload_n 1, 1) := by decide +kernel
theorem dL_acts_114 : decode cL_acts 114 = .ok (.iload 4, 2) := by decide +kernel
theorem dL_acts_116 : decode cL_acts 116 = .ok (.iconst 1, 1) := by decide +kernel
theorem dL_acts_117 : decode cL_acts 117 = .ok (.iload_n 3, 1) := by decide +kernel
theorem dL_acts_118 : decode cL_acts 118 = .ok (.bipush 64, 2) := by decide +kernel
theorem dL_acts_120 : decode cL_acts 120 = .ok (.idiv, 1) := by decide +kernel
theorem dL_acts_121 : decode cL_acts 121 = .ok (.aload_n 1, 1) := by decide +kernel
theorem dL_acts_122 : decode cL_acts 122 = .ok (.iload 4, 2) := by decide +kernel
theorem dL_acts_124 : decode cL_acts 124 = .ok (.invokevirtual 101, 3) := by decide +kernel
theorem dL_acts_127 : decode cL_acts 127 = .ok (.irem, 1) := by decide +kernel
theorem dL_acts_128 : decode cL_acts 128 = .ok (.iadd, 1) := by decide +kernel
theorem dL_acts_129 : decode cL_acts 129 = .ok (.invokevirtual 104, 3) := by decide +kernel
theorem dL_acts_132 : decode cL_acts 132 = .ok (.ifCond .le 7, 3) := by decide +kernel
theorem dL_acts_135 : decode cL_acts 135 = .ok (.iconst 1, 1) := by decide +kernel
theorem dL_acts_136 : decode cL_acts 136 = .ok (.goto 4, 3) := by decide +kernel
theorem dL_acts_139 : decode cL_acts 139 = .ok (.iconst 0, 1) := by decide +kernel
theorem dL_acts_140 : decode cL_acts 140 = .ok (.ireturn, 1) := by decide +kernel
theorem dL_acts_141 : decode cL_acts 141 = .ok (.aload_n 1, 1) := by decide +kernel
theorem dL_acts_142 : decode cL_acts 142 = .ok (.aload_n 1, 1) := by decide +kernel
theorem dL_acts_143 : decode cL_acts 143 = .ok (.iload 4, 2) := by decide +kernel
theorem dL_acts_145 : decode cL_acts 145 = .ok (.invokevirtual 108, 3) := by decide +kernel
theorem dL_acts_148 : decode cL_acts 148 = .ok (.invokevirtual 111, 3) := by decide +kernel
theorem dL_acts_151 : decode cL_acts 151 = .ok (.ifCond .le 33, 3) := by decide +kernel
theorem dL_acts_154 : decode cL_acts 154 = .ok (.aload_n 1, 1) := by decide +kernel
theorem dL_acts_155 : decode cL_acts 155 = .ok (.iload 4, 2) := by decide +kernel
theorem dL_acts_157 : decode cL_acts 157 = .ok (.iconst 1, 1) := by decide +kernel
theorem dL_acts_158 : decode cL_acts 158 = .ok (.iload_n 3, 1) := by decide +kernel
theorem dL_acts_159 : decode cL_acts 159 = .ok (.bipush 64, 2) := by decide +kernel
theorem dL_acts_161 : decode cL_acts 161 = .ok (.idiv, 1) := by decide +kernel
theorem dL_acts_162 : decode cL_acts 162 = .ok (.aload_n 1, 1) := by decide +kernel
theorem dL_acts_163 : decode cL_acts 163 = .ok (.aload_n 1, 1) := by decide +kernel
theorem dL_acts_164 : decode cL_acts 164 = .ok (.iload 4, 2) := by decide +kernel
theorem dL_acts_166 : decode cL_acts 166 = .ok (.invokevirtual 108, 3) := by decide +kernel
theorem dL_acts_169 : decode cL_acts 169 = .ok (.invokevirtual 111, 3) := by decide +kernel
theorem dL_acts_172 : decode cL_acts 172 = .ok (.irem, 1) := by decide +kernel
theorem dL_acts_173 : decode cL_acts 173 = .ok (.iadd, 1) := by decide +kernel
theorem dL_acts_174 : decode cL_acts 174 = .ok (.invokevirtual 115, 3) := by decide +kernel
theorem dL_acts_177 : decode cL_acts 177 = .ok (.ifCond .le 7, 3) := by decide +kernel
theorem dL_acts_180 : decode cL_acts 180 = .ok (.iconst 1, 1) := by decide +kernel
theorem dL_acts_181 : decode cL_acts 181 = .ok (.goto 4, 3) := by decide +kernel
theorem dL_acts_184 : decode cL_acts 184 = .ok (.iconst 0, 1) := by decide +kernel
theorem dL_acts_185 : decode cL_acts 185 = .ok (.ireturn, 1) := by decide +kernel
theorem dL_acts_186 : decode cL_acts 186 = .ok (.aload_n 1, 1) := by decide +kernel
theorem dL_acts_187 : decode cL_acts 187 = .ok (.iload 6, 2) := by decide +kernel
theorem dL_acts_189 : decode cL_acts 189 = .ok (.invokevirtual 94, 3) := by decide +kernel
theorem dL_acts_192 : decode cL_acts 192 = .ok (.ifCond .eq 29, 3) := by decide +kernel
theorem dL_acts_195 : decode cL_acts 195 = .ok (.aload_n 1, 1) := by decide +kernel
theorem dL_acts_196 : decode cL_acts 196 = .ok (.iload 6, 2) := by decide +kernel
theorem dL_acts_198 : decode cL_acts 198 = .ok (.invokevirtual 118, 3) := by decide +kernel
theorem dL_acts_201 : decode cL_acts 201 = .ok (.iload 4, 2) := by decide +kernel
theorem dL_acts_203 : decode cL_acts 203 = .ok (.if_icmp .ne 18, 3) := by decide +kernel
theorem dL_acts_206 : decode cL_acts 206 = .ok (.aload_n 1, 1) := by decide +kernel
theorem dL_acts_207 : decode cL_acts 207 = .ok (.iload 4, 2) := by decide +kernel
theorem dL_acts_209 : decode cL_acts 209 = .ok (.iload 6, 2) := by decide +kernel
theorem dL_acts_211 : decode cL_acts 211 = .ok (.invokevirtual 121, 3) := by decide +kernel
theorem dL_acts_214 : decode cL_acts 214 = .ok (.ifCond .lt 7, 3) := by decide +kernel
theorem dL_acts_217 : decode cL_acts 217 = .ok (.iconst 1, 1) := by decide +kernel
theorem dL_acts_218 : decode cL_acts 218 = .ok (.goto 4, 3) := by decide +kernel
theorem dL_acts_221 : decode cL_acts 221 = .ok (.iconst 0, 1) := by decide +kernel
theorem dL_acts_222 : decode cL_acts 222 = .ok (.ireturn, 1) := by decide +kernel
theorem dL_acts_223 : decode cL_acts 223 = .ok (.aload_n 1, 1) := by decide +kernel
theorem dL_acts_224 : decode cL_acts 224 = .ok (.iload 6, 2) := by decide +kernel
theorem dL_acts_226 : decode cL_acts 226 = .ok (.invokevirtual 94, 3) := by decide +kernel
theorem dL_acts_229 : decode cL_acts 229 = .ok (.ifCond .eq 43, 3) := by decide +kernel
theorem dL_acts_232 : decode cL_acts 232 = .ok (.aload_n 1, 1) := by decide +kernel
theorem dL_acts_233 : decode cL_acts 233 = .ok (.iload 6, 2) := by decide +kernel
theorem dL_acts_235 : decode cL_acts 235 = .ok (.invokevirtual 118, 3) := by decide +kernel
theorem dL_acts_238 : decode cL_acts 238 = .ok (.iconst (-1), 1) := by decide +kernel
theorem dL_acts_239 : decode cL_acts 239 = .ok (.if_icmp .ne 33, 3) := by decide +kernel
theorem dL_acts_242 : decode cL_acts 242 = .ok (.aload_n 1, 1) := by decide +kernel
theorem dL_acts_243 : decode cL_acts 243 = .ok (.iload 6, 2) := by decide +kernel
theorem dL_acts_245 : decode cL_acts 245 = .ok (.invokevirtual 124, 3) := by decide +kernel
theorem dL_acts_248 : decode cL_acts 248 = .ok (.aload_n 1, 1) := by decide +kernel
theorem dL_acts_249 : decode cL_acts 249 = .ok (.iload 4, 2) := by decide +kernel
theorem dL_acts_251 : decode cL_acts 251 = .ok (.invokevirtual 108, 3) := by decide +kernel
theorem dL_acts_254 : decode cL_acts 254 = .ok (.if_icmp .ne 18, 3) := by decide +kernel
theorem dL_acts_257 : decode cL_acts 257 = .ok (.aload_n 1, 1) := by decide +kernel
theorem dL_acts_258 : decode cL_acts 258 = .ok (.iload 4, 2) := by decide +kernel
theorem dL_acts_260 : decode cL_acts 260 = .ok (.iload 6, 2) := by decide +kernel
theorem dL_acts_262 : decode cL_acts 262 = .ok (.invokevirtual 127, 3) := by decide +kernel
theorem dL_acts_265 : decode cL_acts 265 = .ok (.ifCond .le 7, 3) := by decide +kernel
theorem dL_acts_268 : decode cL_acts 268 = .ok (.iconst 1, 1) := by decide +kernel
theorem dL_acts_269 : decode cL_acts 269 = .ok (.goto 4, 3) := by decide +kernel
theorem dL_acts_272 : decode cL_acts 272 = .ok (.iconst 0, 1) := by decide +kernel
theorem dL_acts_273 : decode cL_acts 273 = .ok (.ireturn, 1) := by decide +kernel
theorem dL_acts_274 : decode cL_acts 274 = .ok (.aload_n 1, 1) := by decide +kernel
theorem dL_acts_275 : decode cL_acts 275 = .ok (.iload 4, 2) := by decide +kernel
theorem dL_acts_277 : decode cL_acts 277 = .ok (.invokevirtual 108, 3) := by decide +kernel
theorem dL_acts_280 : decode cL_acts 280 = .ok (.aload_n 1, 1) := by decide +kernel
theorem dL_acts_281 : decode cL_acts 281 = .ok (.iload 5, 2) := by decide +kernel
theorem dL_acts_283 : decode cL_acts 283 = .ok (.invokevirtual 108, 3) := by decide +kernel
theorem dL_acts_286 : decode cL_acts 286 = .ok (.if_icmp .ne 18, 3) := by decide +kernel
theorem dL_acts_289 : decode cL_acts 289 = .ok (.aload_n 1, 1) := by decide +kernel
theorem dL_acts_290 : decode cL_acts 290 = .ok (.iload 4, 2) := by decide +kernel
theorem dL_acts_292 : decode cL_acts 292 = .ok (.iload 5, 2) := by decide +kernel
theorem dL_acts_294 : decode cL_acts 294 = .ok (.invokevirtual 130, 3) := by decide +kernel
theorem dL_acts_297 : decode cL_acts 297 = .ok (.ifCond .lt 7, 3) := by decide +kernel
theorem dL_acts_300 : decode cL_acts 300 = .ok (.iconst 1, 1) := by decide +kernel
theorem dL_acts_301 : decode cL_acts 301 = .ok (.goto 4, 3) := by decide +kernel
theorem dL_acts_304 : decode cL_acts 304 = .ok (.iconst 0, 1) := by decide +kernel
theorem dL_acts_305 : decode cL_acts 305 = .ok (.ireturn, 1) := by decide +kernel
theorem dL_acts_306 : decode cL_acts 306 = .ok (.aload_n 1, 1) := by decide +kernel
theorem dL_acts_307 : decode cL_acts 307 = .ok (.iload 4, 2) := by decide +kernel
theorem dL_acts_309 : decode cL_acts 309 = .ok (.invokevirtual 133, 3) := by decide +kernel
theorem dL_acts_312 : decode cL_acts 312 = .ok (.iconst (-1), 1) := by decide +kernel
theorem dL_acts_313 : decode cL_acts 313 = .ok (.if_icmp .ne 23, 3) := by decide +kernel
theorem dL_acts_316 : decode cL_acts 316 = .ok (.aload_n 1, 1) := by decide +kernel
theorem dL_acts_317 : decode cL_acts 317 = .ok (.iload 4, 2) := by decide +kernel
theorem dL_acts_319 : decode cL_acts 319 = .ok (.iload_n 3, 1) := by decide +kernel
theorem dL_acts_320 : decode cL_acts 320 = .ok (.bipush 64, 2) := by decide +kernel
theorem dL_acts_322 : decode cL_acts 322 = .ok (.idiv, 1) := by decide +kernel
theorem dL_acts_323 : decode cL_acts 323 = .ok (.bipush 6, 2) := by decide +kernel
theorem dL_acts_325 : decode cL_acts 325 = .ok (.irem, 1) := by decide +kernel
theorem dL_acts_326 : decode cL_acts 326 = .ok (.invokevirtual 136, 3) := by decide +kernel
theorem dL_acts_329 : decode cL_acts 329 = .ok (.ifCond .lt 7, 3) := by decide +kernel
theorem dL_acts_332 : decode cL_acts 332 = .ok (.iconst 1, 1) := by decide +kernel
theorem dL_acts_333 : decode cL_acts 333 = .ok (.goto 4, 3) := by decide +kernel
theorem dL_acts_336 : decode cL_acts 336 = .ok (.iconst 0, 1) := by decide +kernel
theorem dL_acts_337 : decode cL_acts 337 = .ok (.ireturn, 1) := by decide +kernel
theorem dL_acts_338 : decode cL_acts 338 = .ok (.aload_n 1, 1) := by decide +kernel
theorem dL_acts_339 : decode cL_acts 339 = .ok (.iload 4, 2) := by decide +kernel
theorem dL_acts_341 : decode cL_acts 341 = .ok (.invokevirtual 133, 3) := by decide +kernel
theorem dL_acts_344 : decode cL_acts 344 = .ok (.ifCond .lt 16, 3) := by decide +kernel
theorem dL_acts_347 : decode cL_acts 347 = .ok (.aload_n 1, 1) := by decide +kernel
theorem dL_acts_348 : decode cL_acts 348 = .ok (.iload 4, 2) := by decide +kernel
theorem dL_acts_350 : decode cL_acts 350 = .ok (.invokevirtual 139, 3) := by decide +kernel
theorem dL_acts_353 : decode cL_acts 353 = .ok (.ifCond .lt 7, 3) := by decide +kernel
theorem dL_acts_356 : decode cL_acts 356 = .ok (.iconst 1, 1) := by decide +kernel
theorem dL_acts_357 : decode cL_acts 357 = .ok (.goto 4, 3) := by decide +kernel
theorem dL_acts_360 : decode cL_acts 360 = .ok (.iconst 0, 1) := by decide +kernel
theorem dL_acts_361 : decode cL_acts 361 = .ok (.ireturn, 1) := by decide +kernel
theorem dL_acts_362 : decode cL_acts 362 = .ok (.aload_n 1, 1) := by decide +kernel
theorem dL_acts_363 : decode cL_acts 363 = .ok (.iload 4, 2) := by decide +kernel
theorem dL_acts_365 : decode cL_acts 365 = .ok (.iload_n 3, 1) := by decide +kernel
theorem dL_acts_366 : decode cL_acts 366 = .ok (.bipush 64, 2) := by decide +kernel
theorem dL_acts_368 : decode cL_acts 368 = .ok (.idiv, 1) := by decide +kernel
theorem dL_acts_369 : decode cL_acts 369 = .ok (.bipush 41, 2) := by decide +kernel
theorem dL_acts_371 : decode cL_acts 371 = .ok (.irem, 1) := by decide +kernel
theorem dL_acts_372 : decode cL_acts 372 = .ok (.invokevirtual 142, 3) := by decide +kernel
theorem dL_acts_375 : decode cL_acts 375 = .ok (.ifCond .lt 7, 3) := by decide +kernel
theorem dL_acts_378 : decode cL_acts 378 = .ok (.iconst 1, 1) := by decide +kernel
theorem dL_acts_379 : decode cL_acts 379 = .ok (.goto 4, 3) := by decide +kernel
theorem dL_acts_382 : decode cL_acts 382 = .ok (.iconst 0, 1) := by decide +kernel
theorem dL_acts_383 : decode cL_acts 383 = .ok (.ireturn, 1) := by decide +kernel
theorem dL_acts_384 : decode cL_acts 384 = .ok (.aload_n 1, 1) := by decide +kernel
theorem dL_acts_385 : decode cL_acts 385 = .ok (.iconst 1, 1) := by decide +kernel
theorem dL_acts_386 : decode cL_acts 386 = .ok (.iload_n 3, 1) := by decide +kernel
theorem dL_acts_387 : decode cL_acts 387 = .ok (.iconst 3, 1) := by decide +kernel
theorem dL_acts_388 : decode cL_acts 388 = .ok (.irem, 1) := by decide +kernel
theorem dL_acts_389 : decode cL_acts 389 = .ok (.iadd, 1) := by decide +kernel
theorem dL_acts_390 : decode cL_acts 390 = .ok (.invokevirtual 145, 3) := by decide +kernel
theorem dL_acts_393 : decode cL_acts 393 = .ok (.ifCond .lt 7, 3) := by decide +kernel
theorem dL_acts_396 : decode cL_acts 396 = .ok (.iconst 1, 1) := by decide +kernel
theorem dL_acts_397 : decode cL_acts 397 = .ok (.goto 4, 3) := by decide +kernel
theorem dL_acts_400 : decode cL_acts 400 = .ok (.iconst 0, 1) := by decide +kernel
theorem dL_acts_401 : decode cL_acts 401 = .ok (.ireturn, 1) := by decide +kernel
theorem dL_law_0 : decode cL_law 0 = .ok (.new 8, 3) := by decide +kernel
theorem dL_law_3 : decode cL_law 3 = .ok (.dup, 1) := by decide +kernel
theorem dL_law_4 : decode cL_law 4 = .ok (.invokespecial 148, 3) := by decide +kernel
theorem dL_law_7 : decode cL_law 7 = .ok (.astore_n 1, 1) := by decide +kernel
theorem dL_law_8 : decode cL_law 8 = .ok (.new 36, 3) := by decide +kernel
theorem dL_law_11 : decode cL_law 11 = .ok (.dup, 1) := by decide +kernel
theorem dL_law_12 : decode cL_law 12 = .ok (.invokespecial 149, 3) := by decide +kernel
theorem dL_law_15 : decode cL_law 15 = .ok (.astore_n 2, 1) := by decide +kernel
theorem dL_law_16 : decode cL_law 16 = .ok (.aload_n 1, 1) := by decide +kernel
theorem dL_law_17 : decode cL_law 17 = .ok (.aload_n 2, 1) := by decide +kernel
theorem dL_law_18 : decode cL_law 18 = .ok (.aload_n 0, 1) := by decide +kernel
theorem dL_law_19 : decode cL_law 19 = .ok (.invokevirtual 150, 3) := by decide +kernel
theorem dL_law_22 : decode cL_law 22 = .ok (.ifCond .ne 5, 3) := by decide +kernel
theorem dL_law_25 : decode cL_law 25 = .ok (.iconst 0, 1) := by decide +kernel
theorem dL_law_26 : decode cL_law 26 = .ok (.ireturn, 1) := by decide +kernel
theorem dL_law_27 : decode cL_law 27 = .ok (.aload_n 1, 1) := by decide +kernel
theorem dL_law_28 : decode cL_law 28 = .ok (.aload_n 2, 1) := by decide +kernel
theorem dL_law_29 : decode cL_law 29 = .ok (.invokevirtual 154, 3) := by decide +kernel
theorem dL_law_32 : decode cL_law 32 = .ok (.istore_n 3, 1) := by decide +kernel
theorem dL_law_33 : decode cL_law 33 = .ok (.iconst 3, 1) := by decide +kernel
theorem dL_law_34 : decode cL_law 34 = .ok (.istore 4, 2) := by decide +kernel
theorem dL_law_36 : decode cL_law 36 = .ok (.iload 4, 2) := by decide +kernel
theorem dL_law_38 : decode cL_law 38 = .ok (.bipush 19, 2) := by decide +kernel
theorem dL_law_40 : decode cL_law 40 = .ok (.if_icmp .ge 91, 3) := by decide +kernel
theorem dL_law_43 : decode cL_law 43 = .ok (.aload_n 2, 1) := by decide +kernel
theorem dL_law_44 : decode cL_law 44 = .ok (.invokevirtual 156, 3) := by decide +kernel
theorem dL_law_47 : decode cL_law 47 = .ok (.istore 5, 2) := by decide +kernel
theorem dL_law_49 : decode cL_law 49 = .ok (.aload_n 1, 1) := by decide +kernel
theorem dL_law_50 : decode cL_law 50 = .ok (.aload_n 2, 1) := by decide +kernel
theorem dL_law_51 : decode cL_law 51 = .ok (.invokevirtual 159, 3) := by decide +kernel
theorem dL_law_54 : decode cL_law 54 = .ok (.istore 6, 2) := by decide +kernel
theorem dL_law_56 : decode cL_law 56 = .ok (.aload_n 1, 1) := by decide +kernel
theorem dL_law_57 : decode cL_law 57 = .ok (.aload_n 2, 1) := by decide +kernel
theorem dL_law_58 : decode cL_law 58 = .ok (.aload_n 0, 1) := by decide +kernel
theorem dL_law_59 : decode cL_law 59 = .ok (.iload 4, 2) := by decide +kernel
theorem dL_law_61 : decode cL_law 61 = .ok (.invokestatic 41, 3) := by decide +kernel
theorem dL_law_64 : decode cL_law 64 = .ok (.invokevirtual 162, 3) := by decide +kernel
theorem dL_law_67 : decode cL_law 67 = .ok (.istore 7, 2) := by decide +kernel
theorem dL_law_69 : decode cL_law 69 = .ok (.aload_n 1, 1) := by decide +kernel
theorem dL_law_70 : decode cL_law 70 = .ok (.aload_n 2, 1) := by decide +kernel
theorem dL_law_71 : decode cL_law 71 = .ok (.invokevirtual 154, 3) := by decide +kernel
theorem dL_law_74 : decode cL_law 74 = .ok (.iload_n 3, 1) := by decide +kernel
theorem dL_law_75 : decode cL_law 75 = .ok (.if_icmp .ne 18, 3) := by decide +kernel
theorem dL_law_78 : decode cL_law 78 = .ok (.aload_n 2, 1) := by decide +kernel
theorem dL_law_79 : decode cL_law 79 = .ok (.invokevirtual 166, 3) := by decide +kernel
theorem dL_law_82 : decode cL_law 82 = .ok (.ifCond .ne 11, 3) := by decide +kernel
theorem dL_law_85 : decode cL_law 85 = .ok (.aload_n 1, 1) := by decide +kernel
theorem dL_law_86 : decode cL_law 86 = .ok (.aload_n 2, 1) := by decide +kernel
theorem dL_law_87 : decode cL_law 87 = .ok (.invokevirtual 169, 3) := by decide +kernel
theorem dL_law_90 : decode cL_law 90 = .ok (.ifCond .ne 5, 3) := by decide +kernel
theorem dL_law_93 : decode cL_law 93 = .ok (.iconst 0, 1) := by decide +kernel
theorem dL_law_94 : decode cL_law 94 = .ok (.ireturn, 1) := by decide +kernel
theorem dL_law_95 : decode cL_law 95 = .ok (.aload_n 2, 1) := by decide +kernel
theorem dL_law_96 : decode cL_law 96 = .ok (.invokevirtual 156, 3) := by decide +kernel
theorem dL_law_99 : decode cL_law 99 = .ok (.iload 5, 2) := by decide +kernel
theorem dL_law_101 : decode cL_law 101 = .ok (.if_icmp .lt 22, 3) := by decide +kernel
theorem dL_law_104 : decode cL_law 104 = .ok (.aload_n 2, 1) := by decide +kernel
theorem dL_law_105 : decode cL_law 105 = .ok (.invokevirtual 156, 3) := by decide +kernel
theorem dL_law_108 : decode cL_law 108 = .ok (.iload 5, 2) := by decide +kernel
theorem dL_law_110 : decode cL_law 110 = .ok (.if_icmp .le 15, 3) := by decide +kernel
theorem dL_law_113 : decode cL_law 113 = .ok (.aload_n 1, 1) := by decide +kernel
theorem dL_law_114 : decode cL_law 114 = .ok (.aload_n 2, 1) := by decide +kernel
theorem dL_law_115 : decode cL_law 115 = .ok (.invokevirtual 159, 3) := by decide +kernel
theorem dL_law_118 : decode cL_law 118 = .ok (.iload 6, 2) := by decide +kernel
theorem dL_law_120 : decode cL_law 120 = .ok (.if_icmp .ne 5, 3) := by decide +kernel
theorem dL_law_123 : decode cL_law 123 = .ok (.iconst 0, 1) := by decide +kernel
theorem dL_law_124 : decode cL_law 124 = .ok (.ireturn, 1) := by decide +kernel
theorem dL_law_125 : decode cL_law 125 = .ok (.iinc 4 1, 3) := by decide +kernel
theorem dL_law_128 : decode cL_law 128 = .ok (.goto (-92), 3) := by decide +kernel
theorem dL_law_131 : decode cL_law 131 = .ok (.iconst 1, 1) := by decide +kernel
theorem dL_law_132 : decode cL_law 132 = .ok (.ireturn, 1) := by decide +kernel
theorem dL_coins_0 : decode cL_coins 0 = .ok (.aload_n 1, 1) := by decide +kernel
theorem dL_coins_1 : decode cL_coins 1 = .ok (.invokevirtual 91, 3) := by decide +kernel
theorem dL_coins_4 : decode cL_coins 4 = .ok (.aload_n 1, 1) := by decide +kernel
theorem dL_coins_5 : decode cL_coins 5 = .ok (.iconst 0, 1) := by decide +kernel
theorem dL_coins_6 : decode cL_coins 6 = .ok (.invokevirtual 111, 3) := by decide +kernel
theorem dL_coins_9 : decode cL_coins 9 = .ok (.iadd, 1) := by decide +kernel
theorem dL_coins_10 : decode cL_coins 10 = .ok (.aload_n 1, 1) := by decide +kernel
theorem dL_coins_11 : decode cL_coins 11 = .ok (.iconst 1, 1) := by decide +kernel
theorem dL_coins_12 : decode cL_coins 12 = .ok (.invokevirtual 111, 3) := by decide +kernel
theorem dL_coins_15 : decode cL_coins 15 = .ok (.iadd, 1) := by decide +kernel
theorem dL_coins_16 : decode cL_coins 16 = .ok (.istore_n 2, 1) := by decide +kernel
theorem dL_coins_17 : decode cL_coins 17 = .ok (.iconst 0, 1) := by decide +kernel
theorem dL_coins_18 : decode cL_coins 18 = .ok (.istore_n 3, 1) := by decide +kernel
theorem dL_coins_19 : decode cL_coins 19 = .ok (.iload_n 3, 1) := by decide +kernel
theorem dL_coins_20 : decode cL_coins 20 = .ok (.aload_n 0, 1) := by decide +kernel
theorem dL_coins_21 : decode cL_coins 21 = .ok (.getfield 45, 3) := by decide +kernel
theorem dL_coins_24 : decode cL_coins 24 = .ok (.if_icmp .ge 17, 3) := by decide +kernel
theorem dL_coins_27 : decode cL_coins 27 = .ok (.iload_n 2, 1) := by decide +kernel
theorem dL_coins_28 : decode cL_coins 28 = .ok (.aload_n 1, 1) := by decide +kernel
theorem dL_coins_29 : decode cL_coins 29 = .ok (.iload_n 3, 1) := by decide +kernel
theorem dL_coins_30 : decode cL_coins 30 = .ok (.invokevirtual 101, 3) := by decide +kernel
theorem dL_coins_33 : decode cL_coins 33 = .ok (.iadd, 1) := by decide +kernel
theorem dL_coins_34 : decode cL_coins 34 = .ok (.istore_n 2, 1) := by decide +kernel
theorem dL_coins_35 : decode cL_coins 35 = .ok (.iinc 3 1, 3) := by decide +kernel
theorem dL_coins_38 : decode cL_coins 38 = .ok (.goto (-19), 3) := by decide +kernel
theorem dL_coins_41 : decode cL_coins 41 = .ok (.iload_n 2, 1) := by decide +kernel
theorem dL_coins_42 : decode cL_coins 42 = .ok (.ireturn, 1) := by decide +kernel
theorem dL_crossed_0 : decode cL_crossed 0 = .ok (.iconst 0, 1) := by decide +kernel
theorem dL_crossed_1 : decode cL_crossed 1 = .ok (.istore_n 2, 1) := by decide +kernel
theorem dL_crossed_2 : decode cL_crossed 2 = .ok (.iconst 0, 1) := by decide +kernel
theorem dL_crossed_3 : decode cL_crossed 3 = .ok (.istore_n 3, 1) := by decide +kernel
theorem dL_crossed_4 : decode cL_crossed 4 = .ok (.iload_n 3, 1) := by decide +kernel
theorem dL_crossed_5 : decode cL_crossed 5 = .ok (.aload_n 0, 1) := by decide +kernel
theorem dL_crossed_6 : decode cL_crossed 6 = .ok (.getfield 45, 3) := by decide +kernel
theorem dL_crossed_9 : decode cL_crossed 9 = .ok (.if_icmp .ge 17, 3) := by decide +kernel
theorem dL_crossed_12 : decode cL_crossed 12 = .ok (.iload_n 2, 1) := by decide +kernel
theorem dL_crossed_13 : decode cL_crossed 13 = .ok (.aload_n 1, 1) := by decide +kernel
theorem dL_crossed_14 : decode cL_crossed 14 = .ok (.iload_n 3, 1) := by decide +kernel
theorem dL_crossed_15 : decode cL_crossed 15 = .ok (.invokevirtual 173, 3) := by decide +kernel
theorem dL_crossed_18 : decode cL_crossed 18 = .ok (.iadd, 1) := by decide +kernel
theorem dL_crossed_19 : decode cL_crossed 19 = .ok (.istore_n 2, 1) := by decide +kernel
theorem dL_crossed_20 : decode cL_crossed 20 = .ok (.iinc 3 1, 3) := by decide +kernel
theorem dL_crossed_23 : decode cL_crossed 23 = .ok (.goto (-19), 3) := by decide +kernel
theorem dL_crossed_26 : decode cL_crossed 26 = .ok (.iload_n 2, 1) := by decide +kernel
theorem dL_crossed_27 : decode cL_crossed 27 = .ok (.ireturn, 1) := by decide +kernel
theorem dL_isWell_0 : decode cL_isWell 0 = .ok (.iconst 0, 1) := by decide +kernel
theorem dL_isWell_1 : decode cL_isWell 1 = .ok (.istore_n 2, 1) := by decide +kernel
theorem dL_isWell_2 : decode cL_isWell 2 = .ok (.iconst 0, 1) := by decide +kernel
theorem dL_isWell_3 : decode cL_isWell 3 = .ok (.istore_n 3, 1) := by decide +kernel
theorem dL_isWell_4 : decode cL_isWell 4 = .ok (.iconst 0, 1) := by decide +kernel
theorem dL_isWell_5 : decode cL_isWell 5 = .ok (.istore 4, 2) := by decide +kernel
theorem dL_isWell_7 : decode cL_isWell 7 = .ok (.iconst 0, 1) := by decide +kernel
theorem dL_isWell_8 : decode cL_isWell 8 = .ok (.istore 5, 2) := by decide +kernel
theorem dL_isWell_10 : decode cL_isWell 10 = .ok (.iconst 0, 1) := by decide +kernel
theorem dL_isWell_11 : decode cL_isWell 11 = .ok (.istore 6, 2) := by decide +kernel
theorem dL_isWell_13 : decode cL_isWell 13 = .ok (.iload 6, 2) := by decide +kernel
theorem dL_isWell_15 : decode cL_isWell 15 = .ok (.aload_n 0, 1) := by decide +kernel
theorem dL_isWell_16 : decode cL_isWell 16 = .ok (.getfield 45, 3) := by decide +kernel
theorem dL_isWell_19 : decode cL_isWell 19 = .ok (.if_icmp .ge 131, 3) := by decide +kernel
theorem dL_isWell_22 : decode cL_isWell 22 = .ok (.aload_n 1, 1) := by decide +kernel
theorem dL_isWell_23 : decode cL_isWell 23 = .ok (.aload_n 1, 1) := by decide +kernel
theorem dL_isWell_24 : decode cL_isWell 24 = .ok (.iload 6, 2) := by decide +kernel
theorem dL_isWell_26 : decode cL_isWell 26 = .ok (.invokevirtual 176, 3) := by decide +kernel
theorem dL_isWell_29 : decode cL_isWell 29 = .ok (.invokevirtual 179, 3) := by decide +kernel
theorem dL_isWell_32 : decode cL_isWell 32 = .ok (.iload 6, 2) := by decide +kernel
theorem dL_isWell_34 : decode cL_isWell 34 = .ok (.if_icmp .ne 18, 3) := by decide +kernel
theorem dL_isWell_37 : decode cL_isWell 37 = .ok (.aload_n 1, 1) := by decide +kernel
theorem dL_isWell_38 : decode cL_isWell 38 = .ok (.aload_n 1, 1) := by decide +kernel
theorem dL_isWell_39 : decode cL_isWell 39 = .ok (.iload 6, 2) := by decide +kernel
theorem dL_isWell_41 : decode cL_isWell 41 = .ok (.invokevirtual 179, 3) := by decide +kernel
theorem dL_isWell_44 : decode cL_isWell 44 = .ok (.invokevirtual 176, 3) := by decide +kernel
theorem dL_isWell_47 : decode cL_isWell 47 = .ok (.iload 6, 2) := by decide +kernel
theorem dL_isWell_49 : decode cL_isWell 49 = .ok (.if_icmp .eq 5, 3) := by decide +kernel
theorem dL_isWell_52 : decode cL_isWell 52 = .ok (.iconst 0, 1) := by decide +kernel
theorem dL_isWell_53 : decode cL_isWell 53 = .ok (.ireturn, 1) := by decide +kernel
theorem dL_isWell_54 : decode cL_isWell 54 = .ok (.iload 5, 2) := by decide +kernel
theorem dL_isWell_56 : decode cL_isWell 56 = .ok (.aload_n 1, 1) := by decide +kernel
theorem dL_isWell_57 : decode cL_isWell 57 = .ok (.iload 6, 2) := by decide +kernel
theorem dL_isWell_59 : decode cL_isWell 59 = .ok (.invokevirtual 182, 3) := by decide +kernel
theorem dL_isWell_62 : decode cL_isWell 62 = .ok (.iadd, 1) := by decide +kernel
theorem dL_isWell_63 : decode cL_isWell 63 = .ok (.istore 5, 2) := by decide +kernel
theorem dL_isWell_65 : decode cL_isWell 65 = .ok (.aload_n 1, 1) := by decide +kernel
theorem dL_isWell_66 : decode cL_isWell 66 = .ok (.iload 6, 2) := by decide +kernel
theorem dL_isWell_68 : decode cL_isWell 68 = .ok (.invokevirtual 94, 3) := by decide +kernel
theorem dL_isWell_71 : decode cL_isWell 71 = .ok (.ifCond .ne 6, 3) := by decide +kernel
theorem dL_isWell_74 : decode cL_isWell 74 = .ok (.goto 70, 3) := by decide +kernel
theorem dL_isWell_77 : decode cL_isWell 77 = .ok (.iinc 2 1, 3) := by decide +kernel
theorem dL_isWell_80 : decode cL_isWell 80 = .ok (.iload_n 3, 1) := by decide +kernel
theorem dL_isWell_81 : decode cL_isWell 81 = .ok (.aload_n 1, 1) := by decide +kernel
theorem dL_isWell_82 : decode cL_isWell 82 = .ok (.iload 6, 2) := by decide +kernel
theorem dL_isWell_84 : decode cL_isWell 84 = .ok (.invokevirtual 185, 3) := by decide +kernel
theorem dL_isWell_87 : decode cL_isWell 87 = .ok (.ifCond .eq 7, 3) := by decide +kernel
theorem dL_isWell_90 : decode cL_isWell 90 = .ok (.iconst 1, 1) := by decide +kernel
theorem dL_isWell_91 : decode cL_isWell 91 = .ok (.goto 4, 3) := by decide +kernel
theorem dL_isWell_94 : decode cL_isWell 94 = .ok (.iconst 0, 1) := by decide +kernel
theorem dL_isWell_95 : decode cL_isWell 95 = .ok (.iadd, 1) := by decide +kernel
theorem dL_isWell_96 : decode cL_isWell 96 = .ok (.istore_n 3, 1) := by decide +kernel
theorem dL_isWell_97 : decode cL_isWell 97 = .ok (.aload_n 1, 1) := by decide +kernel
theorem dL_isWell_98 : decode cL_isWell 98 = .ok (.iload 6, 2) := by decide +kernel
theorem dL_isWell_100 : decode cL_isWell 100 = .ok (.invokevirtual 118, 3) := by decide +kernel
theorem dL_isWell_103 : decode cL_isWell 103 = .ok (.istore 7, 2) := by decide +kernel
theorem dL_isWell_105 : decode cL_isWell 105 = .ok (.iload 4, 2) := by decide +kernel
theorem dL_isWell_107 : decode cL_isWell 107 = .ok (.iload 7, 2) := by decide +kernel
theorem dL_isWell_109 : decode cL_isWell 109 = .ok (.iconst (-1), 1) := by decide +kernel
theorem dL_isWell_110 : decode cL_isWell 110 = .ok (.if_icmp .ne 7, 3) := by decide +kernel
theorem dL_isWell_113 : decode cL_isWell 113 = .ok (.iconst 0, 1) := by decide +kernel
theorem dL_isWell_114 : decode cL_isWell 114 = .ok (.goto 4, 3) := by decide +kernel
theorem dL_isWell_117 : decode cL_isWell 117 = .ok (.iconst 1, 1) := by decide +kernel
theorem dL_isWell_118 : decode cL_isWell 118 = .ok (.iadd, 1) := by decide +kernel
theorem dL_isWell_119 : decode cL_isWell 119 = .ok (.istore 4, 2) := by decide +kernel
theorem dL_isWell_121 : decode cL_isWell 121 = .ok (.iload 7, 2) := by decide +kernel
theorem dL_isWell_123 : decode cL_isWell 123 = .ok (.iconst (-1), 1) := by decide +kernel
theorem dL_isWell_124 : decode cL_isWell 124 = .ok (.if_icmp .eq 20, 3) := by decide +kernel
theorem dL_isWell_127 : decode cL_isWell 127 = .ok (.aload_n 1, 1) := by decide +kernel
theorem dL_isWell_128 : decode cL_isWell 128 = .ok (.iload 6, 2) := by decide +kernel
theorem dL_isWell_130 : decode cL_isWell 130 = .ok (.invokevirtual 124, 3) := by decide +kernel
theorem dL_isWell_133 : decode cL_isWell 133 = .ok (.aload_n 1, 1) := by decide +kernel
theorem dL_isWell_134 : decode cL_isWell 134 = .ok (.iload 7, 2) := by decide +kernel
theorem dL_isWell_136 : decode cL_isWell 136 = .ok (.invokevirtual 108, 3) := by decide +kernel
theorem dL_isWell_139 : decode cL_isWell 139 = .ok (.if_icmp .eq 5, 3) := by decide +kernel
theorem dL_isWell_142 : decode cL_isWell 142 = .ok (.iconst 0, 1) := by decide +kernel
theorem dL_isWell_143 : decode cL_isWell 143 = .ok (.ireturn, 1) := by decide +kernel
theorem dL_isWell_144 : decode cL_isWell 144 = .ok (.iinc 6 1, 3) := by decide +kernel
theorem dL_isWell_147 : decode cL_isWell 147 = .ok (.goto (-134), 3) := by decide +kernel
theorem dL_isWell_150 : decode cL_isWell 150 = .ok (.iload_n 2, 1) := by decide +kernel
theorem dL_isWell_151 : decode cL_isWell 151 = .ok (.aload_n 1, 1) := by decide +kernel
theorem dL_isWell_152 : decode cL_isWell 152 = .ok (.invokevirtual 188, 3) := by decide +kernel
theorem dL_isWell_155 : decode cL_isWell 155 = .ok (.if_icmp .ne 74, 3) := by decide +kernel
theorem dL_isWell_158 : decode cL_isWell 158 = .ok (.iload_n 3, 1) := by decide +kernel
theorem dL_isWell_159 : decode cL_isWell 159 = .ok (.aload_n 1, 1) := by decide +kernel
theorem dL_isWell_160 : decode cL_isWell 160 = .ok (.invokevirtual 156, 3) := by decide +kernel
theorem dL_isWell_163 : decode cL_isWell 163 = .ok (.if_icmp .ne 66, 3) := by decide +kernel
theorem dL_isWell_166 : decode cL_isWell 166 = .ok (.iload 4, 2) := by decide +kernel
theorem dL_isWell_168 : decode cL_isWell 168 = .ok (.iload 5, 2) := by decide +kernel
theorem dL_isWell_170 : decode cL_isWell 170 = .ok (.if_icmp .ne 59, 3) := by decide +kernel
theorem dL_isWell_173 : decode cL_isWell 173 = .ok (.aload_n 1, 1) := by decide +kernel
theorem dL_isWell_174 : decode cL_isWell 174 = .ok (.iconst 0, 1) := by decide +kernel
theorem dL_isWell_175 : decode cL_isWell 175 = .ok (.invokevirtual 191, 3) := by decide +kernel
theorem dL_isWell_178 : decode cL_isWell 178 = .ok (.aload_n 1, 1) := by decide +kernel
theorem dL_isWell_179 : decode cL_isWell 179 = .ok (.iconst 1, 1) := by decide +kernel
theorem dL_isWell_180 : decode cL_isWell 180 = .ok (.invokevirtual 191, 3) := by decide +kernel
theorem dL_isWell_183 : decode cL_isWell 183 = .ok (.iadd, 1) := by decide +kernel
theorem dL_isWell_184 : decode cL_isWell 184 = .ok (.aload_n 0, 1) := by decide +kernel
theorem dL_isWell_185 : decode cL_isWell 185 = .ok (.getfield 45, 3) := by decide +kernel
theorem dL_isWell_188 : decode cL_isWell 188 = .ok (.if_icmp .ne 41, 3) := by decide +kernel
theorem dL_isWell_191 : decode cL_isWell 191 = .ok (.aload_n 0, 1) := by decide +kernel
theorem dL_isWell_192 : decode cL_isWell 192 = .ok (.aload_n 1, 1) := by decide +kernel
theorem dL_isWell_193 : decode cL_isWell 193 = .ok (.iconst 0, 1) := by decide +kernel
theorem dL_isWell_194 : decode cL_isWell 194 = .ok (.invokevirtual 194, 3) := by decide +kernel
theorem dL_isWell_197 : decode cL_isWell 197 = .ok (.ifCond .eq 32, 3) := by decide +kernel
theorem dL_isWell_200 : decode cL_isWell 200 = .ok (.aload_n 0, 1) := by decide +kernel
theorem dL_isWell_201 : decode cL_isWell 201 = .ok (.aload_n 1, 1) := by decide +kernel
theorem dL_isWell_202 : decode cL_isWell 202 = .ok (.iconst 1, 1) := by decide +kernel
theorem dL_isWell_203 : decode cL_isWell 203 = .ok (.invokevirtual 194, 3) := by decide +kernel
theorem dL_isWell_206 : decode cL_isWell 206 = .ok (.ifCond .eq 23, 3) := by decide +kernel
theorem dL_isWell_209 : decode cL_isWell 209 = .ok (.aload_n 1, 1) := by decide +kernel
theorem dL_isWell_210 : decode cL_isWell 210 = .ok (.invokevirtual 198, 3) := by decide +kernel
theorem dL_isWell_213 : decode cL_isWell 213 = .ok (.ifCond .lt 16, 3) := by decide +kernel
theorem dL_isWell_216 : decode cL_isWell 216 = .ok (.aload_n 1, 1) := by decide +kernel
theorem dL_isWell_217 : decode cL_isWell 217 = .ok (.invokevirtual 198, 3) := by decide +kernel
theorem dL_isWell_220 : decode cL_isWell 220 = .ok (.bipush 90, 2) := by decide +kernel
theorem dL_isWell_222 : decode cL_isWell 222 = .ok (.if_icmp .gt 7, 3) := by decide +kernel
theorem dL_isWell_225 : decode cL_isWell 225 = .ok (.iconst 1, 1) := by decide +kernel
theorem dL_isWell_226 : decode cL_isWell 226 = .ok (.goto 4, 3) := by decide +kernel
theorem dL_isWell_229 : decode cL_isWell 229 = .ok (.iconst 0, 1) := by decide +kernel
theorem dL_isWell_230 : decode cL_isWell 230 = .ok (.ireturn, 1) := by decide +kernel
theorem dL_isOrdered_0 : decode cL_isOrdered 0 = .ok (.iconst 0, 1) := by decide +kernel
theorem dL_isOrdered_1 : decode cL_isOrdered 1 = .ok (.istore_n 3, 1) := by decide +kernel
theorem dL_isOrdered_2 : decode cL_isOrdered 2 = .ok (.iconst 0, 1) := by decide +kernel
theorem dL_isOrdered_3 : decode cL_isOrdered 3 = .ok (.istore 4, 2) := by decide +kernel
theorem dL_isOrdered_5 : decode cL_isOrdered 5 = .ok (.iload 4, 2) := by decide +kernel
theorem dL_isOrdered_7 : decode cL_isOrdered 7 = .ok (.aload_n 0, 1) := by decide +kernel
theorem dL_isOrdered_8 : decode cL_isOrdered 8 = .ok (.getfield 45, 3) := by decide +kernel
theorem dL_isOrdered_11 : decode cL_isOrdered 11 = .ok (.if_icmp .ge 36, 3) := by decide +kernel
theorem dL_isOrdered_14 : decode cL_isOrdered 14 = .ok (.iload_n 3, 1) := by decide +kernel
theorem dL_isOrdered_15 : decode cL_isOrdered 15 = .ok (.aload_n 1, 1) := by decide +kernel
theorem dL_isOrdered_16 : decode cL_isOrdered 16 = .ok (.iload 4, 2) := by decide +kernel
theorem dL_isOrdered_18 : decode cL_isOrdered 18 = .ok (.invokevirtual 133, 3) := by decide +kernel
theorem dL_isOrdered_21 : decode cL_isOrdered 21 = .ok (.ifCond .lt 17, 3) := by decide +kernel
theorem dL_isOrdered_24 : decode cL_isOrdered 24 = .ok (.aload_n 1, 1) := by decide +kernel
theorem dL_isOrdered_25 : decode cL_isOrdered 25 = .ok (.iload 4, 2) := by decide +kernel
theorem dL_isOrdered_27 : decode cL_isOrdered 27 = .ok (.invokevirtual 108, 3) := by decide +kernel
theorem dL_isOrdered_30 : decode cL_isOrdered 30 = .ok (.iload_n 2, 1) := by decide +kernel
theorem dL_isOrdered_31 : decode cL_isOrdered 31 = .ok (.if_icmp .ne 7, 3) := by decide +kernel
theorem dL_isOrdered_34 : decode cL_isOrdered 34 = .ok (.iconst 1, 1) := by decide +kernel
theorem dL_isOrdered_35 : decode cL_isOrdered 35 = .ok (.goto 4, 3) := by decide +kernel
theorem dL_isOrdered_38 : decode cL_isOrdered 38 = .ok (.iconst 0, 1) := by decide +kernel
theorem dL_isOrdered_39 : decode cL_isOrdered 39 = .ok (.iadd, 1) := by decide +kernel
theorem dL_isOrdered_40 : decode cL_isOrdered 40 = .ok (.istore_n 3, 1) := by decide +kernel
theorem dL_isOrdered_41 : decode cL_isOrdered 41 = .ok (.iinc 4 1, 3) := by decide +kernel
theorem dL_isOrdered_44 : decode cL_isOrdered 44 = .ok (.goto (-39), 3) := by decide +kernel
theorem dL_isOrdered_47 : decode cL_isOrdered 47 = .ok (.aload_n 1, 1) := by decide +kernel
theorem dL_isOrdered_48 : decode cL_isOrdered 48 = .ok (.iload_n 2, 1) := by decide +kernel
theorem dL_isOrdered_49 : decode cL_isOrdered 49 = .ok (.invokevirtual 201, 3) := by decide +kernel
theorem dL_isOrdered_52 : decode cL_isOrdered 52 = .ok (.iload_n 3, 1) := by decide +kernel
theorem dL_isOrdered_53 : decode cL_isOrdered 53 = .ok (.if_icmp .ne 23, 3) := by decide +kernel
theorem dL_isOrdered_56 : decode cL_isOrdered 56 = .ok (.aload_n 1, 1) := by decide +kernel
theorem dL_isOrdered_57 : decode cL_isOrdered 57 = .ok (.iload_n 2, 1) := by decide +kernel
theorem dL_isOrdered_58 : decode cL_isOrdered 58 = .ok (.iload_n 3, 1) := by decide +kernel
theorem dL_isOrdered_59 : decode cL_isOrdered 59 = .ok (.invokevirtual 204, 3) := by decide +kernel
theorem dL_isOrdered_62 : decode cL_isOrdered 62 = .ok (.iconst (-1), 1) := by decide +kernel
theorem dL_isOrdered_63 : decode cL_isOrdered 63 = .ok (.if_icmp .ne 13, 3) := by decide +kernel
theorem dL_isOrdered_66 : decode cL_isOrdered 66 = .ok (.aload_n 1, 1) := by decide +kernel
theorem dL_isOrdered_67 : decode cL_isOrdered 67 = .ok (.iload_n 2, 1) := by decide +kernel
theorem dL_isOrdered_68 : decode cL_isOrdered 68 = .ok (.iconst (-1), 1) := by decide +kernel
theorem dL_isOrdered_69 : decode cL_isOrdered 69 = .ok (.invokevirtual 204, 3) := by decide +kernel
theorem dL_isOrdered_72 : decode cL_isOrdered 72 = .ok (.iconst (-1), 1) := by decide +kernel
theorem dL_isOrdered_73 : decode cL_isOrdered 73 = .ok (.if_icmp .eq 5, 3) := by decide +kernel
theorem dL_isOrdered_76 : decode cL_isOrdered 76 = .ok (.iconst 0, 1) := by decide +kernel
theorem dL_isOrdered_77 : decode cL_isOrdered 77 = .ok (.ireturn, 1) := by decide +kernel
theorem dL_isOrdered_78 : decode cL_isOrdered 78 = .ok (.iconst 0, 1) := by decide +kernel
theorem dL_isOrdered_79 : decode cL_isOrdered 79 = .ok (.istore 4, 2) := by decide +kernel
theorem dL_isOrdered_81 : decode cL_isOrdered 81 = .ok (.iload 4, 2) := by decide +kernel
theorem dL_isOrdered_83 : decode cL_isOrdered 83 = .ok (.iload_n 3, 1) := by decide +kernel
theorem dL_isOrdered_84 : decode cL_isOrdered 84 = .ok (.if_icmp .ge 68, 3) := by decide +kernel
theorem dL_isOrdered_87 : decode cL_isOrdered 87 = .ok (.aload_n 1, 1) := by decide +kernel
theorem dL_isOrdered_88 : decode cL_isOrdered 88 = .ok (.iload_n 2, 1) := by decide +kernel
theorem dL_isOrdered_89 : decode cL_isOrdered 89 = .ok (.iload 4, 2) := by decide +kernel
theorem dL_isOrdered_91 : decode cL_isOrdered 91 = .ok (.invokevirtual 204, 3) := by decide +kernel
theorem dL_isOrdered_94 : decode cL_isOrdered 94 = .ok (.istore 5, 2) := by decide +kernel
theorem dL_isOrdered_96 : decode cL_isOrdered 96 = .ok (.aload_n 1, 1) := by decide +kernel
theorem dL_isOrdered_97 : decode cL_isOrdered 97 = .ok (.iload 5, 2) := by decide +kernel
theorem dL_isOrdered_99 : decode cL_isOrdered 99 = .ok (.invokevirtual 108, 3) := by decide +kernel
theorem dL_isOrdered_102 : decode cL_isOrdered 102 = .ok (.iload_n 2, 1) := by decide +kernel
theorem dL_isOrdered_103 : decode cL_isOrdered 103 = .ok (.if_icmp .ne 12, 3) := by decide +kernel
theorem dL_isOrdered_106 : decode cL_isOrdered 106 = .ok (.aload_n 1, 1) := by decide +kernel
theorem dL_isOrdered_107 : decode cL_isOrdered 107 = .ok (.iload 5, 2) := by decide +kernel
theorem dL_isOrdered_109 : decode cL_isOrdered 109 = .ok (.invokevirtual 133, 3) := by decide +kernel
theorem dL_isOrdered_112 : decode cL_isOrdered 112 = .ok (.ifCond .ge 5, 3) := by decide +kernel
theorem dL_isOrdered_115 : decode cL_isOrdered 115 = .ok (.iconst 0, 1) := by decide +kernel
theorem dL_isOrdered_116 : decode cL_isOrdered 116 = .ok (.ireturn, 1) := by decide +kernel
theorem dL_isOrdered_117 : decode cL_isOrdered 117 = .ok (.iload 4, 2) := by decide +kernel
theorem dL_isOrdered_119 : decode cL_isOrdered 119 = .ok (.ifCond .le 27, 3) := by decide +kernel
theorem dL_isOrdered_122 : decode cL_isOrdered 122 = .ok (.aload_n 1, 1) := by decide +kernel
theorem dL_isOrdered_123 : decode cL_isOrdered 123 = .ok (.iload 5, 2) := by decide +kernel
theorem dL_isOrdered_125 : decode cL_isOrdered 125 = .ok (.invokevirtual 133, 3) := by decide +kernel
theorem dL_isOrdered_128 : decode cL_isOrdered 128 = .ok (.aload_n 1, 1) := by decide +kernel
theorem dL_isOrdered_129 : decode cL_isOrdered 129 = .ok (.aload_n 1, 1) := by decide +kernel
theorem dL_isOrdered_130 : decode cL_isOrdered 130 = .ok (.iload_n 2, 1) := by decide +kernel
theorem dL_isOrdered_131 : decode cL_isOrdered 131 = .ok (.iload 4, 2) := by decide +kernel
theorem dL_isOrdered_133 : decode cL_isOrdered 133 = .ok (.iconst 1, 1) := by decide +kernel
theorem dL_isOrdered_134 : decode cL_isOrdered 134 = .ok (.isub, 1) := by decide +kernel
theorem dL_isOrdered_135 : decode cL_isOrdered 135 = .ok (.invokevirtual 204, 3) := by decide +kernel
theorem dL_isOrdered_138 : decode cL_isOrdered 138 = .ok (.invokevirtual 133, 3) := by decide +kernel
theorem dL_isOrdered_141 : decode cL_isOrdered 141 = .ok (.if_icmp .le 5, 3) := by decide +kernel
theorem dL_isOrdered_144 : decode cL_isOrdered 144 = .ok (.iconst 0, 1) := by decide +kernel
theorem dL_isOrdered_145 : decode cL_isOrdered 145 = .ok (.ireturn, 1) := by decide +kernel
theorem dL_isOrdered_146 : decode cL_isOrdered 146 = .ok (.iinc 4 1, 3) := by decide +kernel
theorem dL_isOrdered_149 : decode cL_isOrdered 149 = .ok (.goto (-68), 3) := by decide +kernel
theorem dL_isOrdered_152 : decode cL_isOrdered 152 = .ok (.iconst 1, 1) := by decide +kernel
theorem dL_isOrdered_153 : decode cL_isOrdered 153 = .ok (.ireturn, 1) := by decide +kernel
