theorem dX1_init_0 : decode cX1_init 0 = .ok (.aload_n 0, 1) := by decide +kernel
theorem dX1_init_1 : decode cX1_init 1 = .ok (.invokespecial 3, 3) := by decide +kernel
theorem dX1_init_4 : decode cX1_init 4 = .ok (.aload_n 0, 1) := by decide +kernel
theorem dX1_init_5 : decode cX1_init 5 = .ok (.bipush 8, 2) := by decide +kernel
theorem dX1_init_7 : decode cX1_init 7 = .ok (.anewarray 9, 3) := by decide +kernel
theorem dX1_init_10 : decode cX1_init 10 = .ok (.putfield 11, 3) := by decide +kernel
theorem dX1_init_13 : decode cX1_init 13 = .ok (.iconst 0, 1) := by decide +kernel
theorem dX1_init_14 : decode cX1_init 14 = .ok (.istore_n 2, 1) := by decide +kernel
theorem dX1_init_15 : decode cX1_init 15 = .ok (.iload_n 2, 1) := by decide +kernel
theorem dX1_init_16 : decode cX1_init 16 = .ok (.aload_n 0, 1) := by decide +kernel
theorem dX1_init_17 : decode cX1_init 17 = .ok (.getfield 11, 3) := by decide +kernel
theorem dX1_init_20 : decode cX1_init 20 = .ok (.arraylength, 1) := by decide +kernel
theorem dX1_init_21 : decode cX1_init 21 = .ok (.if_icmp .ge 23, 3) := by decide +kernel
theorem dX1_init_24 : decode cX1_init 24 = .ok (.aload_n 0, 1) := by decide +kernel
theorem dX1_init_25 : decode cX1_init 25 = .ok (.getfield 11, 3) := by decide +kernel
theorem dX1_init_28 : decode cX1_init 28 = .ok (.iload_n 2, 1) := by decide +kernel
theorem dX1_init_29 : decode cX1_init 29 = .ok (.new 9, 3) := by decide +kernel
theorem dX1_init_32 : decode cX1_init 32 = .ok (.dup, 1) := by decide +kernel
theorem dX1_init_33 : decode cX1_init 33 = .ok (.aload_n 1, 1) := by decide +kernel
theorem dX1_init_34 : decode cX1_init 34 = .ok (.invokespecial 17, 3) := by decide +kernel
theorem dX1_init_37 : decode cX1_init 37 = .ok (.aastore, 1) := by decide +kernel
theorem dX1_init_38 : decode cX1_init 38 = .ok (.iinc 2 1, 3) := by decide +kernel
theorem dX1_init_41 : decode cX1_init 41 = .ok (.goto (-26), 3) := by decide +kernel
theorem dX1_init_44 : decode cX1_init 44 = .ok (.return_, 1) := by decide +kernel
theorem dX1_clear_0 : decode cX1_clear 0 = .ok (.aload_n 0, 1) := by decide +kernel
theorem dX1_clear_1 : decode cX1_clear 1 = .ok (.iconst 0, 1) := by decide +kernel
theorem dX1_clear_2 : decode cX1_clear 2 = .ok (.putfield 20, 3) := by decide +kernel
theorem dX1_clear_5 : decode cX1_clear 5 = .ok (.return_, 1) := by decide +kernel
theorem dX1_push_0 : decode cX1_push 0 = .ok (.aload_n 0, 1) := by decide +kernel
theorem dX1_push_1 : decode cX1_push 1 = .ok (.getfield 24, 3) := by decide +kernel
theorem dX1_push_4 : decode cX1_push 4 = .ok (.ifCond .lt 15, 3) := by decide +kernel
theorem dX1_push_7 : decode cX1_push 7 = .ok (.aload_n 0, 1) := by decide +kernel
theorem dX1_push_8 : decode cX1_push 8 = .ok (.getfield 24, 3) := by decide +kernel
theorem dX1_push_11 : decode cX1_push 11 = .ok (.aload_n 0, 1) := by decide +kernel
theorem dX1_push_12 : decode cX1_push 12 = .ok (.getfield 11, 3) := by decide +kernel
theorem dX1_push_15 : decode cX1_push 15 = .ok (.arraylength, 1) := by decide +kernel
theorem dX1_push_16 : decode cX1_push 16 = .ok (.if_icmp .lt 4, 3) := by decide +kernel
theorem dX1_push_19 : decode cX1_push 19 = .ok (.return_, 1) := by decide +kernel
theorem dX1_push_20 : decode cX1_push 20 = .ok (.aload_n 0, 1) := by decide +kernel
theorem dX1_push_21 : decode cX1_push 21 = .ok (.getfield 11, 3) := by decide +kernel
theorem dX1_push_24 : decode cX1_push 24 = .ok (.aload_n 0, 1) := by decide +kernel
theorem dX1_push_25 : decode cX1_push 25 = .ok (.getfield 24, 3) := by decide +kernel
theorem dX1_push_28 : decode cX1_push 28 = .ok (.aaload, 1) := by decide +kernel
theorem dX1_push_29 : decode cX1_push 29 = .ok (.astore_n 2, 1) := by decide +kernel
theorem dX1_push_30 : decode cX1_push 30 = .ok (.aload_n 2, 1) := by decide +kernel
theorem dX1_push_31 : decode cX1_push 31 = .ok (.ifnull 48, 3) := by decide +kernel
theorem dX1_push_34 : decode cX1_push 34 = .ok (.aload_n 2, 1) := by decide +kernel
theorem dX1_push_35 : decode cX1_push 35 = .ok (.aload_n 1, 1) := by decide +kernel
theorem dX1_push_36 : decode cX1_push 36 = .ok (.invokevirtual 27, 3) := by decide +kernel
theorem dX1_push_39 : decode cX1_push 39 = .ok (.aload_n 0, 1) := by decide +kernel
theorem dX1_push_40 : decode cX1_push 40 = .ok (.aload_n 0, 1) := by decide +kernel
theorem dX1_push_41 : decode cX1_push 41 = .ok (.getfield 24, 3) := by decide +kernel
theorem dX1_push_44 : decode cX1_push 44 = .ok (.iconst 1, 1) := by decide +kernel
theorem dX1_push_45 : decode cX1_push 45 = .ok (.iadd, 1) := by decide +kernel
theorem dX1_push_46 : decode cX1_push 46 = .ok (.bipush 8, 2) := by decide +kernel
theorem dX1_push_48 : decode cX1_push 48 = .ok (.if_icmp .ge 12, 3) := by decide +kernel
theorem dX1_push_51 : decode cX1_push 51 = .ok (.aload_n 0, 1) := by decide +kernel
theorem dX1_push_52 : decode cX1_push 52 = .ok (.getfield 24, 3) := by decide +kernel
theorem dX1_push_55 : decode cX1_push 55 = .ok (.iconst 1, 1) := by decide +kernel
theorem dX1_push_56 : decode cX1_push 56 = .ok (.iadd, 1) := by decide +kernel
theorem dX1_push_57 : decode cX1_push 57 = .ok (.goto 4, 3) := by decide +kernel
theorem dX1_push_60 : decode cX1_push 60 = .ok (.iconst 0, 1) := by decide +kernel
theorem dX1_push_61 : decode cX1_push 61 = .ok (.putfield 24, 3) := by decide +kernel
theorem dX1_push_64 : decode cX1_push 64 = .ok (.aload_n 0, 1) := by decide +kernel
theorem dX1_push_65 : decode cX1_push 65 = .ok (.bipush 8, 2) := by decide +kernel
theorem dX1_push_67 : decode cX1_push 67 = .ok (.aload_n 0, 1) := by decide +kernel
theorem dX1_push_68 : decode cX1_push 68 = .ok (.getfield 20, 3) := by decide +kernel
theorem dX1_push_71 : decode cX1_push 71 = .ok (.iconst 1, 1) := by decide +kernel
theorem dX1_push_72 : decode cX1_push 72 = .ok (.iadd, 1) := by decide +kernel
theorem dX1_push_73 : decode cX1_push 73 = .ok (.invokestatic 31, 3) := by decide +kernel
theorem dX1_push_76 : decode cX1_push 76 = .ok (.putfield 20, 3) := by decide +kernel
theorem dX1_push_79 : decode cX1_push 79 = .ok (.return_, 1) := by decide +kernel
theorem dX1_pop_0 : decode cX1_pop 0 = .ok (.aload_n 0, 1) := by decide +kernel
theorem dX1_pop_1 : decode cX1_pop 1 = .ok (.getfield 24, 3) := by decide +kernel
theorem dX1_pop_4 : decode cX1_pop 4 = .ok (.ifCond .le 12, 3) := by decide +kernel
theorem dX1_pop_7 : decode cX1_pop 7 = .ok (.aload_n 0, 1) := by decide +kernel
theorem dX1_pop_8 : decode cX1_pop 8 = .ok (.getfield 24, 3) := by decide +kernel
theorem dX1_pop_11 : decode cX1_pop 11 = .ok (.iconst 1, 1) := by decide +kernel
theorem dX1_pop_12 : decode cX1_pop 12 = .ok (.isub, 1) := by decide +kernel
theorem dX1_pop_13 : decode cX1_pop 13 = .ok (.goto 5, 3) := by decide +kernel
theorem dX1_pop_16 : decode cX1_pop 16 = .ok (.bipush 7, 2) := by decide +kernel
theorem dX1_pop_18 : decode cX1_pop 18 = .ok (.istore_n 2, 1) := by decide +kernel
theorem dX1_pop_19 : decode cX1_pop 19 = .ok (.iload_n 2, 1) := by decide +kernel
theorem dX1_pop_20 : decode cX1_pop 20 = .ok (.ifCond .lt 12, 3) := by decide +kernel
theorem dX1_pop_23 : decode cX1_pop 23 = .ok (.iload_n 2, 1) := by decide +kernel
theorem dX1_pop_24 : decode cX1_pop 24 = .ok (.aload_n 0, 1) := by decide +kernel
theorem dX1_pop_25 : decode cX1_pop 25 = .ok (.getfield 11, 3) := by decide +kernel
theorem dX1_pop_28 : decode cX1_pop 28 = .ok (.arraylength, 1) := by decide +kernel
theorem dX1_pop_29 : decode cX1_pop 29 = .ok (.if_icmp .lt 4, 3) := by decide +kernel
theorem dX1_pop_32 : decode cX1_pop 32 = .ok (.return_, 1) := by decide +kernel
theorem dX1_pop_33 : decode cX1_pop 33 = .ok (.aload_n 0, 1) := by decide +kernel
theorem dX1_pop_34 : decode cX1_pop 34 = .ok (.getfield 11, 3) := by decide +kernel
theorem dX1_pop_37 : decode cX1_pop 37 = .ok (.iload_n 2, 1) := by decide +kernel
theorem dX1_pop_38 : decode cX1_pop 38 = .ok (.aaload, 1) := by decide +kernel
theorem dX1_pop_39 : decode cX1_pop 39 = .ok (.astore_n 3, 1) := by decide +kernel
theorem dX1_pop_40 : decode cX1_pop 40 = .ok (.aload_n 3, 1) := by decide +kernel
theorem dX1_pop_41 : decode cX1_pop 41 = .ok (.ifnull 23, 3) := by decide +kernel
theorem dX1_pop_44 : decode cX1_pop 44 = .ok (.aload_n 1, 1) := by decide +kernel
theorem dX1_pop_45 : decode cX1_pop 45 = .ok (.aload_n 3, 1) := by decide +kernel
theorem dX1_pop_46 : decode cX1_pop 46 = .ok (.invokevirtual 27, 3) := by decide +kernel
theorem dX1_pop_49 : decode cX1_pop 49 = .ok (.aload_n 0, 1) := by decide +kernel
theorem dX1_pop_50 : decode cX1_pop 50 = .ok (.iload_n 2, 1) := by decide +kernel
theorem dX1_pop_51 : decode cX1_pop 51 = .ok (.putfield 24, 3) := by decide +kernel
theorem dX1_pop_54 : decode cX1_pop 54 = .ok (.aload_n 0, 1) := by decide +kernel
theorem dX1_pop_55 : decode cX1_pop 55 = .ok (.dup, 1) := by decide +kernel
theorem dX1_pop_56 : decode cX1_pop 56 = .ok (.getfield 20, 3) := by decide +kernel
theorem dX1_pop_59 : decode cX1_pop 59 = .ok (.iconst 1, 1) := by decide +kernel
theorem dX1_pop_60 : decode cX1_pop 60 = .ok (.isub, 1) := by decide +kernel
theorem dX1_pop_61 : decode cX1_pop 61 = .ok (.putfield 20, 3) := by decide +kernel
theorem dX1_pop_64 : decode cX1_pop 64 = .ok (.return_, 1) := by decide +kernel
theorem dX2_init_0 : decode cX2_init 0 = .ok (.aload_n 0, 1) := by decide +kernel
theorem dX2_init_1 : decode cX2_init 1 = .ok (.invokespecial 3, 3) := by decide +kernel
theorem dX2_init_4 : decode cX2_init 4 = .ok (.aload_n 0, 1) := by decide +kernel
theorem dX2_init_5 : decode cX2_init 5 = .ok (.iconst 2, 1) := by decide +kernel
theorem dX2_init_6 : decode cX2_init 6 = .ok (.newarray .int, 2) := by decide +kernel
theorem dX2_init_8 : decode cX2_init 8 = .ok (.putfield 9, 3) := by decide +kernel
theorem dX2_init_11 : decode cX2_init 11 = .ok (.aload_n 0, 1) := by decide +kernel
theorem dX2_init_12 : decode cX2_init 12 = .ok (.bipush 10, 2) := by decide +kernel
theorem dX2_init_14 : decode cX2_init 14 = .ok (.newarray .int, 2) := by decide +kernel
theorem dX2_init_16 : decode cX2_init 16 = .ok (.putfield 15, 3) := by decide +kernel
theorem dX2_init_19 : decode cX2_init 19 = .ok (.aload_n 0, 1) := by decide +kernel
theorem dX2_init_20 : decode cX2_init 20 = .ok (.bipush 10, 2) := by decide +kernel
theorem dX2_init_22 : decode cX2_init 22 = .ok (.newarray .int, 2) := by decide +kernel
theorem dX2_init_24 : decode cX2_init 24 = .ok (.putfield 18, 3) := by decide +kernel
theorem dX2_init_27 : decode cX2_init 27 = .ok (.aload_n 0, 1) := by decide +kernel
theorem dX2_init_28 : decode cX2_init 28 = .ok (.bipush 10, 2) := by decide +kernel
theorem dX2_init_30 : decode cX2_init 30 = .ok (.newarray .int, 2) := by decide +kernel
theorem dX2_init_32 : decode cX2_init 32 = .ok (.putfield 21, 3) := by decide +kernel
theorem dX2_init_35 : decode cX2_init 35 = .ok (.aload_n 0, 1) := by decide +kernel
theorem dX2_init_36 : decode cX2_init 36 = .ok (.bipush 10, 2) := by decide +kernel
theorem dX2_init_38 : decode cX2_init 38 = .ok (.newarray .int, 2) := by decide +kernel
theorem dX2_init_40 : decode cX2_init 40 = .ok (.putfield 24, 3) := by decide +kernel
theorem dX2_init_43 : decode cX2_init 43 = .ok (.aload_n 0, 1) := by decide +kernel
theorem dX2_init_44 : decode cX2_init 44 = .ok (.bipush 10, 2) := by decide +kernel
theorem dX2_init_46 : decode cX2_init 46 = .ok (.newarray .int, 2) := by decide +kernel
theorem dX2_init_48 : decode cX2_init 48 = .ok (.putfield 27, 3) := by decide +kernel
theorem dX2_init_51 : decode cX2_init 51 = .ok (.aload_n 0, 1) := by decide +kernel
theorem dX2_init_52 : decode cX2_init 52 = .ok (.bipush 10, 2) := by decide +kernel
theorem dX2_init_54 : decode cX2_init 54 = .ok (.newarray .int, 2) := by decide +kernel
theorem dX2_init_56 : decode cX2_init 56 = .ok (.putfield 30, 3) := by decide +kernel
theorem dX2_init_59 : decode cX2_init 59 = .ok (.aload_n 0, 1) := by decide +kernel
theorem dX2_init_60 : decode cX2_init 60 = .ok (.bipush 10, 2) := by decide +kernel
theorem dX2_init_62 : decode cX2_init 62 = .ok (.newarray .int, 2) := by decide +kernel
theorem dX2_init_64 : decode cX2_init 64 = .ok (.putfield 33, 3) := by decide +kernel
theorem dX2_init_67 : decode cX2_init 67 = .ok (.aload_n 0, 1) := by decide +kernel
theorem dX2_init_68 : decode cX2_init 68 = .ok (.bipush 10, 2) := by decide +kernel
theorem dX2_init_70 : decode cX2_init 70 = .ok (.newarray .int, 2) := by decide +kernel
theorem dX2_init_72 : decode cX2_init 72 = .ok (.putfield 36, 3) := by decide +kernel
theorem dX2_init_75 : decode cX2_init 75 = .ok (.aload_n 0, 1) := by decide +kernel
theorem dX2_init_76 : decode cX2_init 76 = .ok (.new 39, 3) := by decide +kernel
theorem dX2_init_79 : decode cX2_init 79 = .ok (.dup, 1) := by decide +kernel
theorem dX2_init_80 : decode cX2_init 80 = .ok (.invokespecial 41, 3) := by decide +kernel
theorem dX2_init_83 : decode cX2_init 83 = .ok (.putfield 42, 3) := by decide +kernel
theorem dX2_init_86 : decode cX2_init 86 = .ok (.aload_n 0, 1) := by decide +kernel
theorem dX2_init_87 : decode cX2_init 87 = .ok (.new 39, 3) := by decide +kernel
theorem dX2_init_90 : decode cX2_init 90 = .ok (.dup, 1) := by decide +kernel
theorem dX2_init_91 : decode cX2_init 91 = .ok (.invokespecial 41, 3) := by decide +kernel
theorem dX2_init_94 : decode cX2_init 94 = .ok (.putfield 46, 3) := by decide +kernel
theorem dX2_init_97 : decode cX2_init 97 = .ok (.aload_n 0, 1) := by decide +kernel
theorem dX2_init_98 : decode cX2_init 98 = .ok (.aload_n 1, 1) := by decide +kernel
theorem dX2_init_99 : decode cX2_init 99 = .ok (.putfield 49, 3) := by decide +kernel
theorem dX2_init_102 : decode cX2_init 102 = .ok (.return_, 1) := by decide +kernel
theorem dX2_begin_0 : decode cX2_begin 0 = .ok (.aload_n 0, 1) := by decide +kernel
theorem dX2_begin_1 : decode cX2_begin 1 = .ok (.iconst 0, 1) := by decide +kernel
theorem dX2_begin_2 : decode cX2_begin 2 = .ok (.putfield 53, 3) := by decide +kernel
theorem dX2_begin_5 : decode cX2_begin 5 = .ok (.aload_n 0, 1) := by decide +kernel
theorem dX2_begin_6 : decode cX2_begin 6 = .ok (.aload_n 0, 1) := by decide +kernel
theorem dX2_begin_7 : decode cX2_begin 7 = .ok (.getfield 49, 3) := by decide +kernel
theorem dX2_begin_10 : decode cX2_begin 10 = .ok (.getfield 57, 3) := by decide +kernel
theorem dX2_begin_13 : decode cX2_begin 13 = .ok (.putfield 62, 3) := by decide +kernel
theorem dX2_begin_16 : decode cX2_begin 16 = .ok (.aload_n 0, 1) := by decide +kernel
theorem dX2_begin_17 : decode cX2_begin 17 = .ok (.iconst 0, 1) := by decide +kernel
theorem dX2_begin_18 : decode cX2_begin 18 = .ok (.putfield 63, 3) := by decide +kernel
theorem dX2_begin_21 : decode cX2_begin 21 = .ok (.aload_n 0, 1) := by decide +kernel
theorem dX2_begin_22 : decode cX2_begin 22 = .ok (.getfield 9, 3) := by decide +kernel
theorem dX2_begin_25 : decode cX2_begin 25 = .ok (.iconst 0, 1) := by decide +kernel
theorem dX2_begin_26 : decode cX2_begin 26 = .ok (.iconst 0, 1) := by decide +kernel
theorem dX2_begin_27 : decode cX2_begin 27 = .ok (.invokestatic 66, 3) := by decide +kernel
theorem dX2_begin_30 : decode cX2_begin 30 = .ok (.aload_n 0, 1) := by decide +kernel
theorem dX2_begin_31 : decode cX2_begin 31 = .ok (.getfield 9, 3) := by decide +kernel
theorem dX2_begin_34 : decode cX2_begin 34 = .ok (.iconst 1, 1) := by decide +kernel
theorem dX2_begin_35 : decode cX2_begin 35 = .ok (.iconst 0, 1) := by decide +kernel
theorem dX2_begin_36 : decode cX2_begin 36 = .ok (.invokestatic 66, 3) := by decide +kernel
theorem dX2_begin_39 : decode cX2_begin 39 = .ok (.aload_n 0, 1) := by decide +kernel
theorem dX2_begin_40 : decode cX2_begin 40 = .ok (.getfield 42, 3) := by decide +kernel
theorem dX2_begin_43 : decode cX2_begin 43 = .ok (.iconst 0, 1) := by decide +kernel
theorem dX2_begin_44 : decode cX2_begin 44 = .ok (.putfield 70, 3) := by decide +kernel
theorem dX2_begin_47 : decode cX2_begin 47 = .ok (.aload_n 0, 1) := by decide +kernel
theorem dX2_begin_48 : decode cX2_begin 48 = .ok (.getfield 46, 3) := by decide +kernel
theorem dX2_begin_51 : decode cX2_begin 51 = .ok (.iconst 0, 1) := by decide +kernel
theorem dX2_begin_52 : decode cX2_begin 52 = .ok (.putfield 70, 3) := by decide +kernel
theorem dX2_begin_55 : decode cX2_begin 55 = .ok (.aload_n 0, 1) := by decide +kernel
theorem dX2_begin_56 : decode cX2_begin 56 = .ok (.getfield 49, 3) := by decide +kernel
theorem dX2_begin_59 : decode cX2_begin 59 = .ok (.getfield 73, 3) := by decide +kernel
theorem dX2_begin_62 : decode cX2_begin 62 = .ok (.aload_n 0, 1) := by decide +kernel
theorem dX2_begin_63 : decode cX2_begin 63 = .ok (.getfield 15, 3) := by decide +kernel
theorem dX2_begin_66 : decode cX2_begin 66 = .ok (.invokestatic 74, 3) := by decide +kernel
theorem dX2_begin_69 : decode cX2_begin 69 = .ok (.aload_n 0, 1) := by decide +kernel
theorem dX2_begin_70 : decode cX2_begin 70 = .ok (.getfield 49, 3) := by decide +kernel
theorem dX2_begin_73 : decode cX2_begin 73 = .ok (.getfield 78, 3) := by decide +kernel
theorem dX2_begin_76 : decode cX2_begin 76 = .ok (.aload_n 0, 1) := by decide +kernel
theorem dX2_begin_77 : decode cX2_begin 77 = .ok (.getfield 18, 3) := by decide +kernel
theorem dX2_begin_80 : decode cX2_begin 80 = .ok (.invokestatic 74, 3) := by decide +kernel
theorem dX2_begin_83 : decode cX2_begin 83 = .ok (.aload_n 0, 1) := by decide +kernel
theorem dX2_begin_84 : decode cX2_begin 84 = .ok (.getfield 49, 3) := by decide +kernel
theorem dX2_begin_87 : decode cX2_begin 87 = .ok (.getfield 79, 3) := by decide +kernel
theorem dX2_begin_90 : decode cX2_begin 90 = .ok (.aload_n 0, 1) := by decide +kernel
theorem dX2_begin_91 : decode cX2_begin 91 = .ok (.getfield 21, 3) := by decide +kernel
theorem dX2_begin_94 : decode cX2_begin 94 = .ok (.invokestatic 74, 3) := by decide +kernel
theorem dX2_begin_97 : decode cX2_begin 97 = .ok (.aload_n 0, 1) := by decide +kernel
theorem dX2_begin_98 : decode cX2_begin 98 = .ok (.getfield 49, 3) := by decide +kernel
theorem dX2_begin_101 : decode cX2_begin 101 = .ok (.getfield 73, 3) := by decide +kernel
theorem dX2_begin_104 : decode cX2_begin 104 = .ok (.aload_n 0, 1) := by decide +kernel
theorem dX2_begin_105 : decode cX2_begin 105 = .ok (.getfield 33, 3) := by decide +kernel
theorem dX2_begin_108 : decode cX2_begin 108 = .ok (.invokestatic 74, 3) := by decide +kernel
theorem dX2_begin_111 : decode cX2_begin 111 = .ok (.iconst 0, 1) := by decide +kernel
theorem dX2_begin_112 : decode cX2_begin 112 = .ok (.istore_n 1, 1) := by decide +kernel
theorem dX2_begin_113 : decode cX2_begin 113 = .ok (.iload_n 1, 1) := by decide +kernel
theorem dX2_begin_114 : decode cX2_begin 114 = .ok (.bipush 10, 2) := by decide +kernel
theorem dX2_begin_116 : decode cX2_begin 116 = .ok (.if_icmp .ge 60, 3) := by decide +kernel
theorem dX2_begin_119 : decode cX2_begin 119 = .ok (.aload_n 0, 1) := by decide +kernel
theorem dX2_begin_120 : decode cX2_begin 120 = .ok (.getfield 24, 3) := by decide +kernel
theorem dX2_begin_123 : decode cX2_begin 123 = .ok (.iload_n 1, 1) := by decide +kernel
theorem dX2_begin_124 : decode cX2_begin 124 = .ok (.iload_n 1, 1) := by decide +kernel
theorem dX2_begin_125 : decode cX2_begin 125 = .ok (.invokestatic 66, 3) := by decide +kernel
theorem dX2_begin_128 : decode cX2_begin 128 = .ok (.aload_n 0, 1) := by decide +kernel
theorem dX2_begin_129 : decode cX2_begin 129 = .ok (.getfield 27, 3) := by decide +kernel
theorem dX2_begin_132 : decode cX2_begin 132 = .ok (.iload_n 1, 1) := by decide +kernel
theorem dX2_begin_133 : decode cX2_begin 133 = .ok (.iconst 0, 1) := by decide +kernel
theorem dX2_begin_134 : decode cX2_begin 134 = .ok (.invokestatic 66, 3) := by decide +kernel
theorem dX2_begin_137 : decode cX2_begin 137 = .ok (.aload_n 0, 1) := by decide +kernel
theorem dX2_begin_138 : decode cX2_begin 138 = .ok (.getfield 30, 3) := by decide +kernel
theorem dX2_begin_141 : decode cX2_begin 141 = .ok (.iload_n 1, 1) := by decide +kernel
theorem dX2_begin_142 : decode cX2_begin 142 = .ok (.aload_n 0, 1) := by decide +kernel
theorem dX2_begin_143 : decode cX2_begin 143 = .ok (.getfield 49, 3) := by decide +kernel
theorem dX2_begin_146 : decode cX2_begin 146 = .ok (.iload_n 1, 1) := by decide +kernel
theorem dX2_begin_147 : decode cX2_begin 147 = .ok (.invokevirtual 80, 3) := by decide +kernel
theorem dX2_begin_150 : decode cX2_begin 150 = .ok (.ifCond .eq 7, 3) := by decide +kernel
theorem dX2_begin_153 : decode cX2_begin 153 = .ok (.iload_n 1, 1) := by decide +kernel
theorem dX2_begin_154 : decode cX2_begin 154 = .ok (.goto 4, 3) := by decide +kernel
theorem dX2_begin_157 : decode cX2_begin 157 = .ok (.iconst (-1), 1) := by decide +kernel
theorem dX2_begin_158 : decode cX2_begin 158 = .ok (.invokestatic 66, 3) := by decide +kernel
theorem dX2_begin_161 : decode cX2_begin 161 = .ok (.aload_n 0, 1) := by decide +kernel
theorem dX2_begin_162 : decode cX2_begin 162 = .ok (.getfield 36, 3) := by decide +kernel
theorem dX2_begin_165 : decode cX2_begin 165 = .ok (.iload_n 1, 1) := by decide +kernel
theorem dX2_begin_166 : decode cX2_begin 166 = .ok (.iconst 0, 1) := by decide +kernel
theorem dX2_begin_167 : decode cX2_begin 167 = .ok (.invokestatic 66, 3) := by decide +kernel
theorem dX2_begin_170 : decode cX2_begin 170 = .ok (.iinc 1 1, 3) := by decide +kernel
theorem dX2_begin_173 : decode cX2_begin 173 = .ok (.goto (-60), 3) := by decide +kernel
theorem dX2_begin_176 : decode cX2_begin 176 = .ok (.return_, 1) := by decide +kernel
theorem dX2_copyFrom_0 : decode cX2_copyFrom 0 = .ok (.aload_n 0, 1) := by decide +kernel
theorem dX2_copyFrom_1 : decode cX2_copyFrom 1 = .ok (.aload_n 1, 1) := by decide +kernel
theorem dX2_copyFrom_2 : decode cX2_copyFrom 2 = .ok (.getfield 53, 3) := by decide +kernel
theorem dX2_copyFrom_5 : decode cX2_copyFrom 5 = .ok (.putfield 53, 3) := by decide +kernel
theorem dX2_copyFrom_8 : decode cX2_copyFrom 8 = .ok (.aload_n 0, 1) := by decide +kernel
theorem dX2_copyFrom_9 : decode cX2_copyFrom 9 = .ok (.aload_n 1, 1) := by decide +kernel
theorem dX2_copyFrom_10 : decode cX2_copyFrom 10 = .ok (.getfield 62, 3) := by decide +kernel
theorem dX2_copyFrom_13 : decode cX2_copyFrom 13 = .ok (.putfield 62, 3) := by decide +kernel
theorem dX2_copyFrom_16 : decode cX2_copyFrom 16 = .ok (.aload_n 0, 1) := by decide +kernel
theorem dX2_copyFrom_17 : decode cX2_copyFrom 17 = .ok (.aload_n 1, 1) := by decide +kernel
theorem dX2_copyFrom_18 : decode cX2_copyFrom 18 = .ok (.getfield 63, 3) := by decide +kernel
theorem dX2_copyFrom_21 : decode cX2_copyFrom 21 = .ok (.putfield 63, 3) := by decide +kernel
theorem dX2_copyFrom_24 : decode cX2_copyFrom 24 = .ok (.aload_n 1, 1) := by decide +kernel
theorem dX2_copyFrom_25 : decode cX2_copyFrom 25 = .ok (.getfield 9, 3) := by decide +kernel
theorem dX2_copyFrom_28 : decode cX2_copyFrom 28 = .ok (.aload_n 0, 1) := by decide +kernel
theorem dX2_copyFrom_29 : decode cX2_copyFrom 29 = .ok (.getfield 9, 3) := by decide +kernel
theorem dX2_copyFrom_32 : decode cX2_copyFrom 32 = .ok (.invokestatic 74, 3) := by decide +kernel
theorem dX2_copyFrom_35 : decode cX2_copyFrom 35 = .ok (.aload_n 1, 1) := by decide +kernel
theorem dX2_copyFrom_36 : decode cX2_copyFrom 36 = .ok (.getfield 15, 3) := by decide +kernel
theorem dX2_copyFrom_39 : decode cX2_copyFrom 39 = .ok (.aload_n 0, 1) := by decide +kernel
theorem dX2_copyFrom_40 : decode cX2_copyFrom 40 = .ok (.getfield 15, 3) := by decide +kernel
theorem dX2_copyFrom_43 : decode cX2_copyFrom 43 = .ok (.invokestatic 74, 3) := by decide +kernel
theorem dX2_copyFrom_46 : decode cX2_copyFrom 46 = .ok (.aload_n 1, 1) := by decide +kernel
theorem dX2_copyFrom_47 : decode cX2_copyFrom 47 = .ok (.getfield 18, 3) := by decide +kernel
theorem dX2_copyFrom_50 : decode cX2_copyFrom 50 = .ok (.aload_n 0, 1) := by decide +kernel
theorem dX2_copyFrom_51 : decode cX2_copyFrom 51 = .ok (.getfield 18, 3) := by decide +kernel
theorem dX2_copyFrom_54 : decode cX2_copyFrom 54 = .ok (.invokestatic 74, 3) := by decide +kernel
theorem dX2_copyFrom_57 : decode cX2_copyFrom 57 = .ok (.aload_n 1, 1) := by decide +kernel
theorem dX2_copyFrom_58 : decode cX2_copyFrom 58 = .ok (.getfield 21, 3) := by decide +kernel
theorem dX2_copyFrom_61 : decode cX2_copyFrom 61 = .ok (.aload_n 0, 1) := by decide +kernel
theorem dX2_copyFrom_62 : decode cX2_copyFrom 62 = .ok (.getfield 21, 3) := by decide +kernel
theorem dX2_copyFrom_65 : decode cX2_copyFrom 65 = .ok (.invokestatic 74, 3) := by decide +kernel
theorem dX2_copyFrom_68 : decode cX2_copyFrom 68 = .ok (.aload_n 1, 1) := by decide +kernel
theorem dX2_copyFrom_69 : decode cX2_copyFrom 69 = .ok (.getfield 24, 3) := by decide +kernel
theorem dX2_copyFrom_72 : decode cX2_copyFrom 72 = .ok (.aload_n 0, 1) := by decide +kernel
theorem dX2_copyFrom_73 : decode cX2_copyFrom 73 = .ok (.getfield 24, 3) := by decide +kernel
theorem dX2_copyFrom_76 : decode cX2_copyFrom 76 = .ok (.invokestatic 74, 3) := by decide +kernel
theorem dX2_copyFrom_79 : decode cX2_copyFrom 79 = .ok (.aload_n 1, 1) := by decide +kernel
theorem dX2_copyFrom_80 : decode cX2_copyFrom 80 = .ok (.getfield 27, 3) := by decide +kernel
theorem dX2_copyFrom_83 : decode cX2_copyFrom 83 = .ok (.aload_n 0, 1) := by decide +kernel
theorem dX2_copyFrom_84 : decode cX2_copyFrom 84 = .ok (.getfield 27, 3) := by decide +kernel
theorem dX2_copyFrom_87 : decode cX2_copyFrom 87 = .ok (.invokestatic 74, 3) := by decide +kernel
theorem dX2_copyFrom_90 : decode cX2_copyFrom 90 = .ok (.aload_n 1, 1) := by decide +kernel
theorem dX2_copyFrom_91 : decode cX2_copyFrom 91 = .ok (.getfield 30, 3) := by decide +kernel
theorem dX2_copyFrom_94 : decode cX2_copyFrom 94 = .ok (.aload_n 0, 1) := by decide +kernel
theorem dX2_copyFrom_95 : decode cX2_copyFrom 95 = .ok (.getfield 30, 3) := by decide +kernel
theorem dX2_copyFrom_98 : decode cX2_copyFrom 98 = .ok (.invokestatic 74, 3) := by decide +kernel
theorem dX2_copyFrom_101 : decode cX2_copyFrom 101 = .ok (.aload_n 1, 1) := by decide +kernel
theorem dX2_copyFrom_102 : decode cX2_copyFrom 102 = .ok (.getfield 33, 3) := by decide +kernel
theorem dX2_copyFrom_105 : decode cX2_copyFrom 105 = .ok (.aload_n 0, 1) := by decide +kernel
theorem dX2_copyFrom_106 : decode cX2_copyFrom 106 = .ok (.getfield 33, 3) := by decide +kernel
theorem dX2_copyFrom_109 : decode cX2_copyFrom 109 = .ok (.invokestatic 74, 3) := by decide +kernel
theorem dX2_copyFrom_112 : decode cX2_copyFrom 112 = .ok (.aload_n 1, 1) := by decide +kernel
theorem dX2_copyFrom_113 : decode cX2_copyFrom 113 = .ok (.getfield 36, 3) := by decide +kernel
theorem dX2_copyFrom_116 : decode cX2_copyFrom 116 = .ok (.aload_n 0, 1) := by decide +kernel
theorem dX2_copyFrom_117 : decode cX2_copyFrom 117 = .ok (.getfield 36, 3) := by decide +kernel
theorem dX2_copyFrom_120 : decode cX2_copyFrom 120 = .ok (.invokestatic 74, 3) := by decide +kernel
theorem dX2_copyFrom_123 : decode cX2_copyFrom 123 = .ok (.aload_n 0, 1) := by decide +kernel
theorem dX2_copyFrom_124 : decode cX2_copyFrom 124 = .ok (.getfield 42, 3) := by decide +kernel
theorem dX2_copyFrom_127 : decode cX2_copyFrom 127 = .ok (.aload_n 1, 1) := by decide +kernel
theorem dX2_copyFrom_128 : decode cX2_copyFrom 128 = .ok (.getfield 42, 3) := by decide +kernel
theorem dX2_copyFrom_131 : decode cX2_copyFrom 131 = .ok (.invokevirtual 84, 3) := by decide +kernel
theorem dX2_copyFrom_134 : decode cX2_copyFrom 134 = .ok (.aload_n 0, 1) := by decide +kernel
theorem dX2_copyFrom_135 : decode cX2_copyFrom 135 = .ok (.getfield 46, 3) := by decide +kernel
theorem dX2_copyFrom_138 : decode cX2_copyFrom 138 = .ok (.aload_n 1, 1) := by decide +kernel
theorem dX2_copyFrom_139 : decode cX2_copyFrom 139 = .ok (.getfield 46, 3) := by decide +kernel
theorem dX2_copyFrom_142 : decode cX2_copyFrom 142 = .ok (.invokevirtual 84, 3) := by decide +kernel
theorem dX2_copyFrom_145 : decode cX2_copyFrom 145 = .ok (.return_, 1) := by decide +kernel
theorem dX2_peopleOn_0 : decode cX2_peopleOn 0 = .ok (.iconst 0, 1) := by decide +kernel
theorem dX2_peopleOn_1 : decode cX2_peopleOn 1 = .ok (.istore_n 2, 1) := by decide +kernel
theorem dX2_peopleOn_2 : decode cX2_peopleOn 2 = .ok (.iconst 0, 1) := by decide +kernel
theorem dX2_peopleOn_3 : decode cX2_peopleOn 3 = .ok (.istore_n 3, 1) := by decide +kernel
theorem dX2_peopleOn_4 : decode cX2_peopleOn 4 = .ok (.iload_n 3, 1) := by decide +kernel
theorem dX2_peopleOn_5 : decode cX2_peopleOn 5 = .ok (.aload_n 0, 1) := by decide +kernel
theorem dX2_peopleOn_6 : decode cX2_peopleOn 6 = .ok (.getfield 49, 3) := by decide +kernel
theorem dX2_peopleOn_9 : decode cX2_peopleOn 9 = .ok (.getfield 88, 3) := by decide +kernel
theorem dX2_peopleOn_12 : decode cX2_peopleOn 12 = .ok (.if_icmp .ge 24, 3) := by decide +kernel
theorem dX2_peopleOn_15 : decode cX2_peopleOn 15 = .ok (.aload_n 0, 1) := by decide +kernel
theorem dX2_peopleOn_16 : decode cX2_peopleOn 16 = .ok (.getfield 15, 3) := by decide +kernel
theorem dX2_peopleOn_19 : decode cX2_peopleOn 19 = .ok (.iload_n 3, 1) := by decide +kernel
theorem dX2_peopleOn_20 : decode cX2_peopleOn 20 = .ok (.invokestatic 91, 3) := by decide +kernel
theorem dX2_peopleOn_23 : decode cX2_peopleOn 23 = .ok (.iload_n 1, 1) := by decide +kernel
theorem dX2_peopleOn_24 : decode cX2_peopleOn 24 = .ok (.if_icmp .ne 6, 3) := by decide +kernel
theorem dX2_peopleOn_27 : decode cX2_peopleOn 27 = .ok (.iinc 2 1, 3) := by decide +kernel
theorem dX2_peopleOn_30 : decode cX2_peopleOn 30 = .ok (.iinc 3 1, 3) := by decide +kernel
theorem dX2_peopleOn_33 : decode cX2_peopleOn 33 = .ok (.goto (-29), 3) := by decide +kernel
theorem dX2_peopleOn_36 : decode cX2_peopleOn 36 = .ok (.iload_n 2, 1) := by decide +kernel
theorem dX2_peopleOn_37 : decode cX2_peopleOn 37 = .ok (.ireturn, 1) := by decide +kernel
theorem dX2_wearerOf_0 : decode cX2_wearerOf 0 = .ok (.iconst 0, 1) := by decide +kernel
theorem dX2_wearerOf_1 : decode cX2_wearerOf 1 = .ok (.istore_n 2, 1) := by decide +kernel
theorem dX2_wearerOf_2 : decode cX2_wearerOf 2 = .ok (.iload_n 2, 1) := by decide +kernel
theorem dX2_wearerOf_3 : decode cX2_wearerOf 3 = .ok (.aload_n 0, 1) := by decide +kernel
theorem dX2_wearerOf_4 : decode cX2_wearerOf 4 = .ok (.getfield 49, 3) := by decide +kernel
theorem dX2_wearerOf_7 : decode cX2_wearerOf 7 = .ok (.getfield 88, 3) := by decide +kernel
theorem dX2_wearerOf_10 : decode cX2_wearerOf 10 = .ok (.if_icmp .ge 23, 3) := by decide +kernel
theorem dX2_wearerOf_13 : decode cX2_wearerOf 13 = .ok (.aload_n 0, 1) := by decide +kernel
theorem dX2_wearerOf_14 : decode cX2_wearerOf 14 = .ok (.getfield 24, 3) := by decide +kernel
theorem dX2_wearerOf_17 : decode cX2_wearerOf 17 = .ok (.iload_n 2, 1) := by decide +kernel
theorem dX2_wearerOf_18 : decode cX2_wearerOf 18 = .ok (.invokestatic 91, 3) := by decide +kernel
theorem dX2_wearerOf_21 : decode cX2_wearerOf 21 = .ok (.iload_n 1, 1) := by decide +kernel
theorem dX2_wearerOf_22 : decode cX2_wearerOf 22 = .ok (.if_icmp .ne 5, 3) := by decide +kernel
theorem dX2_wearerOf_25 : decode cX2_wearerOf 25 = .ok (.iload_n 2, 1) := by decide +kernel
theorem dX2_wearerOf_26 : decode cX2_wearerOf 26 = .ok (.ireturn, 1) := by decide +kernel
theorem dX2_wearerOf_27 : decode cX2_wearerOf 27 = .ok (.iinc 2 1, 3) := by decide +kernel
theorem dX2_wearerOf_30 : decode cX2_wearerOf 30 = .ok (.goto (-28), 3) := by decide +kernel
theorem dX2_wearerOf_33 : decode cX2_wearerOf 33 = .ok (.iconst (-1), 1) := by decide +kernel
theorem dX2_wearerOf_34 : decode cX2_wearerOf 34 = .ok (.ireturn, 1) := by decide +kernel
theorem dX2_richestPerson_0 : decode cX2_richestPerson 0 = .ok (.iconst 0, 1) := by decide +kernel
theorem dX2_richestPerson_1 : decode cX2_richestPerson 1 = .ok (.istore_n 1, 1) := by decide +kernel
theorem dX2_richestPerson_2 : decode cX2_richestPerson 2 = .ok (.iconst 1, 1) := by decide +kernel
theorem dX2_richestPerson_3 : decode cX2_richestPerson 3 = .ok (.istore_n 2, 1) := by decide +kernel
theorem dX2_richestPerson_4 : decode cX2_richestPerson 4 = .ok (.iload_n 2, 1) := by decide +kernel
theorem dX2_richestPerson_5 : decode cX2_richestPerson 5 = .ok (.aload_n 0, 1) := by decide +kernel
theorem dX2_richestPerson_6 : decode cX2_richestPerson 6 = .ok (.getfield 49, 3) := by decide +kernel
theorem dX2_richestPerson_9 : decode cX2_richestPerson 9 = .ok (.getfield 88, 3) := by decide +kernel
theorem dX2_richestPerson_12 : decode cX2_richestPerson 12 = .ok (.if_icmp .ge 30, 3) := by decide +kernel
theorem dX2_richestPerson_15 : decode cX2_richestPerson 15 = .ok (.aload_n 0, 1) := by decide +kernel
theorem dX2_richestPerson_16 : decode cX2_richestPerson 16 = .ok (.getfield 18, 3) := by decide +kernel
theorem dX2_richestPerson_19 : decode cX2_richestPerson 19 = .ok (.iload_n 2, 1) := by decide +kernel
theorem dX2_richestPerson_20 : decode cX2_richestPerson 20 = .ok (.invokestatic 91, 3) := by decide +kernel
theorem dX2_richestPerson_23 : decode cX2_richestPerson 23 = .ok (.aload_n 0, 1) := by decide +kernel
theorem dX2_richestPerson_24 : decode cX2_richestPerson 24 = .ok (.getfield 18, 3) := by decide +kernel
theorem dX2_richestPerson_27 : decode cX2_richestPerson 27 = .ok (.iload_n 1, 1) := by decide +kernel
theorem dX2_richestPerson_28 : decode cX2_richestPerson 28 = .ok (.invokestatic 91, 3) := by decide +kernel
theorem dX2_richestPerson_31 : decode cX2_richestPerson 31 = .ok (.if_icmp .le 5, 3) := by decide +kernel
theorem dX2_richestPerson_34 : decode cX2_richestPerson 34 = .ok (.iload_n 2, 1) := by decide +kernel
theorem dX2_richestPerson_35 : decode cX2_richestPerson 35 = .ok (.istore_n 1, 1) := by decide +kernel
theorem dX2_richestPerson_36 : decode cX2_richestPerson 36 = .ok (.iinc 2 1, 3) := by decide +kernel
theorem dX2_richestPerson_39 : decode cX2_richestPerson 39 = .ok (.goto (-35), 3) := by decide +kernel
theorem dX2_richestPerson_42 : decode cX2_richestPerson 42 = .ok (.iload_n 1, 1) := by decide +kernel
theorem dX2_richestPerson_43 : decode cX2_richestPerson 43 = .ok (.ireturn, 1) := by decide +kernel
theorem dX2_coinsInAll_0 : decode cX2_coinsInAll 0 = .ok (.aload_n 0, 1) := by decide +kernel
theorem dX2_coinsInAll_1 : decode cX2_coinsInAll 1 = .ok (.getfield 63, 3) := by decide +kernel
theorem dX2_coinsInAll_4 : decode cX2_coinsInAll 4 = .ok (.aload_n 0, 1) := by decide +kernel
theorem dX2_coinsInAll_5 : decode cX2_coinsInAll 5 = .ok (.getfield 9, 3) := by decide +kernel
theorem dX2_coinsInAll_8 : decode cX2_coinsInAll 8 = .ok (.iconst 0, 1) := by decide +kernel
theorem dX2_coinsInAll_9 : decode cX2_coinsInAll 9 = .ok (.invokestatic 91, 3) := by decide +kernel
theorem dX2_coinsInAll_12 : decode cX2_coinsInAll 12 = .ok (.iadd, 1) := by decide +kernel
theorem dX2_coinsInAll_13 : decode cX2_coinsInAll 13 = .ok (.aload_n 0, 1) := by decide +kernel
theorem dX2_coinsInAll_14 : decode cX2_coinsInAll 14 = .ok (.getfield 9, 3) := by decide +kernel
theorem dX2_coinsInAll_17 : decode cX2_coinsInAll 17 = .ok (.iconst 1, 1) := by decide +kernel
theorem dX2_coinsInAll_18 : decode cX2_coinsInAll 18 = .ok (.invokestatic 91, 3) := by decide +kernel
theorem dX2_coinsInAll_21 : decode cX2_coinsInAll 21 = .ok (.iadd, 1) := by decide +kernel
theorem dX2_coinsInAll_22 : decode cX2_coinsInAll 22 = .ok (.istore_n 1, 1) := by decide +kernel
theorem dX2_coinsInAll_23 : decode cX2_coinsInAll 23 = .ok (.iconst 0, 1) := by decide +kernel
theorem dX2_coinsInAll_24 : decode cX2_coinsInAll 24 = .ok (.istore_n 2, 1) := by decide +kernel
theorem dX2_coinsInAll_25 : decode cX2_coinsInAll 25 = .ok (.iload_n 2, 1) := by decide +kernel
theorem dX2_coinsInAll_26 : decode cX2_coinsInAll 26 = .ok (.aload_n 0, 1) := by decide +kernel
theorem dX2_coinsInAll_27 : decode cX2_coinsInAll 27 = .ok (.getfield 49, 3) := by decide +kernel
theorem dX2_coinsInAll_30 : decode cX2_coinsInAll 30 = .ok (.getfield 88, 3) := by decide +kernel
theorem dX2_coinsInAll_33 : decode cX2_coinsInAll 33 = .ok (.if_icmp .ge 20, 3) := by decide +kernel
theorem dX2_coinsInAll_36 : decode cX2_coinsInAll 36 = .ok (.iload_n 1, 1) := by decide +kernel
theorem dX2_coinsInAll_37 : decode cX2_coinsInAll 37 = .ok (.aload_n 0, 1) := by decide +kernel
theorem dX2_coinsInAll_38 : decode cX2_coinsInAll 38 = .ok (.getfield 18, 3) := by decide +kernel
theorem dX2_coinsInAll_41 : decode cX2_coinsInAll 41 = .ok (.iload_n 2, 1) := by decide +kernel
theorem dX2_coinsInAll_42 : decode cX2_coinsInAll 42 = .ok (.invokestatic 91, 3) := by decide +kernel
theorem dX2_coinsInAll_45 : decode cX2_coinsInAll 45 = .ok (.iadd, 1) := by decide +kernel
theorem dX2_coinsInAll_46 : decode cX2_coinsInAll 46 = .ok (.istore_n 1, 1) := by decide +kernel
theorem dX2_coinsInAll_47 : decode cX2_coinsInAll 47 = .ok (.iinc 2 1, 3) := by decide +kernel
theorem dX2_coinsInAll_50 : decode cX2_coinsInAll 50 = .ok (.goto (-25), 3) := by decide +kernel
theorem dX2_coinsInAll_53 : decode cX2_coinsInAll 53 = .ok (.iload_n 1, 1) := by decide +kernel
theorem dX2_coinsInAll_54 : decode cX2_coinsInAll 54 = .ok (.ireturn, 1) := by decide +kernel
theorem dX2_royalCoinBank_0 : decode cX2_royalCoinBank 0 = .ok (.aload_n 0, 1) := by decide +kernel
theorem dX2_royalCoinBank_1 : decode cX2_royalCoinBank 1 = .ok (.getfield 30, 3) := by decide +kernel
theorem dX2_royalCoinBank_4 : decode cX2_royalCoinBank 4 = .ok (.iload_n 1, 1) := by decide +kernel
theorem dX2_royalCoinBank_5 : decode cX2_royalCoinBank 5 = .ok (.invokestatic 91, 3) := by decide +kernel
theorem dX2_royalCoinBank_8 : decode cX2_royalCoinBank 8 = .ok (.istore_n 2, 1) := by decide +kernel
theorem dX2_royalCoinBank_9 : decode cX2_royalCoinBank 9 = .ok (.iload_n 2, 1) := by decide +kernel
theorem dX2_royalCoinBank_10 : decode cX2_royalCoinBank 10 = .ok (.iconst (-1), 1) := by decide +kernel
theorem dX2_royalCoinBank_11 : decode cX2_royalCoinBank 11 = .ok (.if_icmp .ne 14, 3) := by decide +kernel
theorem dX2_royalCoinBank_14 : decode cX2_royalCoinBank 14 = .ok (.aload_n 0, 1) := by decide +kernel
theorem dX2_royalCoinBank_15 : decode cX2_royalCoinBank 15 = .ok (.getfield 33, 3) := by decide +kernel
theorem dX2_royalCoinBank_18 : decode cX2_royalCoinBank 18 = .ok (.iload_n 1, 1) := by decide +kernel
theorem dX2_royalCoinBank_19 : decode cX2_royalCoinBank 19 = .ok (.invokestatic 91, 3) := by decide +kernel
theorem dX2_royalCoinBank_22 : decode cX2_royalCoinBank 22 = .ok (.goto 11, 3) := by decide +kernel
theorem dX2_royalCoinBank_25 : decode cX2_royalCoinBank 25 = .ok (.aload_n 0, 1) := by decide +kernel
theorem dX2_royalCoinBank_26 : decode cX2_royalCoinBank 26 = .ok (.getfield 15, 3) := by decide +kernel
theorem dX2_royalCoinBank_29 : decode cX2_royalCoinBank 29 = .ok (.iload_n 2, 1) := by decide +kernel
theorem dX2_royalCoinBank_30 : decode cX2_royalCoinBank 30 = .ok (.invokestatic 91, 3) := by decide +kernel
theorem dX2_royalCoinBank_33 : decode cX2_royalCoinBank 33 = .ok (.ireturn, 1) := by decide +kernel
theorem dX2_royalCoinsOf_0 : decode cX2_royalCoinsOf 0 = .ok (.iconst 0, 1) := by decide +kernel
theorem dX2_royalCoinsOf_1 : decode cX2_royalCoinsOf 1 = .ok (.istore_n 2, 1) := by decide +kernel
theorem dX2_royalCoinsOf_2 : decode cX2_royalCoinsOf 2 = .ok (.iconst 0, 1) := by decide +kernel
theorem dX2_royalCoinsOf_3 : decode cX2_royalCoinsOf 3 = .ok (.istore_n 3, 1) := by decide +kernel
theorem dX2_royalCoinsOf_4 : decode cX2_royalCoinsOf 4 = .ok (.iload_n 3, 1) := by decide +kernel
theorem dX2_royalCoinsOf_5 : decode cX2_royalCoinsOf 5 = .ok (.aload_n 0, 1) := by decide +kernel
theorem dX2_royalCoinsOf_6 : decode cX2_royalCoinsOf 6 = .ok (.getfield 49, 3) := by decide +kernel
theorem dX2_royalCoinsOf_9 : decode cX2_royalCoinsOf 9 = .ok (.getfield 88, 3) := by decide +kernel
theorem dX2_royalCoinsOf_12 : decode cX2_royalCoinsOf 12 = .ok (.if_icmp .ge 24, 3) := by decide +kernel
theorem dX2_royalCoinsOf_15 : decode cX2_royalCoinsOf 15 = .ok (.aload_n 0, 1) := by decide +kernel
theorem dX2_royalCoinsOf_16 : decode cX2_royalCoinsOf 16 = .ok (.getfield 30, 3) := by decide +kernel
theorem dX2_royalCoinsOf_19 : decode cX2_royalCoinsOf 19 = .ok (.iload_n 3, 1) := by decide +kernel
theorem dX2_royalCoinsOf_20 : decode cX2_royalCoinsOf 20 = .ok (.invokestatic 91, 3) := by decide +kernel
theorem dX2_royalCoinsOf_23 : decode cX2_royalCoinsOf 23 = .ok (.iload_n 1, 1) := by decide +kernel
theorem dX2_royalCoinsOf_24 : decode cX2_royalCoinsOf 24 = .ok (.if_icmp .ne 6, 3) := by decide +kernel
theorem dX2_royalCoinsOf_27 : decode cX2_royalCoinsOf 27 = .ok (.iinc 2 1, 3) := by decide +kernel
theorem dX2_royalCoinsOf_30 : decode cX2_royalCoinsOf 30 = .ok (.iinc 3 1, 3) := by decide +kernel
theorem dX2_royalCoinsOf_33 : decode cX2_royalCoinsOf 33 = .ok (.goto (-29), 3) := by decide +kernel
theorem dX2_royalCoinsOf_36 : decode cX2_royalCoinsOf 36 = .ok (.iload_n 2, 1) := by decide +kernel
theorem dX2_royalCoinsOf_37 : decode cX2_royalCoinsOf 37 = .ok (.ireturn, 1) := by decide +kernel
theorem dX2_countedInAll_0 : decode cX2_countedInAll 0 = .ok (.iconst 0, 1) := by decide +kernel
theorem dX2_countedInAll_1 : decode cX2_countedInAll 1 = .ok (.istore_n 1, 1) := by decide +kernel
theorem dX2_countedInAll_2 : decode cX2_countedInAll 2 = .ok (.iconst 0, 1) := by decide +kernel
theorem dX2_countedInAll_3 : decode cX2_countedInAll 3 = .ok (.istore_n 2, 1) := by decide +kernel
theorem dX2_countedInAll_4 : decode cX2_countedInAll 4 = .ok (.iload_n 2, 1) := by decide +kernel
theorem dX2_countedInAll_5 : decode cX2_countedInAll 5 = .ok (.aload_n 0, 1) := by decide +kernel
theorem dX2_countedInAll_6 : decode cX2_countedInAll 6 = .ok (.getfield 49, 3) := by decide +kernel
theorem dX2_countedInAll_9 : decode cX2_countedInAll 9 = .ok (.getfield 88, 3) := by decide +kernel
theorem dX2_countedInAll_12 : decode cX2_countedInAll 12 = .ok (.if_icmp .ge 20, 3) := by decide +kernel
theorem dX2_countedInAll_15 : decode cX2_countedInAll 15 = .ok (.iload_n 1, 1) := by decide +kernel
theorem dX2_countedInAll_16 : decode cX2_countedInAll 16 = .ok (.aload_n 0, 1) := by decide +kernel
theorem dX2_countedInAll_17 : decode cX2_countedInAll 17 = .ok (.getfield 36, 3) := by decide +kernel
theorem dX2_countedInAll_20 : decode cX2_countedInAll 20 = .ok (.iload_n 2, 1) := by decide +kernel
theorem dX2_countedInAll_21 : decode cX2_countedInAll 21 = .ok (.invokestatic 91, 3) := by decide +kernel
theorem dX2_countedInAll_24 : decode cX2_countedInAll 24 = .ok (.iadd, 1) := by decide +kernel
theorem dX2_countedInAll_25 : decode cX2_countedInAll 25 = .ok (.istore_n 1, 1) := by decide +kernel
theorem dX2_countedInAll_26 : decode cX2_countedInAll 26 = .ok (.iinc 2 1, 3) := by decide +kernel
theorem dX2_countedInAll_29 : decode cX2_countedInAll 29 = .ok (.goto (-25), 3) := by decide +kernel
theorem dX2_countedInAll_32 : decode cX2_countedInAll 32 = .ok (.iload_n 1, 1) := by decide +kernel
theorem dX2_countedInAll_33 : decode cX2_countedInAll 33 = .ok (.ireturn, 1) := by decide +kernel
theorem dX2_angleTo_0 : decode cX2_angleTo 0 = .ok (.aload_n 0, 1) := by decide +kernel
theorem dX2_angleTo_1 : decode cX2_angleTo 1 = .ok (.getfield 49, 3) := by decide +kernel
theorem dX2_angleTo_4 : decode cX2_angleTo 4 = .ok (.getfield 95, 3) := by decide +kernel
theorem dX2_angleTo_7 : decode cX2_angleTo 7 = .ok (.aload_n 0, 1) := by decide +kernel
theorem dX2_angleTo_8 : decode cX2_angleTo 8 = .ok (.getfield 24, 3) := by decide +kernel
theorem dX2_angleTo_11 : decode cX2_angleTo 11 = .ok (.iload_n 2, 1) := by decide +kernel
theorem dX2_angleTo_12 : decode cX2_angleTo 12 = .ok (.invokestatic 91, 3) := by decide +kernel
theorem dX2_angleTo_15 : decode cX2_angleTo 15 = .ok (.invokestatic 91, 3) := by decide +kernel
theorem dX2_angleTo_18 : decode cX2_angleTo 18 = .ok (.istore_n 3, 1) := by decide +kernel
theorem dX2_angleTo_19 : decode cX2_angleTo 19 = .ok (.aload_n 0, 1) := by decide +kernel
theorem dX2_angleTo_20 : decode cX2_angleTo 20 = .ok (.getfield 49, 3) := by decide +kernel
theorem dX2_angleTo_23 : decode cX2_angleTo 23 = .ok (.getfield 95, 3) := by decide +kernel
theorem dX2_angleTo_26 : decode cX2_angleTo 26 = .ok (.aload_n 0, 1) := by decide +kernel
theorem dX2_angleTo_27 : decode cX2_angleTo 27 = .ok (.getfield 24, 3) := by decide +kernel
theorem dX2_angleTo_30 : decode cX2_angleTo 30 = .ok (.iload_n 1, 1) := by decide +kernel
theorem dX2_angleTo_31 : decode cX2_angleTo 31 = .ok (.invokestatic 91, 3) := by decide +kernel
theorem dX2_angleTo_34 : decode cX2_angleTo 34 = .ok (.invokestatic 91, 3) := by decide +kernel
theorem dX2_angleTo_37 : decode cX2_angleTo 37 = .ok (.istore 4, 2) := by decide +kernel
theorem dX2_angleTo_39 : decode cX2_angleTo 39 = .ok (.bipush 45, 2) := by decide +kernel
theorem dX2_angleTo_41 : decode cX2_angleTo 41 = .ok (.iload_n 3, 1) := by decide +kernel
theorem dX2_angleTo_42 : decode cX2_angleTo 42 = .ok (.iadd, 1) := by decide +kernel
theorem dX2_angleTo_43 : decode cX2_angleTo 43 = .ok (.iload 4, 2) := by decide +kernel
theorem dX2_angleTo_45 : decode cX2_angleTo 45 = .ok (.isub, 1) := by decide +kernel
theorem dX2_angleTo_46 : decode cX2_angleTo 46 = .ok (.aload_n 0, 1) := by decide +kernel
theorem dX2_angleTo_47 : decode cX2_angleTo 47 = .ok (.getfield 21, 3) := by decide +kernel
theorem dX2_angleTo_50 : decode cX2_angleTo 50 = .ok (.iload_n 1, 1) := by decide +kernel
theorem dX2_angleTo_51 : decode cX2_angleTo 51 = .ok (.invokestatic 91, 3) := by decide +kernel
theorem dX2_angleTo_54 : decode cX2_angleTo 54 = .ok (.isub, 1) := by decide +kernel
theorem dX2_angleTo_55 : decode cX2_angleTo 55 = .ok (.aload_n 0, 1) := by decide +kernel
theorem dX2_angleTo_56 : decode cX2_angleTo 56 = .ok (.getfield 49, 3) := by decide +kernel
theorem dX2_angleTo_59 : decode cX2_angleTo 59 = .ok (.getfield 98, 3) := by decide +kernel
theorem dX2_angleTo_62 : decode cX2_angleTo 62 = .ok (.iload_n 1, 1) := by decide +kernel
theorem dX2_angleTo_63 : decode cX2_angleTo 63 = .ok (.invokestatic 91, 3) := by decide +kernel
theorem dX2_angleTo_66 : decode cX2_angleTo 66 = .ok (.invokestatic 101, 3) := by decide +kernel
theorem dX2_angleTo_69 : decode cX2_angleTo 69 = .ok (.ireturn, 1) := by decide +kernel
theorem dX2_keeperAngle_0 : decode cX2_keeperAngle 0 = .ok (.aload_n 0, 1) := by decide +kernel
theorem dX2_keeperAngle_1 : decode cX2_keeperAngle 1 = .ok (.iload_n 1, 1) := by decide +kernel
theorem dX2_keeperAngle_2 : decode cX2_keeperAngle 2 = .ok (.aload_n 0, 1) := by decide +kernel
theorem dX2_keeperAngle_3 : decode cX2_keeperAngle 3 = .ok (.getfield 24, 3) := by decide +kernel
theorem dX2_keeperAngle_6 : decode cX2_keeperAngle 6 = .ok (.iload_n 1, 1) := by decide +kernel
theorem dX2_keeperAngle_7 : decode cX2_keeperAngle 7 = .ok (.invokestatic 91, 3) := by decide +kernel
theorem dX2_keeperAngle_10 : decode cX2_keeperAngle 10 = .ok (.invokevirtual 105, 3) := by decide +kernel
theorem dX2_keeperAngle_13 : decode cX2_keeperAngle 13 = .ok (.ireturn, 1) := by decide +kernel
theorem dX2_keeperAngleIn_0 : decode cX2_keeperAngleIn 0 = .ok (.bipush 80, 2) := by decide +kernel
theorem dX2_keeperAngleIn_2 : decode cX2_keeperAngleIn 2 = .ok (.aload_n 0, 1) := by decide +kernel
theorem dX2_keeperAngleIn_3 : decode cX2_keeperAngleIn 3 = .ok (.getfield 49, 3) := by decide +kernel
theorem dX2_keeperAngleIn_6 : decode cX2_keeperAngleIn 6 = .ok (.getfield 95, 3) := by decide +kernel
theorem dX2_keeperAngleIn_9 : decode cX2_keeperAngleIn 9 = .ok (.iload_n 2, 1) := by decide +kernel
theorem dX2_keeperAngleIn_10 : decode cX2_keeperAngleIn 10 = .ok (.invokestatic 91, 3) := by decide +kernel
theorem dX2_keeperAngleIn_13 : decode cX2_keeperAngleIn 13 = .ok (.isub, 1) := by decide +kernel
theorem dX2_keeperAngleIn_14 : decode cX2_keeperAngleIn 14 = .ok (.aload_n 0, 1) := by decide +kernel
theorem dX2_keeperAngleIn_15 : decode cX2_keeperAngleIn 15 = .ok (.getfield 21, 3) := by decide +kernel
theorem dX2_keeperAngleIn_18 : decode cX2_keeperAngleIn 18 = .ok (.iload_n 1, 1) := by decide +kernel
theorem dX2_keeperAngleIn_19 : decode cX2_keeperAngleIn 19 = .ok (.invokestatic 91, 3) := by decide +kernel
theorem dX2_keeperAngleIn_22 : decode cX2_keeperAngleIn 22 = .ok (.isub, 1) := by decide +kernel
theorem dX2_keeperAngleIn_23 : decode cX2_keeperAngleIn 23 = .ok (.aload_n 0, 1) := by decide +kernel
theorem dX2_keeperAngleIn_24 : decode cX2_keeperAngleIn 24 = .ok (.getfield 49, 3) := by decide +kernel
theorem dX2_keeperAngleIn_27 : decode cX2_keeperAngleIn 27 = .ok (.getfield 98, 3) := by decide +kernel
theorem dX2_keeperAngleIn_30 : decode cX2_keeperAngleIn 30 = .ok (.iload_n 1, 1) := by decide +kernel
theorem dX2_keeperAngleIn_31 : decode cX2_keeperAngleIn 31 = .ok (.invokestatic 91, 3) := by decide +kernel
theorem dX2_keeperAngleIn_34 : decode cX2_keeperAngleIn 34 = .ok (.invokestatic 101, 3) := by decide +kernel
theorem dX2_keeperAngleIn_37 : decode cX2_keeperAngleIn 37 = .ok (.ireturn, 1) := by decide +kernel
theorem dX2_angleOf_0 : decode cX2_angleOf 0 = .ok (.iload_n 0, 1) := by decide +kernel
theorem dX2_angleOf_1 : decode cX2_angleOf 1 = .ok (.ifCond .ge 7, 3) := by decide +kernel
theorem dX2_angleOf_4 : decode cX2_angleOf 4 = .ok (.iconst 0, 1) := by decide +kernel
theorem dX2_angleOf_5 : decode cX2_angleOf 5 = .ok (.goto 15, 3) := by decide +kernel
theorem dX2_angleOf_8 : decode cX2_angleOf 8 = .ok (.iload_n 0, 1) := by decide +kernel
theorem dX2_angleOf_9 : decode cX2_angleOf 9 = .ok (.bipush 90, 2) := by decide +kernel
theorem dX2_angleOf_11 : decode cX2_angleOf 11 = .ok (.if_icmp .le 8, 3) := by decide +kernel
theorem dX2_angleOf_14 : decode cX2_angleOf 14 = .ok (.bipush 90, 2) := by decide +kernel
theorem dX2_angleOf_16 : decode cX2_angleOf 16 = .ok (.goto 4, 3) := by decide +kernel
theorem dX2_angleOf_19 : decode cX2_angleOf 19 = .ok (.iload_n 0, 1) := by decide +kernel
theorem dX2_angleOf_20 : decode cX2_angleOf 20 = .ok (.istore_n 2, 1) := by decide +kernel
theorem dX2_angleOf_21 : decode cX2_angleOf 21 = .ok (.iload_n 1, 1) := by decide +kernel
theorem dX2_angleOf_22 : decode cX2_angleOf 22 = .ok (.iconst 1, 1) := by decide +kernel
theorem dX2_angleOf_23 : decode cX2_angleOf 23 = .ok (.if_icmp .ne 9, 3) := by decide +kernel
theorem dX2_angleOf_26 : decode cX2_angleOf 26 = .ok (.iload_n 2, 1) := by decide +kernel
theorem dX2_angleOf_27 : decode cX2_angleOf 27 = .ok (.iconst 2, 1) := by decide +kernel
theorem dX2_angleOf_28 : decode cX2_angleOf 28 = .ok (.idiv, 1) := by decide +kernel
theorem dX2_angleOf_29 : decode cX2_angleOf 29 = .ok (.goto 4, 3) := by decide +kernel
theorem dX2_angleOf_32 : decode cX2_angleOf 32 = .ok (.iload_n 2, 1) := by decide +kernel
theorem dX2_angleOf_33 : decode cX2_angleOf 33 = .ok (.ireturn, 1) := by decide +kernel
theorem dX2_looksKingly_0 : decode cX2_looksKingly 0 = .ok (.aload_n 0, 1) := by decide +kernel
theorem dX2_looksKingly_1 : decode cX2_looksKingly 1 = .ok (.iload_n 1, 1) := by decide +kernel
theorem dX2_looksKingly_2 : decode cX2_looksKingly 2 = .ok (.aload_n 0, 1) := by decide +kernel
theorem dX2_looksKingly_3 : decode cX2_looksKingly 3 = .ok (.getfield 24, 3) := by decide +kernel
theorem dX2_looksKingly_6 : decode cX2_looksKingly 6 = .ok (.iload_n 1, 1) := by decide +kernel
theorem dX2_looksKingly_7 : decode cX2_looksKingly 7 = .ok (.invokestatic 91, 3) := by decide +kernel
theorem dX2_looksKingly_10 : decode cX2_looksKingly 10 = .ok (.invokevirtual 105, 3) := by decide +kernel
theorem dX2_looksKingly_13 : decode cX2_looksKingly 13 = .ok (.aload_n 0, 1) := by decide +kernel
theorem dX2_looksKingly_14 : decode cX2_looksKingly 14 = .ok (.getfield 62, 3) := by decide +kernel
theorem dX2_looksKingly_17 : decode cX2_looksKingly 17 = .ok (.if_icmp .ge 7, 3) := by decide +kernel
theorem dX2_looksKingly_20 : decode cX2_looksKingly 20 = .ok (.iconst 1, 1) := by decide +kernel
theorem dX2_looksKingly_21 : decode cX2_looksKingly 21 = .ok (.goto 4, 3) := by decide +kernel
theorem dX2_looksKingly_24 : decode cX2_looksKingly 24 = .ok (.iconst 0, 1) := by decide +kernel
theorem dX2_looksKingly_25 : decode cX2_looksKingly 25 = .ok (.ireturn, 1) := by decide +kernel
theorem dX2_tollNow_0 : decode cX2_tollNow 0 = .ok (.aload_n 0, 1) := by decide +kernel
theorem dX2_tollNow_1 : decode cX2_tollNow 1 = .ok (.iload_n 1, 1) := by decide +kernel
theorem dX2_tollNow_2 : decode cX2_tollNow 2 = .ok (.aload_n 0, 1) := by decide +kernel
theorem dX2_tollNow_3 : decode cX2_tollNow 3 = .ok (.getfield 24, 3) := by decide +kernel
theorem dX2_tollNow_6 : decode cX2_tollNow 6 = .ok (.iload_n 1, 1) := by decide +kernel
theorem dX2_tollNow_7 : decode cX2_tollNow 7 = .ok (.invokestatic 91, 3) := by decide +kernel
theorem dX2_tollNow_10 : decode cX2_tollNow 10 = .ok (.invokevirtual 108, 3) := by decide +kernel
theorem dX2_tollNow_13 : decode cX2_tollNow 13 = .ok (.ireturn, 1) := by decide +kernel
theorem dX2_tollIn_0 : decode cX2_tollIn 0 = .ok (.aload_n 0, 1) := by decide +kernel
theorem dX2_tollIn_1 : decode cX2_tollIn 1 = .ok (.getfield 49, 3) := by decide +kernel
theorem dX2_tollIn_4 : decode cX2_tollIn 4 = .ok (.aload_n 0, 1) := by decide +kernel
theorem dX2_tollIn_5 : decode cX2_tollIn 5 = .ok (.iload_n 1, 1) := by decide +kernel
theorem dX2_tollIn_6 : decode cX2_tollIn 6 = .ok (.iload_n 2, 1) := by decide +kernel
theorem dX2_tollIn_7 : decode cX2_tollIn 7 = .ok (.invokevirtual 105, 3) := by decide +kernel
theorem dX2_tollIn_10 : decode cX2_tollIn 10 = .ok (.aload_n 0, 1) := by decide +kernel
theorem dX2_tollIn_11 : decode cX2_tollIn 11 = .ok (.getfield 62, 3) := by decide +kernel
theorem dX2_tollIn_14 : decode cX2_tollIn 14 = .ok (.if_icmp .ge 7, 3) := by decide +kernel
theorem dX2_tollIn_17 : decode cX2_tollIn 17 = .ok (.iconst 1, 1) := by decide +kernel
theorem dX2_tollIn_18 : decode cX2_tollIn 18 = .ok (.goto 4, 3) := by decide +kernel
theorem dX2_tollIn_21 : decode cX2_tollIn 21 = .ok (.iconst 0, 1) := by decide +kernel
theorem dX2_tollIn_22 : decode cX2_tollIn 22 = .ok (.invokevirtual 111, 3) := by decide +kernel
theorem dX2_tollIn_25 : decode cX2_tollIn 25 = .ok (.ireturn, 1) := by decide +kernel
theorem dX2_misjudgedPeople_0 : decode cX2_misjudgedPeople 0 = .ok (.iconst 0, 1) := by decide +kernel
theorem dX2_misjudgedPeople_1 : decode cX2_misjudgedPeople 1 = .ok (.istore_n 1, 1) := by decide +kernel
theorem dX2_misjudgedPeople_2 : decode cX2_misjudgedPeople 2 = .ok (.iconst 0, 1) := by decide +kernel
theorem dX2_misjudgedPeople_3 : decode cX2_misjudgedPeople 3 = .ok (.istore_n 2, 1) := by decide +kernel
theorem dX2_misjudgedPeople_4 : decode cX2_misjudgedPeople 4 = .ok (.iload_n 2, 1) := by decide +kernel
theorem dX2_misjudgedPeople_5 : decode cX2_misjudgedPeople 5 = .ok (.aload_n 0, 1) := by decide +kernel
theorem dX2_misjudgedPeople_6 : decode cX2_misjudgedPeople 6 = .ok (.getfield 49, 3) := by decide +kernel
theorem dX2_misjudgedPeople_9 : decode cX2_misjudgedPeople 9 = .ok (.getfield 88, 3) := by decide +kernel
theorem dX2_misjudgedPeople_12 : decode cX2_misjudgedPeople 12 = .ok (.if_icmp .ge 28, 3) := by decide +kernel
theorem dX2_misjudgedPeople_15 : decode cX2_misjudgedPeople 15 = .ok (.aload_n 0, 1) := by decide +kernel
theorem dX2_misjudgedPeople_16 : decode cX2_misjudgedPeople 16 = .ok (.iload_n 2, 1) := by decide +kernel
theorem dX2_misjudgedPeople_17 : decode cX2_misjudgedPeople 17 = .ok (.invokevirtual 115, 3) := by decide +kernel
theorem dX2_misjudgedPeople_20 : decode cX2_misjudgedPeople 20 = .ok (.aload_n 0, 1) := by decide +kernel
theorem dX2_misjudgedPeople_21 : decode cX2_misjudgedPeople 21 = .ok (.getfield 49, 3) := by decide +kernel
theorem dX2_misjudgedPeople_24 : decode cX2_misjudgedPeople 24 = .ok (.iload_n 2, 1) := by decide +kernel
theorem dX2_misjudgedPeople_25 : decode cX2_misjudgedPeople 25 = .ok (.invokevirtual 80, 3) := by decide +kernel
theorem dX2_misjudgedPeople_28 : decode cX2_misjudgedPeople 28 = .ok (.if_icmp .eq 6, 3) := by decide +kernel
theorem dX2_misjudgedPeople_31 : decode cX2_misjudgedPeople 31 = .ok (.iinc 1 1, 3) := by decide +kernel
theorem dX2_misjudgedPeople_34 : decode cX2_misjudgedPeople 34 = .ok (.iinc 2 1, 3) := by decide +kernel
theorem dX2_misjudgedPeople_37 : decode cX2_misjudgedPeople 37 = .ok (.goto (-33), 3) := by decide +kernel
theorem dX2_misjudgedPeople_40 : decode cX2_misjudgedPeople 40 = .ok (.iload_n 1, 1) := by decide +kernel
theorem dX2_misjudgedPeople_41 : decode cX2_misjudgedPeople 41 = .ok (.ireturn, 1) := by decide +kernel
theorem dX2_stiffestPerson_0 : decode cX2_stiffestPerson 0 = .ok (.iconst 0, 1) := by decide +kernel
theorem dX2_stiffestPerson_1 : decode cX2_stiffestPerson 1 = .ok (.istore_n 1, 1) := by decide +kernel
theorem dX2_stiffestPerson_2 : decode cX2_stiffestPerson 2 = .ok (.iconst 1, 1) := by decide +kernel
theorem dX2_stiffestPerson_3 : decode cX2_stiffestPerson 3 = .ok (.istore_n 2, 1) := by decide +kernel
theorem dX2_stiffestPerson_4 : decode cX2_stiffestPerson 4 = .ok (.iload_n 2, 1) := by decide +kernel
theorem dX2_stiffestPerson_5 : decode cX2_stiffestPerson 5 = .ok (.aload_n 0, 1) := by decide +kernel
theorem dX2_stiffestPerson_6 : decode cX2_stiffestPerson 6 = .ok (.getfield 49, 3) := by decide +kernel
theorem dX2_stiffestPerson_9 : decode cX2_stiffestPerson 9 = .ok (.getfield 88, 3) := by decide +kernel
theorem dX2_stiffestPerson_12 : decode cX2_stiffestPerson 12 = .ok (.if_icmp .ge 24, 3) := by decide +kernel
theorem dX2_stiffestPerson_15 : decode cX2_stiffestPerson 15 = .ok (.aload_n 0, 1) := by decide +kernel
theorem dX2_stiffestPerson_16 : decode cX2_stiffestPerson 16 = .ok (.iload_n 2, 1) := by decide +kernel
theorem dX2_stiffestPerson_17 : decode cX2_stiffestPerson 17 = .ok (.invokevirtual 118, 3) := by decide +kernel
theorem dX2_stiffestPerson_20 : decode cX2_stiffestPerson 20 = .ok (.aload_n 0, 1) := by decide +kernel
theorem dX2_stiffestPerson_21 : decode cX2_stiffestPerson 21 = .ok (.iload_n 1, 1) := by decide +kernel
theorem dX2_stiffestPerson_22 : decode cX2_stiffestPerson 22 = .ok (.invokevirtual 118, 3) := by decide +kernel
theorem dX2_stiffestPerson_25 : decode cX2_stiffestPerson 25 = .ok (.if_icmp .ge 5, 3) := by decide +kernel
theorem dX2_stiffestPerson_28 : decode cX2_stiffestPerson 28 = .ok (.iload_n 2, 1) := by decide +kernel
theorem dX2_stiffestPerson_29 : decode cX2_stiffestPerson 29 = .ok (.istore_n 1, 1) := by decide +kernel
theorem dX2_stiffestPerson_30 : decode cX2_stiffestPerson 30 = .ok (.iinc 2 1, 3) := by decide +kernel
theorem dX2_stiffestPerson_33 : decode cX2_stiffestPerson 33 = .ok (.goto (-29), 3) := by decide +kernel
theorem dX2_stiffestPerson_36 : decode cX2_stiffestPerson 36 = .ok (.iload_n 1, 1) := by decide +kernel
theorem dX2_stiffestPerson_37 : decode cX2_stiffestPerson 37 = .ok (.ireturn, 1) := by decide +kernel
theorem dX2_cheapestSet_0 : decode cX2_cheapestSet 0 = .ok (.iconst 0, 1) := by decide +kernel
theorem dX2_cheapestSet_1 : decode cX2_cheapestSet 1 = .ok (.istore_n 2, 1) := by decide +kernel
theorem dX2_cheapestSet_2 : decode cX2_cheapestSet 2 = .ok (.iconst 1, 1) := by decide +kernel
theorem dX2_cheapestSet_3 : decode cX2_cheapestSet 3 = .ok (.istore_n 3, 1) := by decide +kernel
theorem dX2_cheapestSet_4 : decode cX2_cheapestSet 4 = .ok (.iload_n 3, 1) := by decide +kernel
theorem dX2_cheapestSet_5 : decode cX2_cheapestSet 5 = .ok (.aload_n 0, 1) := by decide +kernel
theorem dX2_cheapestSet_6 : decode cX2_cheapestSet 6 = .ok (.getfield 49, 3) := by decide +kernel
theorem dX2_cheapestSet_9 : decode cX2_cheapestSet 9 = .ok (.getfield 88, 3) := by decide +kernel
theorem dX2_cheapestSet_12 : decode cX2_cheapestSet 12 = .ok (.if_icmp .ge 26, 3) := by decide +kernel
theorem dX2_cheapestSet_15 : decode cX2_cheapestSet 15 = .ok (.aload_n 0, 1) := by decide +kernel
theorem dX2_cheapestSet_16 : decode cX2_cheapestSet 16 = .ok (.iload_n 1, 1) := by decide +kernel
theorem dX2_cheapestSet_17 : decode cX2_cheapestSet 17 = .ok (.iload_n 3, 1) := by decide +kernel
theorem dX2_cheapestSet_18 : decode cX2_cheapestSet 18 = .ok (.invokevirtual 108, 3) := by decide +kernel
theorem dX2_cheapestSet_21 : decode cX2_cheapestSet 21 = .ok (.aload_n 0, 1) := by decide +kernel
theorem dX2_cheapestSet_22 : decode cX2_cheapestSet 22 = .ok (.iload_n 1, 1) := by decide +kernel
theorem dX2_cheapestSet_23 : decode cX2_cheapestSet 23 = .ok (.iload_n 2, 1) := by decide +kernel
theorem dX2_cheapestSet_24 : decode cX2_cheapestSet 24 = .ok (.invokevirtual 108, 3) := by decide +kernel
theorem dX2_cheapestSet_27 : decode cX2_cheapestSet 27 = .ok (.if_icmp .ge 5, 3) := by decide +kernel
theorem dX2_cheapestSet_30 : decode cX2_cheapestSet 30 = .ok (.iload_n 3, 1) := by decide +kernel
theorem dX2_cheapestSet_31 : decode cX2_cheapestSet 31 = .ok (.istore_n 2, 1) := by decide +kernel
theorem dX2_cheapestSet_32 : decode cX2_cheapestSet 32 = .ok (.iinc 3 1, 3) := by decide +kernel
theorem dX2_cheapestSet_35 : decode cX2_cheapestSet 35 = .ok (.goto (-31), 3) := by decide +kernel
theorem dX2_cheapestSet_38 : decode cX2_cheapestSet 38 = .ok (.iload_n 2, 1) := by decide +kernel
theorem dX2_cheapestSet_39 : decode cX2_cheapestSet 39 = .ok (.ireturn, 1) := by decide +kernel
theorem dX2_sumOfAngles_0 : decode cX2_sumOfAngles 0 = .ok (.iconst 0, 1) := by decide +kernel
theorem dX2_sumOfAngles_1 : decode cX2_sumOfAngles 1 = .ok (.istore_n 1, 1) := by decide +kernel
theorem dX2_sumOfAngles_2 : decode cX2_sumOfAngles 2 = .ok (.iconst 0, 1) := by decide +kernel
theorem dX2_sumOfAngles_3 : decode cX2_sumOfAngles 3 = .ok (.istore_n 2, 1) := by decide +kernel
theorem dX2_sumOfAngles_4 : decode cX2_sumOfAngles 4 = .ok (.iload_n 2, 1) := by decide +kernel
theorem dX2_sumOfAngles_5 : decode cX2_sumOfAngles 5 = .ok (.aload_n 0, 1) := by decide +kernel
theorem dX2_sumOfAngles_6 : decode cX2_sumOfAngles 6 = .ok (.getfield 49, 3) := by decide +kernel
theorem dX2_sumOfAngles_9 : decode cX2_sumOfAngles 9 = .ok (.getfield 88, 3) := by decide +kernel
theorem dX2_sumOfAngles_12 : decode cX2_sumOfAngles 12 = .ok (.if_icmp .ge 17, 3) := by decide +kernel
theorem dX2_sumOfAngles_15 : decode cX2_sumOfAngles 15 = .ok (.iload_n 1, 1) := by decide +kernel
theorem dX2_sumOfAngles_16 : decode cX2_sumOfAngles 16 = .ok (.aload_n 0, 1) := by decide +kernel
theorem dX2_sumOfAngles_17 : decode cX2_sumOfAngles 17 = .ok (.iload_n 2, 1) := by decide +kernel
theorem dX2_sumOfAngles_18 : decode cX2_sumOfAngles 18 = .ok (.invokevirtual 118, 3) := by decide +kernel
theorem dX2_sumOfAngles_21 : decode cX2_sumOfAngles 21 = .ok (.iadd, 1) := by decide +kernel
theorem dX2_sumOfAngles_22 : decode cX2_sumOfAngles 22 = .ok (.istore_n 1, 1) := by decide +kernel
theorem dX2_sumOfAngles_23 : decode cX2_sumOfAngles 23 = .ok (.iinc 2 1, 3) := by decide +kernel
theorem dX2_sumOfAngles_26 : decode cX2_sumOfAngles 26 = .ok (.goto (-22), 3) := by decide +kernel
theorem dX2_sumOfAngles_29 : decode cX2_sumOfAngles 29 = .ok (.iload_n 1, 1) := by decide +kernel
theorem dX2_sumOfAngles_30 : decode cX2_sumOfAngles 30 = .ok (.ireturn, 1) := by decide +kernel
theorem dX2_queueOn_0 : decode cX2_queueOn 0 = .ok (.iload_n 1, 1) := by decide +kernel
theorem dX2_queueOn_1 : decode cX2_queueOn 1 = .ok (.iconst 1, 1) := by decide +kernel
theorem dX2_queueOn_2 : decode cX2_queueOn 2 = .ok (.if_icmp .ne 10, 3) := by decide +kernel
theorem dX2_queueOn_5 : decode cX2_queueOn 5 = .ok (.aload_n 0, 1) := by decide +kernel
theorem dX2_queueOn_6 : decode cX2_queueOn 6 = .ok (.getfield 46, 3) := by decide +kernel
theorem dX2_queueOn_9 : decode cX2_queueOn 9 = .ok (.goto 7, 3) := by decide +kernel
theorem dX2_queueOn_12 : decode cX2_queueOn 12 = .ok (.aload_n 0, 1) := by decide +kernel
theorem dX2_queueOn_13 : decode cX2_queueOn 13 = .ok (.getfield 42, 3) := by decide +kernel
theorem dX2_queueOn_16 : decode cX2_queueOn 16 = .ok (.areturn, 1) := by decide +kernel
theorem dX2_offerOf_0 : decode cX2_offerOf 0 = .ok (.aload_n 0, 1) := by decide +kernel
theorem dX2_offerOf_1 : decode cX2_offerOf 1 = .ok (.aload_n 0, 1) := by decide +kernel
theorem dX2_offerOf_2 : decode cX2_offerOf 2 = .ok (.getfield 15, 3) := by decide +kernel
theorem dX2_offerOf_5 : decode cX2_offerOf 5 = .ok (.iload_n 1, 1) := by decide +kernel
theorem dX2_offerOf_6 : decode cX2_offerOf 6 = .ok (.invokestatic 91, 3) := by decide +kernel
theorem dX2_offerOf_9 : decode cX2_offerOf 9 = .ok (.invokevirtual 122, 3) := by decide +kernel
theorem dX2_offerOf_12 : decode cX2_offerOf 12 = .ok (.astore_n 2, 1) := by decide +kernel
theorem dX2_offerOf_13 : decode cX2_offerOf 13 = .ok (.aload_n 2, 1) := by decide +kernel
theorem dX2_offerOf_14 : decode cX2_offerOf 14 = .ok (.aload_n 2, 1) := by decide +kernel
theorem dX2_offerOf_15 : decode cX2_offerOf 15 = .ok (.iload_n 1, 1) := by decide +kernel
theorem dX2_offerOf_16 : decode cX2_offerOf 16 = .ok (.invokevirtual 126, 3) := by decide +kernel
theorem dX2_offerOf_19 : decode cX2_offerOf 19 = .ok (.invokevirtual 129, 3) := by decide +kernel
theorem dX2_offerOf_22 : decode cX2_offerOf 22 = .ok (.ireturn, 1) := by decide +kernel
theorem dX2_departureBank_0 : decode cX2_departureBank 0 = .ok (.aload_n 0, 1) := by decide +kernel
theorem dX2_departureBank_1 : decode cX2_departureBank 1 = .ok (.getfield 53, 3) := by decide +kernel
theorem dX2_departureBank_4 : decode cX2_departureBank 4 = .ok (.iconst 2, 1) := by decide +kernel
theorem dX2_departureBank_5 : decode cX2_departureBank 5 = .ok (.irem, 1) := by decide +kernel
theorem dX2_departureBank_6 : decode cX2_departureBank 6 = .ok (.ifCond .ne 7, 3) := by decide +kernel
theorem dX2_departureBank_9 : decode cX2_departureBank 9 = .ok (.iconst 0, 1) := by decide +kernel
theorem dX2_departureBank_10 : decode cX2_departureBank 10 = .ok (.goto 4, 3) := by decide +kernel
theorem dX2_departureBank_13 : decode cX2_departureBank 13 = .ok (.iconst 1, 1) := by decide +kernel
theorem dX2_departureBank_14 : decode cX2_departureBank 14 = .ok (.ireturn, 1) := by decide +kernel
theorem dX2_passSeveral_0 : decode cX2_passSeveral 0 = .ok (.iconst 0, 1) := by decide +kernel
theorem dX2_passSeveral_1 : decode cX2_passSeveral 1 = .ok (.istore_n 2, 1) := by decide +kernel
theorem dX2_passSeveral_2 : decode cX2_passSeveral 2 = .ok (.iconst 0, 1) := by decide +kernel
theorem dX2_passSeveral_3 : decode cX2_passSeveral 3 = .ok (.istore_n 3, 1) := by decide +kernel
theorem dX2_passSeveral_4 : decode cX2_passSeveral 4 = .ok (.iload_n 3, 1) := by decide +kernel
theorem dX2_passSeveral_5 : decode cX2_passSeveral 5 = .ok (.iload_n 1, 1) := by decide +kernel
theorem dX2_passSeveral_6 : decode cX2_passSeveral 6 = .ok (.if_icmp .ge 16, 3) := by decide +kernel
theorem dX2_passSeveral_9 : decode cX2_passSeveral 9 = .ok (.iload_n 2, 1) := by decide +kernel
theorem dX2_passSeveral_10 : decode cX2_passSeveral 10 = .ok (.aload_n 0, 1) := by decide +kernel
theorem dX2_passSeveral_11 : decode cX2_passSeveral 11 = .ok (.invokevirtual 132, 3) := by decide +kernel
theorem dX2_passSeveral_14 : decode cX2_passSeveral 14 = .ok (.iadd, 1) := by decide +kernel
theorem dX2_passSeveral_15 : decode cX2_passSeveral 15 = .ok (.istore_n 2, 1) := by decide +kernel
theorem dX2_passSeveral_16 : decode cX2_passSeveral 16 = .ok (.iinc 3 1, 3) := by decide +kernel
theorem dX2_passSeveral_19 : decode cX2_passSeveral 19 = .ok (.goto (-15), 3) := by decide +kernel
theorem dX2_passSeveral_22 : decode cX2_passSeveral 22 = .ok (.iload_n 2, 1) := by decide +kernel
theorem dX2_passSeveral_23 : decode cX2_passSeveral 23 = .ok (.ireturn, 1) := by decide +kernel
theorem dX2_passTurn_0 : decode cX2_passTurn 0 = .ok (.aload_n 0, 1) := by decide +kernel
theorem dX2_passTurn_1 : decode cX2_passTurn 1 = .ok (.getfield 53, 3) := by decide +kernel
theorem dX2_passTurn_4 : decode cX2_passTurn 4 = .ok (.sipush 9999, 3) := by decide +kernel
theorem dX2_passTurn_7 : decode cX2_passTurn 7 = .ok (.if_icmp .le 5, 3) := by decide +kernel
theorem dX2_passTurn_10 : decode cX2_passTurn 10 = .ok (.iconst 0, 1) := by decide +kernel
theorem dX2_passTurn_11 : decode cX2_passTurn 11 = .ok (.ireturn, 1) := by decide +kernel
theorem dX2_passTurn_12 : decode cX2_passTurn 12 = .ok (.aload_n 0, 1) := by decide +kernel
theorem dX2_passTurn_13 : decode cX2_passTurn 13 = .ok (.aload_n 0, 1) := by decide +kernel
theorem dX2_passTurn_14 : decode cX2_passTurn 14 = .ok (.invokevirtual 136, 3) := by decide +kernel
theorem dX2_passTurn_17 : decode cX2_passTurn 17 = .ok (.invokevirtual 122, 3) := by decide +kernel
theorem dX2_passTurn_20 : decode cX2_passTurn 20 = .ok (.astore_n 1, 1) := by decide +kernel
theorem dX2_passTurn_21 : decode cX2_passTurn 21 = .ok (.iconst 0, 1) := by decide +kernel
theorem dX2_passTurn_22 : decode cX2_passTurn 22 = .ok (.istore_n 2, 1) := by decide +kernel
theorem dX2_passTurn_23 : decode cX2_passTurn 23 = .ok (.iconst 0, 1) := by decide +kernel
theorem dX2_passTurn_24 : decode cX2_passTurn 24 = .ok (.istore_n 3, 1) := by decide +kernel
theorem dX2_passTurn_25 : decode cX2_passTurn 25 = .ok (.iload_n 3, 1) := by decide +kernel
theorem dX2_passTurn_26 : decode cX2_passTurn 26 = .ok (.aload_n 0, 1) := by decide +kernel
theorem dX2_passTurn_27 : decode cX2_passTurn 27 = .ok (.getfield 49, 3) := by decide +kernel
theorem dX2_passTurn_30 : decode cX2_passTurn 30 = .ok (.getfield 139, 3) := by decide +kernel
theorem dX2_passTurn_33 : decode cX2_passTurn 33 = .ok (.if_icmp .ge 88, 3) := by decide +kernel
theorem dX2_passTurn_36 : decode cX2_passTurn 36 = .ok (.aload_n 0, 1) := by decide +kernel
theorem dX2_passTurn_37 : decode cX2_passTurn 37 = .ok (.getfield 49, 3) := by decide +kernel
theorem dX2_passTurn_40 : decode cX2_passTurn 40 = .ok (.iload_n 3, 1) := by decide +kernel
theorem dX2_passTurn_41 : decode cX2_passTurn 41 = .ok (.aload_n 0, 1) := by decide +kernel
theorem dX2_passTurn_42 : decode cX2_passTurn 42 = .ok (.getfield 53, 3) := by decide +kernel
theorem dX2_passTurn_45 : decode cX2_passTurn 45 = .ok (.invokevirtual 142, 3) := by decide +kernel
theorem dX2_passTurn_48 : decode cX2_passTurn 48 = .ok (.ifCond .eq 17, 3) := by decide +kernel
theorem dX2_passTurn_51 : decode cX2_passTurn 51 = .ok (.aload_n 0, 1) := by decide +kernel
theorem dX2_passTurn_52 : decode cX2_passTurn 52 = .ok (.getfield 49, 3) := by decide +kernel
theorem dX2_passTurn_55 : decode cX2_passTurn 55 = .ok (.getfield 146, 3) := by decide +kernel
theorem dX2_passTurn_58 : decode cX2_passTurn 58 = .ok (.iload_n 3, 1) := by decide +kernel
theorem dX2_passTurn_59 : decode cX2_passTurn 59 = .ok (.invokestatic 91, 3) := by decide +kernel
theorem dX2_passTurn_62 : decode cX2_passTurn 62 = .ok (.goto 4, 3) := by decide +kernel
theorem dX2_passTurn_65 : decode cX2_passTurn 65 = .ok (.iconst 0, 1) := by decide +kernel
theorem dX2_passTurn_66 : decode cX2_passTurn 66 = .ok (.istore 4, 2) := by decide +kernel
theorem dX2_passTurn_68 : decode cX2_passTurn 68 = .ok (.iconst 0, 1) := by decide +kernel
theorem dX2_passTurn_69 : decode cX2_passTurn 69 = .ok (.istore 5, 2) := by decide +kernel
theorem dX2_passTurn_71 : decode cX2_passTurn 71 = .ok (.iload 5, 2) := by decide +kernel
theorem dX2_passTurn_73 : decode cX2_passTurn 73 = .ok (.bipush 10, 2) := by decide +kernel
theorem dX2_passTurn_75 : decode cX2_passTurn 75 = .ok (.if_icmp .ge 40, 3) := by decide +kernel
theorem dX2_passTurn_78 : decode cX2_passTurn 78 = .ok (.iload 4, 2) := by decide +kernel
theorem dX2_passTurn_80 : decode cX2_passTurn 80 = .ok (.ifCond .le 35, 3) := by decide +kernel
theorem dX2_passTurn_83 : decode cX2_passTurn 83 = .ok (.aload_n 1, 1) := by decide +kernel
theorem dX2_passTurn_84 : decode cX2_passTurn 84 = .ok (.getfield 70, 3) := by decide +kernel
theorem dX2_passTurn_87 : decode cX2_passTurn 87 = .ok (.ifCond .le 28, 3) := by decide +kernel
theorem dX2_passTurn_90 : decode cX2_passTurn 90 = .ok (.aload_n 0, 1) := by decide +kernel
theorem dX2_passTurn_91 : decode cX2_passTurn 91 = .ok (.aload_n 1, 1) := by decide +kernel
theorem dX2_passTurn_92 : decode cX2_passTurn 92 = .ok (.invokevirtual 149, 3) := by decide +kernel
theorem dX2_passTurn_95 : decode cX2_passTurn 95 = .ok (.istore 6, 2) := by decide +kernel
theorem dX2_passTurn_97 : decode cX2_passTurn 97 = .ok (.iload 4, 2) := by decide +kernel
theorem dX2_passTurn_99 : decode cX2_passTurn 99 = .ok (.iload 6, 2) := by decide +kernel
theorem dX2_passTurn_101 : decode cX2_passTurn 101 = .ok (.isub, 1) := by decide +kernel
theorem dX2_passTurn_102 : decode cX2_passTurn 102 = .ok (.istore 4, 2) := by decide +kernel
theorem dX2_passTurn_104 : decode cX2_passTurn 104 = .ok (.iload_n 2, 1) := by decide +kernel
theorem dX2_passTurn_105 : decode cX2_passTurn 105 = .ok (.iload 6, 2) := by decide +kernel
theorem dX2_passTurn_107 : decode cX2_passTurn 107 = .ok (.iadd, 1) := by decide +kernel
theorem dX2_passTurn_108 : decode cX2_passTurn 108 = .ok (.istore_n 2, 1) := by decide +kernel
theorem dX2_passTurn_109 : decode cX2_passTurn 109 = .ok (.iinc 5 1, 3) := by decide +kernel
theorem dX2_passTurn_112 : decode cX2_passTurn 112 = .ok (.goto (-41), 3) := by decide +kernel
theorem dX2_passTurn_115 : decode cX2_passTurn 115 = .ok (.iinc 3 1, 3) := by decide +kernel
theorem dX2_passTurn_118 : decode cX2_passTurn 118 = .ok (.goto (-93), 3) := by decide +kernel
theorem dX2_passTurn_121 : decode cX2_passTurn 121 = .ok (.aload_n 0, 1) := by decide +kernel
theorem dX2_passTurn_122 : decode cX2_passTurn 122 = .ok (.dup, 1) := by decide +kernel
theorem dX2_passTurn_123 : decode cX2_passTurn 123 = .ok (.getfield 53, 3) := by decide +kernel
theorem dX2_passTurn_126 : decode cX2_passTurn 126 = .ok (.iconst 1, 1) := by decide +kernel
theorem dX2_passTurn_127 : decode cX2_passTurn 127 = .ok (.iadd, 1) := by decide +kernel
theorem dX2_passTurn_128 : decode cX2_passTurn 128 = .ok (.putfield 53, 3) := by decide +kernel
theorem dX2_passTurn_131 : decode cX2_passTurn 131 = .ok (.iload_n 2, 1) := by decide +kernel
theorem dX2_passTurn_132 : decode cX2_passTurn 132 = .ok (.ireturn, 1) := by decide +kernel
theorem dX2_letFirstTry_0 : decode cX2_letFirstTry 0 = .ok (.aload_n 1, 1) := by decide +kernel
theorem dX2_letFirstTry_1 : decode cX2_letFirstTry 1 = .ok (.iconst 0, 1) := by decide +kernel
theorem dX2_letFirstTry_2 : decode cX2_letFirstTry 2 = .ok (.invokevirtual 153, 3) := by decide +kernel
theorem dX2_letFirstTry_5 : decode cX2_letFirstTry 5 = .ok (.istore_n 2, 1) := by decide +kernel
theorem dX2_letFirstTry_6 : decode cX2_letFirstTry 6 = .ok (.aload_n 0, 1) := by decide +kernel
theorem dX2_letFirstTry_7 : decode cX2_letFirstTry 7 = .ok (.iload_n 2, 1) := by decide +kernel
theorem dX2_letFirstTry_8 : decode cX2_letFirstTry 8 = .ok (.aload_n 0, 1) := by decide +kernel
theorem dX2_letFirstTry_9 : decode cX2_letFirstTry 9 = .ok (.getfield 24, 3) := by decide +kernel
theorem dX2_letFirstTry_12 : decode cX2_letFirstTry 12 = .ok (.iload_n 2, 1) := by decide +kernel
theorem dX2_letFirstTry_13 : decode cX2_letFirstTry 13 = .ok (.invokestatic 91, 3) := by decide +kernel
theorem dX2_letFirstTry_16 : decode cX2_letFirstTry 16 = .ok (.invokevirtual 105, 3) := by decide +kernel
theorem dX2_letFirstTry_19 : decode cX2_letFirstTry 19 = .ok (.aload_n 0, 1) := by decide +kernel
theorem dX2_letFirstTry_20 : decode cX2_letFirstTry 20 = .ok (.getfield 62, 3) := by decide +kernel
theorem dX2_letFirstTry_23 : decode cX2_letFirstTry 23 = .ok (.if_icmp .ge 7, 3) := by decide +kernel
theorem dX2_letFirstTry_26 : decode cX2_letFirstTry 26 = .ok (.iconst 1, 1) := by decide +kernel
theorem dX2_letFirstTry_27 : decode cX2_letFirstTry 27 = .ok (.goto 4, 3) := by decide +kernel
theorem dX2_letFirstTry_30 : decode cX2_letFirstTry 30 = .ok (.iconst 0, 1) := by decide +kernel
theorem dX2_letFirstTry_31 : decode cX2_letFirstTry 31 = .ok (.istore_n 3, 1) := by decide +kernel
theorem dX2_letFirstTry_32 : decode cX2_letFirstTry 32 = .ok (.aload_n 1, 1) := by decide +kernel
theorem dX2_letFirstTry_33 : decode cX2_letFirstTry 33 = .ok (.iconst 0, 1) := by decide +kernel
theorem dX2_letFirstTry_34 : decode cX2_letFirstTry 34 = .ok (.invokevirtual 129, 3) := by decide +kernel
theorem dX2_letFirstTry_37 : decode cX2_letFirstTry 37 = .ok (.aload_n 0, 1) := by decide +kernel
theorem dX2_letFirstTry_38 : decode cX2_letFirstTry 38 = .ok (.getfield 49, 3) := by decide +kernel
theorem dX2_letFirstTry_41 : decode cX2_letFirstTry 41 = .ok (.iload_n 3, 1) := by decide +kernel
theorem dX2_letFirstTry_42 : decode cX2_letFirstTry 42 = .ok (.invokevirtual 111, 3) := by decide +kernel
theorem dX2_letFirstTry_45 : decode cX2_letFirstTry 45 = .ok (.iadd, 1) := by decide +kernel
theorem dX2_letFirstTry_46 : decode cX2_letFirstTry 46 = .ok (.istore 4, 2) := by decide +kernel
theorem dX2_letFirstTry_48 : decode cX2_letFirstTry 48 = .ok (.aload_n 1, 1) := by decide +kernel
theorem dX2_letFirstTry_49 : decode cX2_letFirstTry 49 = .ok (.iconst 0, 1) := by decide +kernel
theorem dX2_letFirstTry_50 : decode cX2_letFirstTry 50 = .ok (.invokevirtual 156, 3) := by decide +kernel
theorem dX2_letFirstTry_53 : decode cX2_letFirstTry 53 = .ok (.aload_n 0, 1) := by decide +kernel
theorem dX2_letFirstTry_54 : decode cX2_letFirstTry 54 = .ok (.getfield 18, 3) := by decide +kernel
theorem dX2_letFirstTry_57 : decode cX2_letFirstTry 57 = .ok (.iload_n 2, 1) := by decide +kernel
theorem dX2_letFirstTry_58 : decode cX2_letFirstTry 58 = .ok (.invokestatic 91, 3) := by decide +kernel
theorem dX2_letFirstTry_61 : decode cX2_letFirstTry 61 = .ok (.iload 4, 2) := by decide +kernel
theorem dX2_letFirstTry_63 : decode cX2_letFirstTry 63 = .ok (.if_icmp .ge 5, 3) := by decide +kernel
theorem dX2_letFirstTry_66 : decode cX2_letFirstTry 66 = .ok (.iconst 0, 1) := by decide +kernel
theorem dX2_letFirstTry_67 : decode cX2_letFirstTry 67 = .ok (.ireturn, 1) := by decide +kernel
theorem dX2_letFirstTry_68 : decode cX2_letFirstTry 68 = .ok (.aload_n 0, 1) := by decide +kernel
theorem dX2_letFirstTry_69 : decode cX2_letFirstTry 69 = .ok (.getfield 18, 3) := by decide +kernel
theorem dX2_letFirstTry_72 : decode cX2_letFirstTry 72 = .ok (.iload_n 2, 1) := by decide +kernel
theorem dX2_letFirstTry_73 : decode cX2_letFirstTry 73 = .ok (.iload 4, 2) := by decide +kernel
theorem dX2_letFirstTry_75 : decode cX2_letFirstTry 75 = .ok (.ineg, 1) := by decide +kernel
theorem dX2_letFirstTry_76 : decode cX2_letFirstTry 76 = .ok (.invokestatic 160, 3) := by decide +kernel
theorem dX2_letFirstTry_79 : decode cX2_letFirstTry 79 = .ok (.aload_n 0, 1) := by decide +kernel
theorem dX2_letFirstTry_80 : decode cX2_letFirstTry 80 = .ok (.dup, 1) := by decide +kernel
theorem dX2_letFirstTry_81 : decode cX2_letFirstTry 81 = .ok (.getfield 63, 3) := by decide +kernel
theorem dX2_letFirstTry_84 : decode cX2_letFirstTry 84 = .ok (.iload 4, 2) := by decide +kernel
theorem dX2_letFirstTry_86 : decode cX2_letFirstTry 86 = .ok (.iadd, 1) := by decide +kernel
theorem dX2_letFirstTry_87 : decode cX2_letFirstTry 87 = .ok (.putfield 63, 3) := by decide +kernel
theorem dX2_letFirstTry_90 : decode cX2_letFirstTry 90 = .ok (.aload_n 0, 1) := by decide +kernel
theorem dX2_letFirstTry_91 : decode cX2_letFirstTry 91 = .ok (.getfield 15, 3) := by decide +kernel
theorem dX2_letFirstTry_94 : decode cX2_letFirstTry 94 = .ok (.iload_n 2, 1) := by decide +kernel
theorem dX2_letFirstTry_95 : decode cX2_letFirstTry 95 = .ok (.aload_n 0, 1) := by decide +kernel
theorem dX2_letFirstTry_96 : decode cX2_letFirstTry 96 = .ok (.invokevirtual 136, 3) := by decide +kernel
theorem dX2_letFirstTry_99 : decode cX2_letFirstTry 99 = .ok (.ifCond .ne 7, 3) := by decide +kernel
theorem dX2_letFirstTry_102 : decode cX2_letFirstTry 102 = .ok (.iconst 1, 1) := by decide +kernel
theorem dX2_letFirstTry_103 : decode cX2_letFirstTry 103 = .ok (.goto 4, 3) := by decide +kernel
theorem dX2_letFirstTry_106 : decode cX2_letFirstTry 106 = .ok (.iconst 0, 1) := by decide +kernel
theorem dX2_letFirstTry_107 : decode cX2_letFirstTry 107 = .ok (.invokestatic 66, 3) := by decide +kernel
theorem dX2_letFirstTry_110 : decode cX2_letFirstTry 110 = .ok (.aload_n 0, 1) := by decide +kernel
theorem dX2_letFirstTry_111 : decode cX2_letFirstTry 111 = .ok (.getfield 27, 3) := by decide +kernel
theorem dX2_letFirstTry_114 : decode cX2_letFirstTry 114 = .ok (.iload_n 2, 1) := by decide +kernel
theorem dX2_letFirstTry_115 : decode cX2_letFirstTry 115 = .ok (.iconst 1, 1) := by decide +kernel
theorem dX2_letFirstTry_116 : decode cX2_letFirstTry 116 = .ok (.invokestatic 160, 3) := by decide +kernel
theorem dX2_letFirstTry_119 : decode cX2_letFirstTry 119 = .ok (.aload_n 0, 1) := by decide +kernel
theorem dX2_letFirstTry_120 : decode cX2_letFirstTry 120 = .ok (.iload_n 2, 1) := by decide +kernel
theorem dX2_letFirstTry_121 : decode cX2_letFirstTry 121 = .ok (.invokevirtual 163, 3) := by decide +kernel
theorem dX2_letFirstTry_124 : decode cX2_letFirstTry 124 = .ok (.aload_n 0, 1) := by decide +kernel
theorem dX2_letFirstTry_125 : decode cX2_letFirstTry 125 = .ok (.iload_n 3, 1) := by decide +kernel
theorem dX2_letFirstTry_126 : decode cX2_letFirstTry 126 = .ok (.aload_n 0, 1) := by decide +kernel
theorem dX2_letFirstTry_127 : decode cX2_letFirstTry 127 = .ok (.getfield 49, 3) := by decide +kernel
theorem dX2_letFirstTry_130 : decode cX2_letFirstTry 130 = .ok (.iload_n 2, 1) := by decide +kernel
theorem dX2_letFirstTry_131 : decode cX2_letFirstTry 131 = .ok (.invokevirtual 80, 3) := by decide +kernel
theorem dX2_letFirstTry_134 : decode cX2_letFirstTry 134 = .ok (.invokevirtual 166, 3) := by decide +kernel
theorem dX2_letFirstTry_137 : decode cX2_letFirstTry 137 = .ok (.iconst 1, 1) := by decide +kernel
theorem dX2_letFirstTry_138 : decode cX2_letFirstTry 138 = .ok (.ireturn, 1) := by decide +kernel
theorem dX2_countRoyalCoinsOf_0 : decode cX2_countRoyalCoinsOf 0 = .ok (.iconst 0, 1) := by decide +kernel
theorem dX2_countRoyalCoinsOf_1 : decode cX2_countRoyalCoinsOf 1 = .ok (.istore_n 2, 1) := by decide +kernel
theorem dX2_countRoyalCoinsOf_2 : decode cX2_countRoyalCoinsOf 2 = .ok (.iload_n 2, 1) := by decide +kernel
theorem dX2_countRoyalCoinsOf_3 : decode cX2_countRoyalCoinsOf 3 = .ok (.aload_n 0, 1) := by decide +kernel
theorem dX2_countRoyalCoinsOf_4 : decode cX2_countRoyalCoinsOf 4 = .ok (.getfield 49, 3) := by decide +kernel
theorem dX2_countRoyalCoinsOf_7 : decode cX2_countRoyalCoinsOf 7 = .ok (.getfield 88, 3) := by decide +kernel
theorem dX2_countRoyalCoinsOf_10 : decode cX2_countRoyalCoinsOf 10 = .ok (.if_icmp .ge 30, 3) := by decide +kernel
theorem dX2_countRoyalCoinsOf_13 : decode cX2_countRoyalCoinsOf 13 = .ok (.aload_n 0, 1) := by decide +kernel
theorem dX2_countRoyalCoinsOf_14 : decode cX2_countRoyalCoinsOf 14 = .ok (.getfield 30, 3) := by decide +kernel
theorem dX2_countRoyalCoinsOf_17 : decode cX2_countRoyalCoinsOf 17 = .ok (.iload_n 2, 1) := by decide +kernel
theorem dX2_countRoyalCoinsOf_18 : decode cX2_countRoyalCoinsOf 18 = .ok (.invokestatic 91, 3) := by decide +kernel
theorem dX2_countRoyalCoinsOf_21 : decode cX2_countRoyalCoinsOf 21 = .ok (.iload_n 1, 1) := by decide +kernel
theorem dX2_countRoyalCoinsOf_22 : decode cX2_countRoyalCoinsOf 22 = .ok (.if_icmp .ne 12, 3) := by decide +kernel
theorem dX2_countRoyalCoinsOf_25 : decode cX2_countRoyalCoinsOf 25 = .ok (.aload_n 0, 1) := by decide +kernel
theorem dX2_countRoyalCoinsOf_26 : decode cX2_countRoyalCoinsOf 26 = .ok (.getfield 36, 3) := by decide +kernel
theorem dX2_countRoyalCoinsOf_29 : decode cX2_countRoyalCoinsOf 29 = .ok (.iload_n 2, 1) := by decide +kernel
theorem dX2_countRoyalCoinsOf_30 : decode cX2_countRoyalCoinsOf 30 = .ok (.iconst 1, 1) := by decide +kernel
theorem dX2_countRoyalCoinsOf_31 : decode cX2_countRoyalCoinsOf 31 = .ok (.invokestatic 66, 3) := by decide +kernel
theorem dX2_countRoyalCoinsOf_34 : decode cX2_countRoyalCoinsOf 34 = .ok (.iinc 2 1, 3) := by decide +kernel
theorem dX2_countRoyalCoinsOf_37 : decode cX2_countRoyalCoinsOf 37 = .ok (.goto (-35), 3) := by decide +kernel
theorem dX2_countRoyalCoinsOf_40 : decode cX2_countRoyalCoinsOf 40 = .ok (.return_, 1) := by decide +kernel
theorem dX2_learn_0 : decode cX2_learn 0 = .ok (.iload_n 1, 1) := by decide +kernel
theorem dX2_learn_1 : decode cX2_learn 1 = .ok (.ifCond .eq 30, 3) := by decide +kernel
theorem dX2_learn_4 : decode cX2_learn 4 = .ok (.iload_n 2, 1) := by decide +kernel
theorem dX2_learn_5 : decode cX2_learn 5 = .ok (.ifCond .ne 26, 3) := by decide +kernel
theorem dX2_learn_8 : decode cX2_learn 8 = .ok (.aload_n 0, 1) := by decide +kernel
theorem dX2_learn_9 : decode cX2_learn 9 = .ok (.iconst 0, 1) := by decide +kernel
theorem dX2_learn_10 : decode cX2_learn 10 = .ok (.aload_n 0, 1) := by decide +kernel
theorem dX2_learn_11 : decode cX2_learn 11 = .ok (.getfield 62, 3) := by decide +kernel
theorem dX2_learn_14 : decode cX2_learn 14 = .ok (.aload_n 0, 1) := by decide +kernel
theorem dX2_learn_15 : decode cX2_learn 15 = .ok (.getfield 49, 3) := by decide +kernel
theorem dX2_learn_18 : decode cX2_learn 18 = .ok (.getfield 170, 3) := by decide +kernel
theorem dX2_learn_21 : decode cX2_learn 21 = .ok (.isub, 1) := by decide +kernel
theorem dX2_learn_22 : decode cX2_learn 22 = .ok (.invokestatic 173, 3) := by decide +kernel
theorem dX2_learn_25 : decode cX2_learn 25 = .ok (.putfield 62, 3) := by decide +kernel
theorem dX2_learn_28 : decode cX2_learn 28 = .ok (.goto 32, 3) := by decide +kernel
theorem dX2_learn_31 : decode cX2_learn 31 = .ok (.iload_n 1, 1) := by decide +kernel
theorem dX2_learn_32 : decode cX2_learn 32 = .ok (.ifCond .ne 28, 3) := by decide +kernel
theorem dX2_learn_35 : decode cX2_learn 35 = .ok (.iload_n 2, 1) := by decide +kernel
theorem dX2_learn_36 : decode cX2_learn 36 = .ok (.ifCond .eq 24, 3) := by decide +kernel
theorem dX2_learn_39 : decode cX2_learn 39 = .ok (.aload_n 0, 1) := by decide +kernel
theorem dX2_learn_40 : decode cX2_learn 40 = .ok (.bipush 90, 2) := by decide +kernel
theorem dX2_learn_42 : decode cX2_learn 42 = .ok (.aload_n 0, 1) := by decide +kernel
theorem dX2_learn_43 : decode cX2_learn 43 = .ok (.getfield 62, 3) := by decide +kernel
theorem dX2_learn_46 : decode cX2_learn 46 = .ok (.aload_n 0, 1) := by decide +kernel
theorem dX2_learn_47 : decode cX2_learn 47 = .ok (.getfield 49, 3) := by decide +kernel
theorem dX2_learn_50 : decode cX2_learn 50 = .ok (.getfield 170, 3) := by decide +kernel
theorem dX2_learn_53 : decode cX2_learn 53 = .ok (.iadd, 1) := by decide +kernel
theorem dX2_learn_54 : decode cX2_learn 54 = .ok (.invokestatic 178, 3) := by decide +kernel
theorem dX2_learn_57 : decode cX2_learn 57 = .ok (.putfield 62, 3) := by decide +kernel
theorem dX2_learn_60 : decode cX2_learn 60 = .ok (.return_, 1) := by decide +kernel
theorem dX2_faultOf_0 : decode cX2_faultOf 0 = .ok (.aload_n 1, 1) := by decide +kernel
theorem dX2_faultOf_1 : decode cX2_faultOf 1 = .ok (.getfield 181, 3) := by decide +kernel
theorem dX2_faultOf_4 : decode cX2_faultOf 4 = .ok (.ifCond .le 14, 3) := by decide +kernel
theorem dX2_faultOf_7 : decode cX2_faultOf 7 = .ok (.aload_n 0, 1) := by decide +kernel
theorem dX2_faultOf_8 : decode cX2_faultOf 8 = .ok (.getfield 49, 3) := by decide +kernel
theorem dX2_faultOf_11 : decode cX2_faultOf 11 = .ok (.iload_n 2, 1) := by decide +kernel
theorem dX2_faultOf_12 : decode cX2_faultOf 12 = .ok (.invokevirtual 184, 3) := by decide +kernel
theorem dX2_faultOf_15 : decode cX2_faultOf 15 = .ok (.ifCond .eq 22, 3) := by decide +kernel
theorem dX2_faultOf_18 : decode cX2_faultOf 18 = .ok (.aload_n 1, 1) := by decide +kernel
theorem dX2_faultOf_19 : decode cX2_faultOf 19 = .ok (.getfield 181, 3) := by decide +kernel
theorem dX2_faultOf_22 : decode cX2_faultOf 22 = .ok (.iconst 1, 1) := by decide +kernel
theorem dX2_faultOf_23 : decode cX2_faultOf 23 = .ok (.if_icmp .le 16, 3) := by decide +kernel
theorem dX2_faultOf_26 : decode cX2_faultOf 26 = .ok (.aload_n 0, 1) := by decide +kernel
theorem dX2_faultOf_27 : decode cX2_faultOf 27 = .ok (.getfield 49, 3) := by decide +kernel
theorem dX2_faultOf_30 : decode cX2_faultOf 30 = .ok (.iload_n 3, 1) := by decide +kernel
theorem dX2_faultOf_31 : decode cX2_faultOf 31 = .ok (.invokevirtual 184, 3) := by decide +kernel
theorem dX2_faultOf_34 : decode cX2_faultOf 34 = .ok (.ifCond .ne 5, 3) := by decide +kernel
theorem dX2_faultOf_37 : decode cX2_faultOf 37 = .ok (.iconst 1, 1) := by decide +kernel
theorem dX2_faultOf_38 : decode cX2_faultOf 38 = .ok (.ireturn, 1) := by decide +kernel
theorem dX2_faultOf_39 : decode cX2_faultOf 39 = .ok (.aload_n 0, 1) := by decide +kernel
theorem dX2_faultOf_40 : decode cX2_faultOf 40 = .ok (.aload_n 1, 1) := by decide +kernel
theorem dX2_faultOf_41 : decode cX2_faultOf 41 = .ok (.iload_n 2, 1) := by decide +kernel
theorem dX2_faultOf_42 : decode cX2_faultOf 42 = .ok (.iload_n 3, 1) := by decide +kernel
theorem dX2_faultOf_43 : decode cX2_faultOf 43 = .ok (.invokevirtual 187, 3) := by decide +kernel
theorem dX2_faultOf_46 : decode cX2_faultOf 46 = .ok (.ifCond .ne 5, 3) := by decide +kernel
theorem dX2_faultOf_49 : decode cX2_faultOf 49 = .ok (.iconst 2, 1) := by decide +kernel
theorem dX2_faultOf_50 : decode cX2_faultOf 50 = .ok (.ireturn, 1) := by decide +kernel
theorem dX2_faultOf_51 : decode cX2_faultOf 51 = .ok (.aload_n 0, 1) := by decide +kernel
theorem dX2_faultOf_52 : decode cX2_faultOf 52 = .ok (.aload_n 1, 1) := by decide +kernel
theorem dX2_faultOf_53 : decode cX2_faultOf 53 = .ok (.iload_n 2, 1) := by decide +kernel
theorem dX2_faultOf_54 : decode cX2_faultOf 54 = .ok (.iload_n 3, 1) := by decide +kernel
theorem dX2_faultOf_55 : decode cX2_faultOf 55 = .ok (.invokevirtual 191, 3) := by decide +kernel
theorem dX2_faultOf_58 : decode cX2_faultOf 58 = .ok (.ifCond .eq 7, 3) := by decide +kernel
theorem dX2_faultOf_61 : decode cX2_faultOf 61 = .ok (.iconst 0, 1) := by decide +kernel
theorem dX2_faultOf_62 : decode cX2_faultOf 62 = .ok (.goto 4, 3) := by decide +kernel
theorem dX2_faultOf_65 : decode cX2_faultOf 65 = .ok (.iconst 3, 1) := by decide +kernel
theorem dX2_faultOf_66 : decode cX2_faultOf 66 = .ok (.ireturn, 1) := by decide +kernel
theorem dX2_isSound_0 : decode cX2_isSound 0 = .ok (.getstatic 194, 3) := by decide +kernel
theorem dX2_isSound_3 : decode cX2_isSound 3 = .ok (.aload_n 1, 1) := by decide +kernel
theorem dX2_isSound_4 : decode cX2_isSound 4 = .ok (.invokevirtual 199, 3) := by decide +kernel
theorem dX2_isSound_7 : decode cX2_isSound 7 = .ok (.iaload, 1) := by decide +kernel
theorem dX2_isSound_8 : decode cX2_isSound 8 = .ok (.tableswitch 64 1 5 #[36, 36, 45, 56, 58], 36) := by decide +kernel
theorem dX2_isSound_44 : decode cX2_isSound 44 = .ok (.aload_n 0, 1) := by decide +kernel
theorem dX2_isSound_45 : decode cX2_isSound 45 = .ok (.getfield 49, 3) := by decide +kernel
theorem dX2_isSound_48 : decode cX2_isSound 48 = .ok (.iload_n 3, 1) := by decide +kernel
theorem dX2_isSound_49 : decode cX2_isSound 49 = .ok (.invokevirtual 80, 3) := by decide +kernel
theorem dX2_isSound_52 : decode cX2_isSound 52 = .ok (.ireturn, 1) := by decide +kernel
theorem dX2_isSound_53 : decode cX2_isSound 53 = .ok (.iload_n 2, 1) := by decide +kernel
theorem dX2_isSound_54 : decode cX2_isSound 54 = .ok (.iload_n 3, 1) := by decide +kernel
theorem dX2_isSound_55 : decode cX2_isSound 55 = .ok (.if_icmp .eq 7, 3) := by decide +kernel
theorem dX2_isSound_58 : decode cX2_isSound 58 = .ok (.iconst 1, 1) := by decide +kernel
theorem dX2_isSound_59 : decode cX2_isSound 59 = .ok (.goto 4, 3) := by decide +kernel
theorem dX2_isSound_62 : decode cX2_isSound 62 = .ok (.iconst 0, 1) := by decide +kernel
theorem dX2_isSound_63 : decode cX2_isSound 63 = .ok (.ireturn, 1) := by decide +kernel
theorem dX2_isSound_64 : decode cX2_isSound 64 = .ok (.iconst 1, 1) := by decide +kernel
theorem dX2_isSound_65 : decode cX2_isSound 65 = .ok (.ireturn, 1) := by decide +kernel
theorem dX2_isSound_66 : decode cX2_isSound 66 = .ok (.aload_n 1, 1) := by decide +kernel
theorem dX2_isSound_67 : decode cX2_isSound 67 = .ok (.iload_n 2, 1) := by decide +kernel
theorem dX2_isSound_68 : decode cX2_isSound 68 = .ok (.invokevirtual 202, 3) := by decide +kernel
theorem dX2_isSound_71 : decode cX2_isSound 71 = .ok (.ireturn, 1) := by decide +kernel
theorem dX2_isSound_72 : decode cX2_isSound 72 = .ok (.aload_n 1, 1) := by decide +kernel
theorem dX2_isSound_73 : decode cX2_isSound 73 = .ok (.iload_n 3, 1) := by decide +kernel
theorem dX2_isSound_74 : decode cX2_isSound 74 = .ok (.invokevirtual 202, 3) := by decide +kernel
theorem dX2_isSound_77 : decode cX2_isSound 77 = .ok (.ireturn, 1) := by decide +kernel
theorem dX2_isPossible_0 : decode cX2_isPossible 0 = .ok (.getstatic 194, 3) := by decide +kernel
theorem dX2_isPossible_3 : decode cX2_isPossible 3 = .ok (.aload_n 1, 1) := by decide +kernel
theorem dX2_isPossible_4 : decode cX2_isPossible 4 = .ok (.invokevirtual 199, 3) := by decide +kernel
theorem dX2_isPossible_7 : decode cX2_isPossible 7 = .ok (.iaload, 1) := by decide +kernel
theorem dX2_isPossible_8 : decode cX2_isPossible 8 = .ok (.tableswitch 219 1 8 #[91, 109, 146, 186, 201, 48, 66, 171], 48) := by decide +kernel
theorem dX2_isPossible_56 : decode cX2_isPossible 56 = .ok (.aload_n 0, 1) := by decide +kernel
theorem dX2_isPossible_57 : decode cX2_isPossible 57 = .ok (.getfield 18, 3) := by decide +kernel
theorem dX2_isPossible_60 : decode cX2_isPossible 60 = .ok (.iload_n 2, 1) := by decide +kernel
theorem dX2_isPossible_61 : decode cX2_isPossible 61 = .ok (.invokestatic 91, 3) := by decide +kernel
theorem dX2_isPossible_64 : decode cX2_isPossible 64 = .ok (.iload_n 3, 1) := by decide +kernel
theorem dX2_isPossible_65 : decode cX2_isPossible 65 = .ok (.if_icmp .lt 7, 3) := by decide +kernel
theorem dX2_isPossible_68 : decode cX2_isPossible 68 = .ok (.iconst 1, 1) := by decide +kernel
theorem dX2_isPossible_69 : decode cX2_isPossible 69 = .ok (.goto 4, 3) := by decide +kernel
theorem dX2_isPossible_72 : decode cX2_isPossible 72 = .ok (.iconst 0, 1) := by decide +kernel
theorem dX2_isPossible_73 : decode cX2_isPossible 73 = .ok (.ireturn, 1) := by decide +kernel
theorem dX2_isPossible_74 : decode cX2_isPossible 74 = .ok (.aload_n 0, 1) := by decide +kernel
theorem dX2_isPossible_75 : decode cX2_isPossible 75 = .ok (.getfield 9, 3) := by decide +kernel
theorem dX2_isPossible_78 : decode cX2_isPossible 78 = .ok (.aload_n 0, 1) := by decide +kernel
theorem dX2_isPossible_79 : decode cX2_isPossible 79 = .ok (.getfield 15, 3) := by decide +kernel
theorem dX2_isPossible_82 : decode cX2_isPossible 82 = .ok (.iload_n 2, 1) := by decide +kernel
theorem dX2_isPossible_83 : decode cX2_isPossible 83 = .ok (.invokestatic 91, 3) := by decide +kernel
theorem dX2_isPossible_86 : decode cX2_isPossible 86 = .ok (.invokestatic 91, 3) := by decide +kernel
theorem dX2_isPossible_89 : decode cX2_isPossible 89 = .ok (.iload_n 3, 1) := by decide +kernel
theorem dX2_isPossible_90 : decode cX2_isPossible 90 = .ok (.if_icmp .lt 7, 3) := by decide +kernel
theorem dX2_isPossible_93 : decode cX2_isPossible 93 = .ok (.iconst 1, 1) := by decide +kernel
theorem dX2_isPossible_94 : decode cX2_isPossible 94 = .ok (.goto 4, 3) := by decide +kernel
theorem dX2_isPossible_97 : decode cX2_isPossible 97 = .ok (.iconst 0, 1) := by decide +kernel
theorem dX2_isPossible_98 : decode cX2_isPossible 98 = .ok (.ireturn, 1) := by decide +kernel
theorem dX2_isPossible_99 : decode cX2_isPossible 99 = .ok (.aload_n 0, 1) := by decide +kernel
theorem dX2_isPossible_100 : decode cX2_isPossible 100 = .ok (.getfield 30, 3) := by decide +kernel
theorem dX2_isPossible_103 : decode cX2_isPossible 103 = .ok (.iload_n 3, 1) := by decide +kernel
theorem dX2_isPossible_104 : decode cX2_isPossible 104 = .ok (.invokestatic 91, 3) := by decide +kernel
theorem dX2_isPossible_107 : decode cX2_isPossible 107 = .ok (.iload_n 2, 1) := by decide +kernel
theorem dX2_isPossible_108 : decode cX2_isPossible 108 = .ok (.if_icmp .ne 7, 3) := by decide +kernel
theorem dX2_isPossible_111 : decode cX2_isPossible 111 = .ok (.iconst 1, 1) := by decide +kernel
theorem dX2_isPossible_112 : decode cX2_isPossible 112 = .ok (.goto 4, 3) := by decide +kernel
theorem dX2_isPossible_115 : decode cX2_isPossible 115 = .ok (.iconst 0, 1) := by decide +kernel
theorem dX2_isPossible_116 : decode cX2_isPossible 116 = .ok (.ireturn, 1) := by decide +kernel
theorem dX2_isPossible_117 : decode cX2_isPossible 117 = .ok (.aload_n 0, 1) := by decide +kernel
theorem dX2_isPossible_118 : decode cX2_isPossible 118 = .ok (.getfield 30, 3) := by decide +kernel
theorem dX2_isPossible_121 : decode cX2_isPossible 121 = .ok (.iload_n 3, 1) := by decide +kernel
theorem dX2_isPossible_122 : decode cX2_isPossible 122 = .ok (.invokestatic 91, 3) := by decide +kernel
theorem dX2_isPossible_125 : decode cX2_isPossible 125 = .ok (.iconst (-1), 1) := by decide +kernel
theorem dX2_isPossible_126 : decode cX2_isPossible 126 = .ok (.if_icmp .ne 26, 3) := by decide +kernel
theorem dX2_isPossible_129 : decode cX2_isPossible 129 = .ok (.aload_n 0, 1) := by decide +kernel
theorem dX2_isPossible_130 : decode cX2_isPossible 130 = .ok (.getfield 33, 3) := by decide +kernel
theorem dX2_isPossible_133 : decode cX2_isPossible 133 = .ok (.iload_n 3, 1) := by decide +kernel
theorem dX2_isPossible_134 : decode cX2_isPossible 134 = .ok (.invokestatic 91, 3) := by decide +kernel
theorem dX2_isPossible_137 : decode cX2_isPossible 137 = .ok (.aload_n 0, 1) := by decide +kernel
theorem dX2_isPossible_138 : decode cX2_isPossible 138 = .ok (.getfield 15, 3) := by decide +kernel
theorem dX2_isPossible_141 : decode cX2_isPossible 141 = .ok (.iload_n 2, 1) := by decide +kernel
theorem dX2_isPossible_142 : decode cX2_isPossible 142 = .ok (.invokestatic 91, 3) := by decide +kernel
theorem dX2_isPossible_145 : decode cX2_isPossible 145 = .ok (.if_icmp .ne 7, 3) := by decide +kernel
theorem dX2_isPossible_148 : decode cX2_isPossible 148 = .ok (.iconst 1, 1) := by decide +kernel
theorem dX2_isPossible_149 : decode cX2_isPossible 149 = .ok (.goto 4, 3) := by decide +kernel
theorem dX2_isPossible_152 : decode cX2_isPossible 152 = .ok (.iconst 0, 1) := by decide +kernel
theorem dX2_isPossible_153 : decode cX2_isPossible 153 = .ok (.ireturn, 1) := by decide +kernel
theorem dX2_isPossible_154 : decode cX2_isPossible 154 = .ok (.aload_n 0, 1) := by decide +kernel
theorem dX2_isPossible_155 : decode cX2_isPossible 155 = .ok (.getfield 15, 3) := by decide +kernel
theorem dX2_isPossible_158 : decode cX2_isPossible 158 = .ok (.iload_n 2, 1) := by decide +kernel
theorem dX2_isPossible_159 : decode cX2_isPossible 159 = .ok (.invokestatic 91, 3) := by decide +kernel
theorem dX2_isPossible_162 : decode cX2_isPossible 162 = .ok (.aload_n 0, 1) := by decide +kernel
theorem dX2_isPossible_163 : decode cX2_isPossible 163 = .ok (.getfield 15, 3) := by decide +kernel
theorem dX2_isPossible_166 : decode cX2_isPossible 166 = .ok (.iload_n 3, 1) := by decide +kernel
theorem dX2_isPossible_167 : decode cX2_isPossible 167 = .ok (.invokestatic 91, 3) := by decide +kernel
theorem dX2_isPossible_170 : decode cX2_isPossible 170 = .ok (.if_icmp .ne 7, 3) := by decide +kernel
theorem dX2_isPossible_173 : decode cX2_isPossible 173 = .ok (.iconst 1, 1) := by decide +kernel
theorem dX2_isPossible_174 : decode cX2_isPossible 174 = .ok (.goto 4, 3) := by decide +kernel
theorem dX2_isPossible_177 : decode cX2_isPossible 177 = .ok (.iconst 0, 1) := by decide +kernel
theorem dX2_isPossible_178 : decode cX2_isPossible 178 = .ok (.ireturn, 1) := by decide +kernel
theorem dX2_isPossible_179 : decode cX2_isPossible 179 = .ok (.aload_n 0, 1) := by decide +kernel
theorem dX2_isPossible_180 : decode cX2_isPossible 180 = .ok (.iload_n 2, 1) := by decide +kernel
theorem dX2_isPossible_181 : decode cX2_isPossible 181 = .ok (.invokevirtual 205, 3) := by decide +kernel
theorem dX2_isPossible_184 : decode cX2_isPossible 184 = .ok (.iconst (-1), 1) := by decide +kernel
theorem dX2_isPossible_185 : decode cX2_isPossible 185 = .ok (.if_icmp .ne 7, 3) := by decide +kernel
theorem dX2_isPossible_188 : decode cX2_isPossible 188 = .ok (.iconst 1, 1) := by decide +kernel
theorem dX2_isPossible_189 : decode cX2_isPossible 189 = .ok (.goto 4, 3) := by decide +kernel
theorem dX2_isPossible_192 : decode cX2_isPossible 192 = .ok (.iconst 0, 1) := by decide +kernel
theorem dX2_isPossible_193 : decode cX2_isPossible 193 = .ok (.ireturn, 1) := by decide +kernel
theorem dX2_isPossible_194 : decode cX2_isPossible 194 = .ok (.aload_n 0, 1) := by decide +kernel
theorem dX2_isPossible_195 : decode cX2_isPossible 195 = .ok (.iload_n 2, 1) := by decide +kernel
theorem dX2_isPossible_196 : decode cX2_isPossible 196 = .ok (.invokevirtual 205, 3) := by decide +kernel
theorem dX2_isPossible_199 : decode cX2_isPossible 199 = .ok (.iconst (-1), 1) := by decide +kernel
theorem dX2_isPossible_200 : decode cX2_isPossible 200 = .ok (.if_icmp .eq 7, 3) := by decide +kernel
theorem dX2_isPossible_203 : decode cX2_isPossible 203 = .ok (.iconst 1, 1) := by decide +kernel
theorem dX2_isPossible_204 : decode cX2_isPossible 204 = .ok (.goto 4, 3) := by decide +kernel
theorem dX2_isPossible_207 : decode cX2_isPossible 207 = .ok (.iconst 0, 1) := by decide +kernel
theorem dX2_isPossible_208 : decode cX2_isPossible 208 = .ok (.ireturn, 1) := by decide +kernel
theorem dX2_isPossible_209 : decode cX2_isPossible 209 = .ok (.aload_n 0, 1) := by decide +kernel
theorem dX2_isPossible_210 : decode cX2_isPossible 210 = .ok (.getfield 53, 3) := by decide +kernel
theorem dX2_isPossible_213 : decode cX2_isPossible 213 = .ok (.iload_n 2, 1) := by decide +kernel
theorem dX2_isPossible_214 : decode cX2_isPossible 214 = .ok (.iadd, 1) := by decide +kernel
theorem dX2_isPossible_215 : decode cX2_isPossible 215 = .ok (.sipush 10000, 3) := by decide +kernel
theorem dX2_isPossible_218 : decode cX2_isPossible 218 = .ok (.if_icmp .gt 7, 3) := by decide +kernel
theorem dX2_isPossible_221 : decode cX2_isPossible 221 = .ok (.iconst 1, 1) := by decide +kernel
theorem dX2_isPossible_222 : decode cX2_isPossible 222 = .ok (.goto 4, 3) := by decide +kernel
theorem dX2_isPossible_225 : decode cX2_isPossible 225 = .ok (.iconst 0, 1) := by decide +kernel
theorem dX2_isPossible_226 : decode cX2_isPossible 226 = .ok (.ireturn, 1) := by decide +kernel
theorem dX2_isPossible_227 : decode cX2_isPossible 227 = .ok (.iconst 1, 1) := by decide +kernel
theorem dX2_isPossible_228 : decode cX2_isPossible 228 = .ok (.ireturn, 1) := by decide +kernel
theorem dX2_carryOut_0 : decode cX2_carryOut 0 = .ok (.getstatic 194, 3) := by decide +kernel
theorem dX2_carryOut_3 : decode cX2_carryOut 3 = .ok (.aload_n 1, 1) := by decide +kernel
theorem dX2_carryOut_4 : decode cX2_carryOut 4 = .ok (.invokevirtual 199, 3) := by decide +kernel
theorem dX2_carryOut_7 : decode cX2_carryOut 7 = .ok (.iaload, 1) := by decide +kernel
theorem dX2_carryOut_8 : decode cX2_carryOut 8 = .ok (.tableswitch 131 1 9 #[72, 82, 92, 112, 131, 52, 62, 102, 121], 52) := by decide +kernel
theorem dX2_carryOut_60 : decode cX2_carryOut 60 = .ok (.aload_n 0, 1) := by decide +kernel
theorem dX2_carryOut_61 : decode cX2_carryOut 61 = .ok (.iload_n 2, 1) := by decide +kernel
theorem dX2_carryOut_62 : decode cX2_carryOut 62 = .ok (.iload_n 3, 1) := by decide +kernel
theorem dX2_carryOut_63 : decode cX2_carryOut 63 = .ok (.invokevirtual 208, 3) := by decide +kernel
theorem dX2_carryOut_66 : decode cX2_carryOut 66 = .ok (.pop, 1) := by decide +kernel
theorem dX2_carryOut_67 : decode cX2_carryOut 67 = .ok (.goto 78, 3) := by decide +kernel
theorem dX2_carryOut_70 : decode cX2_carryOut 70 = .ok (.aload_n 0, 1) := by decide +kernel
theorem dX2_carryOut_71 : decode cX2_carryOut 71 = .ok (.iload_n 2, 1) := by decide +kernel
theorem dX2_carryOut_72 : decode cX2_carryOut 72 = .ok (.iload_n 3, 1) := by decide +kernel
theorem dX2_carryOut_73 : decode cX2_carryOut 73 = .ok (.invokevirtual 211, 3) := by decide +kernel
theorem dX2_carryOut_76 : decode cX2_carryOut 76 = .ok (.pop, 1) := by decide +kernel
theorem dX2_carryOut_77 : decode cX2_carryOut 77 = .ok (.goto 68, 3) := by decide +kernel
theorem dX2_carryOut_80 : decode cX2_carryOut 80 = .ok (.aload_n 0, 1) := by decide +kernel
theorem dX2_carryOut_81 : decode cX2_carryOut 81 = .ok (.iload_n 2, 1) := by decide +kernel
theorem dX2_carryOut_82 : decode cX2_carryOut 82 = .ok (.iload_n 3, 1) := by decide +kernel
theorem dX2_carryOut_83 : decode cX2_carryOut 83 = .ok (.invokevirtual 214, 3) := by decide +kernel
theorem dX2_carryOut_86 : decode cX2_carryOut 86 = .ok (.pop, 1) := by decide +kernel
theorem dX2_carryOut_87 : decode cX2_carryOut 87 = .ok (.goto 58, 3) := by decide +kernel
theorem dX2_carryOut_90 : decode cX2_carryOut 90 = .ok (.aload_n 0, 1) := by decide +kernel
theorem dX2_carryOut_91 : decode cX2_carryOut 91 = .ok (.iload_n 2, 1) := by decide +kernel
theorem dX2_carryOut_92 : decode cX2_carryOut 92 = .ok (.iload_n 3, 1) := by decide +kernel
theorem dX2_carryOut_93 : decode cX2_carryOut 93 = .ok (.invokevirtual 217, 3) := by decide +kernel
theorem dX2_carryOut_96 : decode cX2_carryOut 96 = .ok (.pop, 1) := by decide +kernel
theorem dX2_carryOut_97 : decode cX2_carryOut 97 = .ok (.goto 48, 3) := by decide +kernel
theorem dX2_carryOut_100 : decode cX2_carryOut 100 = .ok (.aload_n 0, 1) := by decide +kernel
theorem dX2_carryOut_101 : decode cX2_carryOut 101 = .ok (.iload_n 2, 1) := by decide +kernel
theorem dX2_carryOut_102 : decode cX2_carryOut 102 = .ok (.iload_n 3, 1) := by decide +kernel
theorem dX2_carryOut_103 : decode cX2_carryOut 103 = .ok (.invokevirtual 220, 3) := by decide +kernel
theorem dX2_carryOut_106 : decode cX2_carryOut 106 = .ok (.pop, 1) := by decide +kernel
theorem dX2_carryOut_107 : decode cX2_carryOut 107 = .ok (.goto 38, 3) := by decide +kernel
theorem dX2_carryOut_110 : decode cX2_carryOut 110 = .ok (.aload_n 0, 1) := by decide +kernel
theorem dX2_carryOut_111 : decode cX2_carryOut 111 = .ok (.iload_n 2, 1) := by decide +kernel
theorem dX2_carryOut_112 : decode cX2_carryOut 112 = .ok (.iload_n 3, 1) := by decide +kernel
theorem dX2_carryOut_113 : decode cX2_carryOut 113 = .ok (.invokevirtual 223, 3) := by decide +kernel
theorem dX2_carryOut_116 : decode cX2_carryOut 116 = .ok (.pop, 1) := by decide +kernel
theorem dX2_carryOut_117 : decode cX2_carryOut 117 = .ok (.goto 28, 3) := by decide +kernel
theorem dX2_carryOut_120 : decode cX2_carryOut 120 = .ok (.aload_n 0, 1) := by decide +kernel
theorem dX2_carryOut_121 : decode cX2_carryOut 121 = .ok (.iload_n 2, 1) := by decide +kernel
theorem dX2_carryOut_122 : decode cX2_carryOut 122 = .ok (.invokevirtual 226, 3) := by decide +kernel
theorem dX2_carryOut_125 : decode cX2_carryOut 125 = .ok (.pop, 1) := by decide +kernel
theorem dX2_carryOut_126 : decode cX2_carryOut 126 = .ok (.goto 19, 3) := by decide +kernel
theorem dX2_carryOut_129 : decode cX2_carryOut 129 = .ok (.aload_n 0, 1) := by decide +kernel
theorem dX2_carryOut_130 : decode cX2_carryOut 130 = .ok (.iload_n 2, 1) := by decide +kernel
theorem dX2_carryOut_131 : decode cX2_carryOut 131 = .ok (.iload_n 3, 1) := by decide +kernel
theorem dX2_carryOut_132 : decode cX2_carryOut 132 = .ok (.invokevirtual 229, 3) := by decide +kernel
theorem dX2_carryOut_135 : decode cX2_carryOut 135 = .ok (.pop, 1) := by decide +kernel
theorem dX2_carryOut_136 : decode cX2_carryOut 136 = .ok (.goto 9, 3) := by decide +kernel
theorem dX2_carryOut_139 : decode cX2_carryOut 139 = .ok (.aload_n 0, 1) := by decide +kernel
theorem dX2_carryOut_140 : decode cX2_carryOut 140 = .ok (.iload_n 2, 1) := by decide +kernel
theorem dX2_carryOut_141 : decode cX2_carryOut 141 = .ok (.invokevirtual 232, 3) := by decide +kernel
theorem dX2_carryOut_144 : decode cX2_carryOut 144 = .ok (.pop, 1) := by decide +kernel
theorem dX2_carryOut_145 : decode cX2_carryOut 145 = .ok (.return_, 1) := by decide +kernel
theorem dX2_drop_0 : decode cX2_drop 0 = .ok (.aload_n 0, 1) := by decide +kernel
theorem dX2_drop_1 : decode cX2_drop 1 = .ok (.getfield 15, 3) := by decide +kernel
theorem dX2_drop_4 : decode cX2_drop 4 = .ok (.iload_n 1, 1) := by decide +kernel
theorem dX2_drop_5 : decode cX2_drop 5 = .ok (.invokestatic 91, 3) := by decide +kernel
theorem dX2_drop_8 : decode cX2_drop 8 = .ok (.istore_n 3, 1) := by decide +kernel
theorem dX2_drop_9 : decode cX2_drop 9 = .ok (.aload_n 0, 1) := by decide +kernel
theorem dX2_drop_10 : decode cX2_drop 10 = .ok (.getfield 18, 3) := by decide +kernel
theorem dX2_drop_13 : decode cX2_drop 13 = .ok (.iload_n 1, 1) := by decide +kernel
theorem dX2_drop_14 : decode cX2_drop 14 = .ok (.iload_n 2, 1) := by decide +kernel
theorem dX2_drop_15 : decode cX2_drop 15 = .ok (.ineg, 1) := by decide +kernel
theorem dX2_drop_16 : decode cX2_drop 16 = .ok (.invokestatic 160, 3) := by decide +kernel
theorem dX2_drop_19 : decode cX2_drop 19 = .ok (.aload_n 0, 1) := by decide +kernel
theorem dX2_drop_20 : decode cX2_drop 20 = .ok (.getfield 9, 3) := by decide +kernel
theorem dX2_drop_23 : decode cX2_drop 23 = .ok (.iload_n 3, 1) := by decide +kernel
theorem dX2_drop_24 : decode cX2_drop 24 = .ok (.iload_n 2, 1) := by decide +kernel
theorem dX2_drop_25 : decode cX2_drop 25 = .ok (.invokestatic 160, 3) := by decide +kernel
theorem dX2_drop_28 : decode cX2_drop 28 = .ok (.aload_n 0, 1) := by decide +kernel
theorem dX2_drop_29 : decode cX2_drop 29 = .ok (.getfield 9, 3) := by decide +kernel
theorem dX2_drop_32 : decode cX2_drop 32 = .ok (.iload_n 3, 1) := by decide +kernel
theorem dX2_drop_33 : decode cX2_drop 33 = .ok (.invokestatic 91, 3) := by decide +kernel
theorem dX2_drop_36 : decode cX2_drop 36 = .ok (.ireturn, 1) := by decide +kernel
theorem dX2_pick_0 : decode cX2_pick 0 = .ok (.aload_n 0, 1) := by decide +kernel
theorem dX2_pick_1 : decode cX2_pick 1 = .ok (.getfield 9, 3) := by decide +kernel
theorem dX2_pick_4 : decode cX2_pick 4 = .ok (.aload_n 0, 1) := by decide +kernel
theorem dX2_pick_5 : decode cX2_pick 5 = .ok (.getfield 15, 3) := by decide +kernel
theorem dX2_pick_8 : decode cX2_pick 8 = .ok (.iload_n 1, 1) := by decide +kernel
theorem dX2_pick_9 : decode cX2_pick 9 = .ok (.invokestatic 91, 3) := by decide +kernel
theorem dX2_pick_12 : decode cX2_pick 12 = .ok (.iload_n 2, 1) := by decide +kernel
theorem dX2_pick_13 : decode cX2_pick 13 = .ok (.ineg, 1) := by decide +kernel
theorem dX2_pick_14 : decode cX2_pick 14 = .ok (.invokestatic 160, 3) := by decide +kernel
theorem dX2_pick_17 : decode cX2_pick 17 = .ok (.aload_n 0, 1) := by decide +kernel
theorem dX2_pick_18 : decode cX2_pick 18 = .ok (.getfield 18, 3) := by decide +kernel
theorem dX2_pick_21 : decode cX2_pick 21 = .ok (.iload_n 1, 1) := by decide +kernel
theorem dX2_pick_22 : decode cX2_pick 22 = .ok (.iload_n 2, 1) := by decide +kernel
theorem dX2_pick_23 : decode cX2_pick 23 = .ok (.invokestatic 160, 3) := by decide +kernel
theorem dX2_pick_26 : decode cX2_pick 26 = .ok (.aload_n 0, 1) := by decide +kernel
theorem dX2_pick_27 : decode cX2_pick 27 = .ok (.getfield 18, 3) := by decide +kernel
theorem dX2_pick_30 : decode cX2_pick 30 = .ok (.iload_n 1, 1) := by decide +kernel
theorem dX2_pick_31 : decode cX2_pick 31 = .ok (.invokestatic 91, 3) := by decide +kernel
theorem dX2_pick_34 : decode cX2_pick 34 = .ok (.ireturn, 1) := by decide +kernel
theorem dX2_lay_0 : decode cX2_lay 0 = .ok (.aload_n 0, 1) := by decide +kernel
theorem dX2_lay_1 : decode cX2_lay 1 = .ok (.getfield 30, 3) := by decide +kernel
theorem dX2_lay_4 : decode cX2_lay 4 = .ok (.iload_n 2, 1) := by decide +kernel
theorem dX2_lay_5 : decode cX2_lay 5 = .ok (.iconst (-1), 1) := by decide +kernel
theorem dX2_lay_6 : decode cX2_lay 6 = .ok (.invokestatic 66, 3) := by decide +kernel
theorem dX2_lay_9 : decode cX2_lay 9 = .ok (.aload_n 0, 1) := by decide +kernel
theorem dX2_lay_10 : decode cX2_lay 10 = .ok (.getfield 33, 3) := by decide +kernel
theorem dX2_lay_13 : decode cX2_lay 13 = .ok (.iload_n 2, 1) := by decide +kernel
theorem dX2_lay_14 : decode cX2_lay 14 = .ok (.aload_n 0, 1) := by decide +kernel
theorem dX2_lay_15 : decode cX2_lay 15 = .ok (.getfield 15, 3) := by decide +kernel
theorem dX2_lay_18 : decode cX2_lay 18 = .ok (.iload_n 1, 1) := by decide +kernel
theorem dX2_lay_19 : decode cX2_lay 19 = .ok (.invokestatic 91, 3) := by decide +kernel
theorem dX2_lay_22 : decode cX2_lay 22 = .ok (.invokestatic 66, 3) := by decide +kernel
theorem dX2_lay_25 : decode cX2_lay 25 = .ok (.aload_n 0, 1) := by decide +kernel
theorem dX2_lay_26 : decode cX2_lay 26 = .ok (.iload_n 1, 1) := by decide +kernel
theorem dX2_lay_27 : decode cX2_lay 27 = .ok (.invokevirtual 235, 3) := by decide +kernel
theorem dX2_lay_30 : decode cX2_lay 30 = .ok (.ireturn, 1) := by decide +kernel
theorem dX2_lift_0 : decode cX2_lift 0 = .ok (.aload_n 0, 1) := by decide +kernel
theorem dX2_lift_1 : decode cX2_lift 1 = .ok (.getfield 30, 3) := by decide +kernel
theorem dX2_lift_4 : decode cX2_lift 4 = .ok (.iload_n 2, 1) := by decide +kernel
theorem dX2_lift_5 : decode cX2_lift 5 = .ok (.iload_n 1, 1) := by decide +kernel
theorem dX2_lift_6 : decode cX2_lift 6 = .ok (.invokestatic 66, 3) := by decide +kernel
theorem dX2_lift_9 : decode cX2_lift 9 = .ok (.aload_n 0, 1) := by decide +kernel
theorem dX2_lift_10 : decode cX2_lift 10 = .ok (.iload_n 1, 1) := by decide +kernel
theorem dX2_lift_11 : decode cX2_lift 11 = .ok (.invokevirtual 235, 3) := by decide +kernel
theorem dX2_lift_14 : decode cX2_lift 14 = .ok (.ireturn, 1) := by decide +kernel
theorem dX2_swap_0 : decode cX2_swap 0 = .ok (.aload_n 0, 1) := by decide +kernel
theorem dX2_swap_1 : decode cX2_swap 1 = .ok (.getfield 24, 3) := by decide +kernel
theorem dX2_swap_4 : decode cX2_swap 4 = .ok (.iload_n 1, 1) := by decide +kernel
theorem dX2_swap_5 : decode cX2_swap 5 = .ok (.invokestatic 91, 3) := by decide +kernel
theorem dX2_swap_8 : decode cX2_swap 8 = .ok (.istore_n 3, 1) := by decide +kernel
theorem dX2_swap_9 : decode cX2_swap 9 = .ok (.aload_n 0, 1) := by decide +kernel
theorem dX2_swap_10 : decode cX2_swap 10 = .ok (.getfield 24, 3) := by decide +kernel
theorem dX2_swap_13 : decode cX2_swap 13 = .ok (.iload_n 1, 1) := by decide +kernel
theorem dX2_swap_14 : decode cX2_swap 14 = .ok (.aload_n 0, 1) := by decide +kernel
theorem dX2_swap_15 : decode cX2_swap 15 = .ok (.getfield 24, 3) := by decide +kernel
theorem dX2_swap_18 : decode cX2_swap 18 = .ok (.iload_n 2, 1) := by decide +kernel
theorem dX2_swap_19 : decode cX2_swap 19 = .ok (.invokestatic 91, 3) := by decide +kernel
theorem dX2_swap_22 : decode cX2_swap 22 = .ok (.invokestatic 66, 3) := by decide +kernel
theorem dX2_swap_25 : decode cX2_swap 25 = .ok (.aload_n 0, 1) := by decide +kernel
theorem dX2_swap_26 : decode cX2_swap 26 = .ok (.getfield 24, 3) := by decide +kernel
theorem dX2_swap_29 : decode cX2_swap 29 = .ok (.iload_n 2, 1) := by decide +kernel
theorem dX2_swap_30 : decode cX2_swap 30 = .ok (.iload_n 3, 1) := by decide +kernel
theorem dX2_swap_31 : decode cX2_swap 31 = .ok (.invokestatic 66, 3) := by decide +kernel
theorem dX2_swap_34 : decode cX2_swap 34 = .ok (.aload_n 0, 1) := by decide +kernel
theorem dX2_swap_35 : decode cX2_swap 35 = .ok (.getfield 24, 3) := by decide +kernel
theorem dX2_swap_38 : decode cX2_swap 38 = .ok (.iload_n 1, 1) := by decide +kernel
theorem dX2_swap_39 : decode cX2_swap 39 = .ok (.invokestatic 91, 3) := by decide +kernel
theorem dX2_swap_42 : decode cX2_swap 42 = .ok (.ireturn, 1) := by decide +kernel
theorem dX2_join_0 : decode cX2_join 0 = .ok (.aload_n 0, 1) := by decide +kernel
theorem dX2_join_1 : decode cX2_join 1 = .ok (.aload_n 0, 1) := by decide +kernel
theorem dX2_join_2 : decode cX2_join 2 = .ok (.getfield 15, 3) := by decide +kernel
theorem dX2_join_5 : decode cX2_join 5 = .ok (.iload_n 1, 1) := by decide +kernel
theorem dX2_join_6 : decode cX2_join 6 = .ok (.invokestatic 91, 3) := by decide +kernel
theorem dX2_join_9 : decode cX2_join 9 = .ok (.invokevirtual 122, 3) := by decide +kernel
theorem dX2_join_12 : decode cX2_join 12 = .ok (.iload_n 1, 1) := by decide +kernel
theorem dX2_join_13 : decode cX2_join 13 = .ok (.iload_n 2, 1) := by decide +kernel
theorem dX2_join_14 : decode cX2_join 14 = .ok (.invokevirtual 238, 3) := by decide +kernel
theorem dX2_join_17 : decode cX2_join 17 = .ok (.ireturn, 1) := by decide +kernel
theorem dX2_quit_0 : decode cX2_quit 0 = .ok (.aload_n 0, 1) := by decide +kernel
theorem dX2_quit_1 : decode cX2_quit 1 = .ok (.aload_n 0, 1) := by decide +kernel
theorem dX2_quit_2 : decode cX2_quit 2 = .ok (.getfield 15, 3) := by decide +kernel
theorem dX2_quit_5 : decode cX2_quit 5 = .ok (.iload_n 1, 1) := by decide +kernel
theorem dX2_quit_6 : decode cX2_quit 6 = .ok (.invokestatic 91, 3) := by decide +kernel
theorem dX2_quit_9 : decode cX2_quit 9 = .ok (.invokevirtual 122, 3) := by decide +kernel
theorem dX2_quit_12 : decode cX2_quit 12 = .ok (.astore_n 2, 1) := by decide +kernel
theorem dX2_quit_13 : decode cX2_quit 13 = .ok (.aload_n 2, 1) := by decide +kernel
theorem dX2_quit_14 : decode cX2_quit 14 = .ok (.iload_n 1, 1) := by decide +kernel
theorem dX2_quit_15 : decode cX2_quit 15 = .ok (.invokevirtual 126, 3) := by decide +kernel
theorem dX2_quit_18 : decode cX2_quit 18 = .ok (.istore_n 3, 1) := by decide +kernel
theorem dX2_quit_19 : decode cX2_quit 19 = .ok (.aload_n 2, 1) := by decide +kernel
theorem dX2_quit_20 : decode cX2_quit 20 = .ok (.iload_n 3, 1) := by decide +kernel
theorem dX2_quit_21 : decode cX2_quit 21 = .ok (.invokevirtual 129, 3) := by decide +kernel
theorem dX2_quit_24 : decode cX2_quit 24 = .ok (.istore 4, 2) := by decide +kernel
theorem dX2_quit_26 : decode cX2_quit 26 = .ok (.aload_n 2, 1) := by decide +kernel
theorem dX2_quit_27 : decode cX2_quit 27 = .ok (.iload_n 3, 1) := by decide +kernel
theorem dX2_quit_28 : decode cX2_quit 28 = .ok (.invokevirtual 156, 3) := by decide +kernel
theorem dX2_quit_31 : decode cX2_quit 31 = .ok (.iload 4, 2) := by decide +kernel
theorem dX2_quit_33 : decode cX2_quit 33 = .ok (.ireturn, 1) := by decide +kernel
theorem dX2_changePride_0 : decode cX2_changePride 0 = .ok (.aload_n 0, 1) := by decide +kernel
theorem dX2_changePride_1 : decode cX2_changePride 1 = .ok (.getfield 21, 3) := by decide +kernel
theorem dX2_changePride_4 : decode cX2_changePride 4 = .ok (.iload_n 1, 1) := by decide +kernel
theorem dX2_changePride_5 : decode cX2_changePride 5 = .ok (.invokestatic 91, 3) := by decide +kernel
theorem dX2_changePride_8 : decode cX2_changePride 8 = .ok (.istore_n 3, 1) := by decide +kernel
theorem dX2_changePride_9 : decode cX2_changePride 9 = .ok (.aload_n 0, 1) := by decide +kernel
theorem dX2_changePride_10 : decode cX2_changePride 10 = .ok (.getfield 21, 3) := by decide +kernel
theorem dX2_changePride_13 : decode cX2_changePride 13 = .ok (.iload_n 1, 1) := by decide +kernel
theorem dX2_changePride_14 : decode cX2_changePride 14 = .ok (.iload_n 2, 1) := by decide +kernel
theorem dX2_changePride_15 : decode cX2_changePride 15 = .ok (.invokestatic 66, 3) := by decide +kernel
theorem dX2_changePride_18 : decode cX2_changePride 18 = .ok (.iload_n 3, 1) := by decide +kernel
theorem dX2_changePride_19 : decode cX2_changePride 19 = .ok (.ireturn, 1) := by decide +kernel
theorem dX3_init_0 : decode cX3_init 0 = .ok (.aload_n 0, 1) := by decide +kernel
theorem dX3_init_1 : decode cX3_init 1 = .ok (.invokespecial 3, 3) := by decide +kernel
theorem dX3_init_4 : decode cX3_init 4 = .ok (.aload_n 0, 1) := by decide +kernel
theorem dX3_init_5 : decode cX3_init 5 = .ok (.bipush 10, 2) := by decide +kernel
theorem dX3_init_7 : decode cX3_init 7 = .ok (.newarray .int, 2) := by decide +kernel
theorem dX3_init_9 : decode cX3_init 9 = .ok (.putfield 9, 3) := by decide +kernel
theorem dX3_init_12 : decode cX3_init 12 = .ok (.aload_n 0, 1) := by decide +kernel
theorem dX3_init_13 : decode cX3_init 13 = .ok (.bipush 10, 2) := by decide +kernel
theorem dX3_init_15 : decode cX3_init 15 = .ok (.newarray .int, 2) := by decide +kernel
theorem dX3_init_17 : decode cX3_init 17 = .ok (.putfield 15, 3) := by decide +kernel
theorem dX3_init_20 : decode cX3_init 20 = .ok (.return_, 1) := by decide +kernel
theorem dX3_copyFrom_0 : decode cX3_copyFrom 0 = .ok (.aload_n 0, 1) := by decide +kernel
theorem dX3_copyFrom_1 : decode cX3_copyFrom 1 = .ok (.aload_n 1, 1) := by decide +kernel
theorem dX3_copyFrom_2 : decode cX3_copyFrom 2 = .ok (.getfield 18, 3) := by decide +kernel
theorem dX3_copyFrom_5 : decode cX3_copyFrom 5 = .ok (.putfield 18, 3) := by decide +kernel
theorem dX3_copyFrom_8 : decode cX3_copyFrom 8 = .ok (.aload_n 1, 1) := by decide +kernel
theorem dX3_copyFrom_9 : decode cX3_copyFrom 9 = .ok (.getfield 9, 3) := by decide +kernel
theorem dX3_copyFrom_12 : decode cX3_copyFrom 12 = .ok (.aload_n 0, 1) := by decide +kernel
theorem dX3_copyFrom_13 : decode cX3_copyFrom 13 = .ok (.getfield 9, 3) := by decide +kernel
theorem dX3_copyFrom_16 : decode cX3_copyFrom 16 = .ok (.invokestatic 22, 3) := by decide +kernel
theorem dX3_copyFrom_19 : decode cX3_copyFrom 19 = .ok (.aload_n 1, 1) := by decide +kernel
theorem dX3_copyFrom_20 : decode cX3_copyFrom 20 = .ok (.getfield 15, 3) := by decide +kernel
theorem dX3_copyFrom_23 : decode cX3_copyFrom 23 = .ok (.aload_n 0, 1) := by decide +kernel
theorem dX3_copyFrom_24 : decode cX3_copyFrom 24 = .ok (.getfield 15, 3) := by decide +kernel
theorem dX3_copyFrom_27 : decode cX3_copyFrom 27 = .ok (.invokestatic 22, 3) := by decide +kernel
theorem dX3_copyFrom_30 : decode cX3_copyFrom 30 = .ok (.return_, 1) := by decide +kernel
theorem dX3_personAt_0 : decode cX3_personAt 0 = .ok (.iload_n 1, 1) := by decide +kernel
theorem dX3_personAt_1 : decode cX3_personAt 1 = .ok (.ifCond .lt 22, 3) := by decide +kernel
theorem dX3_personAt_4 : decode cX3_personAt 4 = .ok (.iload_n 1, 1) := by decide +kernel
theorem dX3_personAt_5 : decode cX3_personAt 5 = .ok (.aload_n 0, 1) := by decide +kernel
theorem dX3_personAt_6 : decode cX3_personAt 6 = .ok (.getfield 18, 3) := by decide +kernel
theorem dX3_personAt_9 : decode cX3_personAt 9 = .ok (.if_icmp .ge 14, 3) := by decide +kernel
theorem dX3_personAt_12 : decode cX3_personAt 12 = .ok (.aload_n 0, 1) := by decide +kernel
theorem dX3_personAt_13 : decode cX3_personAt 13 = .ok (.getfield 9, 3) := by decide +kernel
theorem dX3_personAt_16 : decode cX3_personAt 16 = .ok (.iload_n 1, 1) := by decide +kernel
theorem dX3_personAt_17 : decode cX3_personAt 17 = .ok (.invokestatic 26, 3) := by decide +kernel
theorem dX3_personAt_20 : decode cX3_personAt 20 = .ok (.goto 4, 3) := by decide +kernel
theorem dX3_personAt_23 : decode cX3_personAt 23 = .ok (.iconst (-1), 1) := by decide +kernel
theorem dX3_personAt_24 : decode cX3_personAt 24 = .ok (.ireturn, 1) := by decide +kernel
theorem dX3_offerAt_0 : decode cX3_offerAt 0 = .ok (.iload_n 1, 1) := by decide +kernel
theorem dX3_offerAt_1 : decode cX3_offerAt 1 = .ok (.ifCond .lt 22, 3) := by decide +kernel
theorem dX3_offerAt_4 : decode cX3_offerAt 4 = .ok (.iload_n 1, 1) := by decide +kernel
theorem dX3_offerAt_5 : decode cX3_offerAt 5 = .ok (.aload_n 0, 1) := by decide +kernel
theorem dX3_offerAt_6 : decode cX3_offerAt 6 = .ok (.getfield 18, 3) := by decide +kernel
theorem dX3_offerAt_9 : decode cX3_offerAt 9 = .ok (.if_icmp .ge 14, 3) := by decide +kernel
theorem dX3_offerAt_12 : decode cX3_offerAt 12 = .ok (.aload_n 0, 1) := by decide +kernel
theorem dX3_offerAt_13 : decode cX3_offerAt 13 = .ok (.getfield 15, 3) := by decide +kernel
theorem dX3_offerAt_16 : decode cX3_offerAt 16 = .ok (.iload_n 1, 1) := by decide +kernel
theorem dX3_offerAt_17 : decode cX3_offerAt 17 = .ok (.invokestatic 26, 3) := by decide +kernel
theorem dX3_offerAt_20 : decode cX3_offerAt 20 = .ok (.goto 4, 3) := by decide +kernel
theorem dX3_offerAt_23 : decode cX3_offerAt 23 = .ok (.iconst (-1), 1) := by decide +kernel
theorem dX3_offerAt_24 : decode cX3_offerAt 24 = .ok (.ireturn, 1) := by decide +kernel
theorem dX3_placeOf_0 : decode cX3_placeOf 0 = .ok (.iconst 0, 1) := by decide +kernel
theorem dX3_placeOf_1 : decode cX3_placeOf 1 = .ok (.istore_n 2, 1) := by decide +kernel
theorem dX3_placeOf_2 : decode cX3_placeOf 2 = .ok (.iload_n 2, 1) := by decide +kernel
theorem dX3_placeOf_3 : decode cX3_placeOf 3 = .ok (.aload_n 0, 1) := by decide +kernel
theorem dX3_placeOf_4 : decode cX3_placeOf 4 = .ok (.getfield 18, 3) := by decide +kernel
theorem dX3_placeOf_7 : decode cX3_placeOf 7 = .ok (.if_icmp .ge 23, 3) := by decide +kernel
theorem dX3_placeOf_10 : decode cX3_placeOf 10 = .ok (.aload_n 0, 1) := by decide +kernel
theorem dX3_placeOf_11 : decode cX3_placeOf 11 = .ok (.getfield 9, 3) := by decide +kernel
theorem dX3_placeOf_14 : decode cX3_placeOf 14 = .ok (.iload_n 2, 1) := by decide +kernel
theorem dX3_placeOf_15 : decode cX3_placeOf 15 = .ok (.invokestatic 26, 3) := by decide +kernel
theorem dX3_placeOf_18 : decode cX3_placeOf 18 = .ok (.iload_n 1, 1) := by decide +kernel
theorem dX3_placeOf_19 : decode cX3_placeOf 19 = .ok (.if_icmp .ne 5, 3) := by decide +kernel
theorem dX3_placeOf_22 : decode cX3_placeOf 22 = .ok (.iload_n 2, 1) := by decide +kernel
theorem dX3_placeOf_23 : decode cX3_placeOf 23 = .ok (.ireturn, 1) := by decide +kernel
theorem dX3_placeOf_24 : decode cX3_placeOf 24 = .ok (.iinc 2 1, 3) := by decide +kernel
theorem dX3_placeOf_27 : decode cX3_placeOf 27 = .ok (.goto (-25), 3) := by decide +kernel
theorem dX3_placeOf_30 : decode cX3_placeOf 30 = .ok (.iconst (-1), 1) := by decide +kernel
theorem dX3_placeOf_31 : decode cX3_placeOf 31 = .ok (.ireturn, 1) := by decide +kernel
theorem dX3_insert_0 : decode cX3_insert 0 = .ok (.aload_n 0, 1) := by decide +kernel
theorem dX3_insert_1 : decode cX3_insert 1 = .ok (.getfield 18, 3) := by decide +kernel
theorem dX3_insert_4 : decode cX3_insert 4 = .ok (.istore_n 3, 1) := by decide +kernel
theorem dX3_insert_5 : decode cX3_insert 5 = .ok (.iload_n 3, 1) := by decide +kernel
theorem dX3_insert_6 : decode cX3_insert 6 = .ok (.ifCond .le 59, 3) := by decide +kernel
theorem dX3_insert_9 : decode cX3_insert 9 = .ok (.aload_n 0, 1) := by decide +kernel
theorem dX3_insert_10 : decode cX3_insert 10 = .ok (.getfield 15, 3) := by decide +kernel
theorem dX3_insert_13 : decode cX3_insert 13 = .ok (.iload_n 3, 1) := by decide +kernel
theorem dX3_insert_14 : decode cX3_insert 14 = .ok (.iconst 1, 1) := by decide +kernel
theorem dX3_insert_15 : decode cX3_insert 15 = .ok (.isub, 1) := by decide +kernel
theorem dX3_insert_16 : decode cX3_insert 16 = .ok (.invokestatic 26, 3) := by decide +kernel
theorem dX3_insert_19 : decode cX3_insert 19 = .ok (.iload_n 2, 1) := by decide +kernel
theorem dX3_insert_20 : decode cX3_insert 20 = .ok (.if_icmp .ge 45, 3) := by decide +kernel
theorem dX3_insert_23 : decode cX3_insert 23 = .ok (.aload_n 0, 1) := by decide +kernel
theorem dX3_insert_24 : decode cX3_insert 24 = .ok (.getfield 9, 3) := by decide +kernel
theorem dX3_insert_27 : decode cX3_insert 27 = .ok (.iload_n 3, 1) := by decide +kernel
theorem dX3_insert_28 : decode cX3_insert 28 = .ok (.aload_n 0, 1) := by decide +kernel
theorem dX3_insert_29 : decode cX3_insert 29 = .ok (.getfield 9, 3) := by decide +kernel
theorem dX3_insert_32 : decode cX3_insert 32 = .ok (.iload_n 3, 1) := by decide +kernel
theorem dX3_insert_33 : decode cX3_insert 33 = .ok (.iconst 1, 1) := by decide +kernel
theorem dX3_insert_34 : decode cX3_insert 34 = .ok (.isub, 1) := by decide +kernel
theorem dX3_insert_35 : decode cX3_insert 35 = .ok (.invokestatic 26, 3) := by decide +kernel
theorem dX3_insert_38 : decode cX3_insert 38 = .ok (.invokestatic 30, 3) := by decide +kernel
theorem dX3_insert_41 : decode cX3_insert 41 = .ok (.aload_n 0, 1) := by decide +kernel
theorem dX3_insert_42 : decode cX3_insert 42 = .ok (.getfield 15, 3) := by decide +kernel
theorem dX3_insert_45 : decode cX3_insert 45 = .ok (.iload_n 3, 1) := by decide +kernel
theorem dX3_insert_46 : decode cX3_insert 46 = .ok (.aload_n 0, 1) := by decide +kernel
theorem dX3_insert_47 : decode cX3_insert 47 = .ok (.getfield 15, 3) := by decide +kernel
theorem dX3_insert_50 : decode cX3_insert 50 = .ok (.iload_n 3, 1) := by decide +kernel
theorem dX3_insert_51 : decode cX3_insert 51 = .ok (.iconst 1, 1) := by decide +kernel
theorem dX3_insert_52 : decode cX3_insert 52 = .ok (.isub, 1) := by decide +kernel
theorem dX3_insert_53 : decode cX3_insert 53 = .ok (.invokestatic 26, 3) := by decide +kernel
theorem dX3_insert_56 : decode cX3_insert 56 = .ok (.invokestatic 30, 3) := by decide +kernel
theorem dX3_insert_59 : decode cX3_insert 59 = .ok (.iinc 3 (-1), 3) := by decide +kernel
theorem dX3_insert_62 : decode cX3_insert 62 = .ok (.goto (-57), 3) := by decide +kernel
theorem dX3_insert_65 : decode cX3_insert 65 = .ok (.aload_n 0, 1) := by decide +kernel
theorem dX3_insert_66 : decode cX3_insert 66 = .ok (.getfield 9, 3) := by decide +kernel
theorem dX3_insert_69 : decode cX3_insert 69 = .ok (.iload_n 3, 1) := by decide +kernel
theorem dX3_insert_70 : decode cX3_insert 70 = .ok (.iload_n 1, 1) := by decide +kernel
theorem dX3_insert_71 : decode cX3_insert 71 = .ok (.invokestatic 30, 3) := by decide +kernel
theorem dX3_insert_74 : decode cX3_insert 74 = .ok (.aload_n 0, 1) := by decide +kernel
theorem dX3_insert_75 : decode cX3_insert 75 = .ok (.getfield 15, 3) := by decide +kernel
theorem dX3_insert_78 : decode cX3_insert 78 = .ok (.iload_n 3, 1) := by decide +kernel
theorem dX3_insert_79 : decode cX3_insert 79 = .ok (.iload_n 2, 1) := by decide +kernel
theorem dX3_insert_80 : decode cX3_insert 80 = .ok (.invokestatic 30, 3) := by decide +kernel
theorem dX3_insert_83 : decode cX3_insert 83 = .ok (.aload_n 0, 1) := by decide +kernel
theorem dX3_insert_84 : decode cX3_insert 84 = .ok (.dup, 1) := by decide +kernel
theorem dX3_insert_85 : decode cX3_insert 85 = .ok (.getfield 18, 3) := by decide +kernel
theorem dX3_insert_88 : decode cX3_insert 88 = .ok (.iconst 1, 1) := by decide +kernel
theorem dX3_insert_89 : decode cX3_insert 89 = .ok (.iadd, 1) := by decide +kernel
theorem dX3_insert_90 : decode cX3_insert 90 = .ok (.putfield 18, 3) := by decide +kernel
theorem dX3_insert_93 : decode cX3_insert 93 = .ok (.iload_n 3, 1) := by decide +kernel
theorem dX3_insert_94 : decode cX3_insert 94 = .ok (.ireturn, 1) := by decide +kernel
theorem dX3_removeAt_0 : decode cX3_removeAt 0 = .ok (.iload_n 1, 1) := by decide +kernel
theorem dX3_removeAt_1 : decode cX3_removeAt 1 = .ok (.ifCond .lt 11, 3) := by decide +kernel
theorem dX3_removeAt_4 : decode cX3_removeAt 4 = .ok (.iload_n 1, 1) := by decide +kernel
theorem dX3_removeAt_5 : decode cX3_removeAt 5 = .ok (.aload_n 0, 1) := by decide +kernel
theorem dX3_removeAt_6 : decode cX3_removeAt 6 = .ok (.getfield 18, 3) := by decide +kernel
theorem dX3_removeAt_9 : decode cX3_removeAt 9 = .ok (.if_icmp .lt 4, 3) := by decide +kernel
theorem dX3_removeAt_12 : decode cX3_removeAt 12 = .ok (.return_, 1) := by decide +kernel
theorem dX3_removeAt_13 : decode cX3_removeAt 13 = .ok (.aload_n 0, 1) := by decide +kernel
theorem dX3_removeAt_14 : decode cX3_removeAt 14 = .ok (.dup, 1) := by decide +kernel
theorem dX3_removeAt_15 : decode cX3_removeAt 15 = .ok (.getfield 18, 3) := by decide +kernel
theorem dX3_removeAt_18 : decode cX3_removeAt 18 = .ok (.iconst 1, 1) := by decide +kernel
theorem dX3_removeAt_19 : decode cX3_removeAt 19 = .ok (.isub, 1) := by decide +kernel
theorem dX3_removeAt_20 : decode cX3_removeAt 20 = .ok (.putfield 18, 3) := by decide +kernel
theorem dX3_removeAt_23 : decode cX3_removeAt 23 = .ok (.iload_n 1, 1) := by decide +kernel
theorem dX3_removeAt_24 : decode cX3_removeAt 24 = .ok (.istore_n 2, 1) := by decide +kernel
theorem dX3_removeAt_25 : decode cX3_removeAt 25 = .ok (.iload_n 2, 1) := by decide +kernel
theorem dX3_removeAt_26 : decode cX3_removeAt 26 = .ok (.aload_n 0, 1) := by decide +kernel
theorem dX3_removeAt_27 : decode cX3_removeAt 27 = .ok (.getfield 18, 3) := by decide +kernel
theorem dX3_removeAt_30 : decode cX3_removeAt 30 = .ok (.if_icmp .ge 45, 3) := by decide +kernel
theorem dX3_removeAt_33 : decode cX3_removeAt 33 = .ok (.aload_n 0, 1) := by decide +kernel
theorem dX3_removeAt_34 : decode cX3_removeAt 34 = .ok (.getfield 9, 3) := by decide +kernel
theorem dX3_removeAt_37 : decode cX3_removeAt 37 = .ok (.iload_n 2, 1) := by decide +kernel
theorem dX3_removeAt_38 : decode cX3_removeAt 38 = .ok (.aload_n 0, 1) := by decide +kernel
theorem dX3_removeAt_39 : decode cX3_removeAt 39 = .ok (.getfield 9, 3) := by decide +kernel
theorem dX3_removeAt_42 : decode cX3_removeAt 42 = .ok (.iload_n 2, 1) := by decide +kernel
theorem dX3_removeAt_43 : decode cX3_removeAt 43 = .ok (.iconst 1, 1) := by decide +kernel
theorem dX3_removeAt_44 : decode cX3_removeAt 44 = .ok (.iadd, 1) := by decide +kernel
theorem dX3_removeAt_45 : decode cX3_removeAt 45 = .ok (.invokestatic 26, 3) := by decide +kernel
theorem dX3_removeAt_48 : decode cX3_removeAt 48 = .ok (.invokestatic 30, 3) := by decide +kernel
theorem dX3_removeAt_51 : decode cX3_removeAt 51 = .ok (.aload_n 0, 1) := by decide +kernel
theorem dX3_removeAt_52 : decode cX3_removeAt 52 = .ok (.getfield 15, 3) := by decide +kernel
theorem dX3_removeAt_55 : decode cX3_removeAt 55 = .ok (.iload_n 2, 1) := by decide +kernel
theorem dX3_removeAt_56 : decode cX3_removeAt 56 = .ok (.aload_n 0, 1) := by decide +kernel
theorem dX3_removeAt_57 : decode cX3_removeAt 57 = .ok (.getfield 15, 3) := by decide +kernel
theorem dX3_removeAt_60 : decode cX3_removeAt 60 = .ok (.iload_n 2, 1) := by decide +kernel
theorem dX3_removeAt_61 : decode cX3_removeAt 61 = .ok (.iconst 1, 1) := by decide +kernel
theorem dX3_removeAt_62 : decode cX3_removeAt 62 = .ok (.iadd, 1) := by decide +kernel
theorem dX3_removeAt_63 : decode cX3_removeAt 63 = .ok (.invokestatic 26, 3) := by decide +kernel
theorem dX3_removeAt_66 : decode cX3_removeAt 66 = .ok (.invokestatic 30, 3) := by decide +kernel
theorem dX3_removeAt_69 : decode cX3_removeAt 69 = .ok (.iinc 2 1, 3) := by decide +kernel
theorem dX3_removeAt_72 : decode cX3_removeAt 72 = .ok (.goto (-47), 3) := by decide +kernel
theorem dX3_removeAt_75 : decode cX3_removeAt 75 = .ok (.return_, 1) := by decide +kernel
theorem dX3_offerToLead_0 : decode cX3_offerToLead 0 = .ok (.aload_n 0, 1) := by decide +kernel
theorem dX3_offerToLead_1 : decode cX3_offerToLead 1 = .ok (.iconst 0, 1) := by decide +kernel
theorem dX3_offerToLead_2 : decode cX3_offerToLead 2 = .ok (.invokevirtual 34, 3) := by decide +kernel
theorem dX3_offerToLead_5 : decode cX3_offerToLead 5 = .ok (.iload_n 1, 1) := by decide +kernel
theorem dX3_offerToLead_6 : decode cX3_offerToLead 6 = .ok (.if_icmp .ne 7, 3) := by decide +kernel
theorem dX3_offerToLead_9 : decode cX3_offerToLead 9 = .ok (.iconst 1, 1) := by decide +kernel
theorem dX3_offerToLead_10 : decode cX3_offerToLead 10 = .ok (.goto 4, 3) := by decide +kernel
theorem dX3_offerToLead_13 : decode cX3_offerToLead 13 = .ok (.iconst 0, 1) := by decide +kernel
theorem dX3_offerToLead_14 : decode cX3_offerToLead 14 = .ok (.istore_n 2, 1) := by decide +kernel
theorem dX3_offerToLead_15 : decode cX3_offerToLead 15 = .ok (.aload_n 0, 1) := by decide +kernel
theorem dX3_offerToLead_16 : decode cX3_offerToLead 16 = .ok (.iload_n 2, 1) := by decide +kernel
theorem dX3_offerToLead_17 : decode cX3_offerToLead 17 = .ok (.invokevirtual 38, 3) := by decide +kernel
theorem dX3_offerToLead_20 : decode cX3_offerToLead 20 = .ok (.iconst 1, 1) := by decide +kernel
theorem dX3_offerToLead_21 : decode cX3_offerToLead 21 = .ok (.iadd, 1) := by decide +kernel
theorem dX3_offerToLead_22 : decode cX3_offerToLead 22 = .ok (.istore_n 3, 1) := by decide +kernel
theorem dX3_offerToLead_23 : decode cX3_offerToLead 23 = .ok (.iload_n 3, 1) := by decide +kernel
theorem dX3_offerToLead_24 : decode cX3_offerToLead 24 = .ok (.bipush 99, 2) := by decide +kernel
theorem dX3_offerToLead_26 : decode cX3_offerToLead 26 = .ok (.if_icmp .le 7, 3) := by decide +kernel
theorem dX3_offerToLead_29 : decode cX3_offerToLead 29 = .ok (.iconst (-1), 1) := by decide +kernel
theorem dX3_offerToLead_30 : decode cX3_offerToLead 30 = .ok (.goto 4, 3) := by decide +kernel
theorem dX3_offerToLead_33 : decode cX3_offerToLead 33 = .ok (.iload_n 3, 1) := by decide +kernel
theorem dX3_offerToLead_34 : decode cX3_offerToLead 34 = .ok (.ireturn, 1) := by decide +kernel
theorem dX4_init_0 : decode cX4_init 0 = .ok (.aload_n 0, 1) := by decide +kernel
theorem dX4_init_1 : decode cX4_init 1 = .ok (.invokespecial 3, 3) := by decide +kernel
theorem dX4_init_4 : decode cX4_init 4 = .ok (.aload_n 0, 1) := by decide +kernel
theorem dX4_init_5 : decode cX4_init 5 = .ok (.bipush 20, 2) := by decide +kernel
theorem dX4_init_7 : decode cX4_init 7 = .ok (.anewarray 9, 3) := by decide +kernel
theorem dX4_init_10 : decode cX4_init 10 = .ok (.putfield 11, 3) := by decide +kernel
theorem dX4_init_13 : decode cX4_init 13 = .ok (.aload_n 0, 1) := by decide +kernel
theorem dX4_init_14 : decode cX4_init 14 = .ok (.bipush 20, 2) := by decide +kernel
theorem dX4_init_16 : decode cX4_init 16 = .ok (.newarray .int, 2) := by decide +kernel
theorem dX4_init_18 : decode cX4_init 18 = .ok (.putfield 17, 3) := by decide +kernel
theorem dX4_init_21 : decode cX4_init 21 = .ok (.aload_n 0, 1) := by decide +kernel
theorem dX4_init_22 : decode cX4_init 22 = .ok (.bipush 20, 2) := by decide +kernel
theorem dX4_init_24 : decode cX4_init 24 = .ok (.newarray .int, 2) := by decide +kernel
theorem dX4_init_26 : decode cX4_init 26 = .ok (.putfield 21, 3) := by decide +kernel
theorem dX4_init_29 : decode cX4_init 29 = .ok (.return_, 1) := by decide +kernel
theorem dX4_read_0 : decode cX4_read 0 = .ok (.aload_n 0, 1) := by decide +kernel
theorem dX4_read_1 : decode cX4_read 1 = .ok (.iconst 0, 1) := by decide +kernel
theorem dX4_read_2 : decode cX4_read 2 = .ok (.putfield 24, 3) := by decide +kernel
theorem dX4_read_5 : decode cX4_read 5 = .ok (.iconst 0, 1) := by decide +kernel
theorem dX4_read_6 : decode cX4_read 6 = .ok (.istore_n 2, 1) := by decide +kernel
theorem dX4_read_7 : decode cX4_read 7 = .ok (.iload_n 2, 1) := by decide +kernel
theorem dX4_read_8 : decode cX4_read 8 = .ok (.bipush 20, 2) := by decide +kernel
theorem dX4_read_10 : decode cX4_read 10 = .ok (.if_icmp .gt 28, 3) := by decide +kernel
theorem dX4_read_13 : decode cX4_read 13 = .ok (.aload_n 1, 1) := by decide +kernel
theorem dX4_read_14 : decode cX4_read 14 = .ok (.invokevirtual 28, 3) := by decide +kernel
theorem dX4_read_17 : decode cX4_read 17 = .ok (.ifCond .ne 21, 3) := by decide +kernel
theorem dX4_read_20 : decode cX4_read 20 = .ok (.aload_n 1, 1) := by decide +kernel
theorem dX4_read_21 : decode cX4_read 21 = .ok (.invokevirtual 34, 3) := by decide +kernel
theorem dX4_read_24 : decode cX4_read 24 = .ok (.ifCond .ne 14, 3) := by decide +kernel
theorem dX4_read_27 : decode cX4_read 27 = .ok (.aload_n 0, 1) := by decide +kernel
theorem dX4_read_28 : decode cX4_read 28 = .ok (.aload_n 1, 1) := by decide +kernel
theorem dX4_read_29 : decode cX4_read 29 = .ok (.invokevirtual 37, 3) := by decide +kernel
theorem dX4_read_32 : decode cX4_read 32 = .ok (.iinc 2 1, 3) := by decide +kernel
theorem dX4_read_35 : decode cX4_read 35 = .ok (.goto (-28), 3) := by decide +kernel
theorem dX4_read_38 : decode cX4_read 38 = .ok (.return_, 1) := by decide +kernel
theorem dX4_readCommand_0 : decode cX4_readCommand 0 = .ok (.aload_n 1, 1) := by decide +kernel
theorem dX4_readCommand_1 : decode cX4_readCommand 1 = .ok (.invokestatic 41, 3) := by decide +kernel
theorem dX4_readCommand_4 : decode cX4_readCommand 4 = .ok (.astore_n 2, 1) := by decide +kernel
theorem dX4_readCommand_5 : decode cX4_readCommand 5 = .ok (.aload_n 2, 1) := by decide +kernel
theorem dX4_readCommand_6 : decode cX4_readCommand 6 = .ok (.ifnonnull 11, 3) := by decide +kernel
theorem dX4_readCommand_9 : decode cX4_readCommand 9 = .ok (.aload_n 1, 1) := by decide +kernel
theorem dX4_readCommand_10 : decode cX4_readCommand 10 = .ok (.iconst 1, 1) := by decide +kernel
theorem dX4_readCommand_11 : decode cX4_readCommand 11 = .ok (.invokevirtual 45, 3) := by decide +kernel
theorem dX4_readCommand_14 : decode cX4_readCommand 14 = .ok (.goto 120, 3) := by decide +kernel
theorem dX4_readCommand_17 : decode cX4_readCommand 17 = .ok (.aload_n 0, 1) := by decide +kernel
theorem dX4_readCommand_18 : decode cX4_readCommand 18 = .ok (.getfield 24, 3) := by decide +kernel
theorem dX4_readCommand_21 : decode cX4_readCommand 21 = .ok (.ifCond .lt 15, 3) := by decide +kernel
theorem dX4_readCommand_24 : decode cX4_readCommand 24 = .ok (.aload_n 0, 1) := by decide +kernel
theorem dX4_readCommand_25 : decode cX4_readCommand 25 = .ok (.getfield 24, 3) := by decide +kernel
theorem dX4_readCommand_28 : decode cX4_readCommand 28 = .ok (.aload_n 0, 1) := by decide +kernel
theorem dX4_readCommand_29 : decode cX4_readCommand 29 = .ok (.getfield 11, 3) := by decide +kernel
theorem dX4_readCommand_32 : decode cX4_readCommand 32 = .ok (.arraylength, 1) := by decide +kernel
theorem dX4_readCommand_33 : decode cX4_readCommand 33 = .ok (.if_icmp .lt 11, 3) := by decide +kernel
theorem dX4_readCommand_36 : decode cX4_readCommand 36 = .ok (.aload_n 1, 1) := by decide +kernel
theorem dX4_readCommand_37 : decode cX4_readCommand 37 = .ok (.iconst 3, 1) := by decide +kernel
theorem dX4_readCommand_38 : decode cX4_readCommand 38 = .ok (.invokevirtual 45, 3) := by decide +kernel
theorem dX4_readCommand_41 : decode cX4_readCommand 41 = .ok (.goto 93, 3) := by decide +kernel
theorem dX4_readCommand_44 : decode cX4_readCommand 44 = .ok (.aload_n 1, 1) := by decide +kernel
theorem dX4_readCommand_45 : decode cX4_readCommand 45 = .ok (.invokevirtual 49, 3) := by decide +kernel
theorem dX4_readCommand_48 : decode cX4_readCommand 48 = .ok (.aload_n 0, 1) := by decide +kernel
theorem dX4_readCommand_49 : decode cX4_readCommand 49 = .ok (.getfield 11, 3) := by decide +kernel
theorem dX4_readCommand_52 : decode cX4_readCommand 52 = .ok (.aload_n 0, 1) := by decide +kernel
theorem dX4_readCommand_53 : decode cX4_readCommand 53 = .ok (.getfield 24, 3) := by decide +kernel
theorem dX4_readCommand_56 : decode cX4_readCommand 56 = .ok (.aload_n 2, 1) := by decide +kernel
theorem dX4_readCommand_57 : decode cX4_readCommand 57 = .ok (.aastore, 1) := by decide +kernel
theorem dX4_readCommand_58 : decode cX4_readCommand 58 = .ok (.aload_n 0, 1) := by decide +kernel
theorem dX4_readCommand_59 : decode cX4_readCommand 59 = .ok (.getfield 17, 3) := by decide +kernel
theorem dX4_readCommand_62 : decode cX4_readCommand 62 = .ok (.aload_n 0, 1) := by decide +kernel
theorem dX4_readCommand_63 : decode cX4_readCommand 63 = .ok (.getfield 24, 3) := by decide +kernel
theorem dX4_readCommand_66 : decode cX4_readCommand 66 = .ok (.aload_n 1, 1) := by decide +kernel
theorem dX4_readCommand_67 : decode cX4_readCommand 67 = .ok (.aload_n 2, 1) := by decide +kernel
theorem dX4_readCommand_68 : decode cX4_readCommand 68 = .ok (.iconst 0, 1) := by decide +kernel
theorem dX4_readCommand_69 : decode cX4_readCommand 69 = .ok (.invokevirtual 52, 3) := by decide +kernel
theorem dX4_readCommand_72 : decode cX4_readCommand 72 = .ok (.aload_n 2, 1) := by decide +kernel
theorem dX4_readCommand_73 : decode cX4_readCommand 73 = .ok (.iconst 0, 1) := by decide +kernel
theorem dX4_readCommand_74 : decode cX4_readCommand 74 = .ok (.invokevirtual 56, 3) := by decide +kernel
theorem dX4_readCommand_77 : decode cX4_readCommand 77 = .ok (.invokevirtual 59, 3) := by decide +kernel
theorem dX4_readCommand_80 : decode cX4_readCommand 80 = .ok (.invokestatic 63, 3) := by decide +kernel
theorem dX4_readCommand_83 : decode cX4_readCommand 83 = .ok (.aload_n 0, 1) := by decide +kernel
theorem dX4_readCommand_84 : decode cX4_readCommand 84 = .ok (.getfield 21, 3) := by decide +kernel
theorem dX4_readCommand_87 : decode cX4_readCommand 87 = .ok (.aload_n 0, 1) := by decide +kernel
theorem dX4_readCommand_88 : decode cX4_readCommand 88 = .ok (.getfield 24, 3) := by decide +kernel
theorem dX4_readCommand_91 : decode cX4_readCommand 91 = .ok (.aload_n 2, 1) := by decide +kernel
theorem dX4_readCommand_92 : decode cX4_readCommand 92 = .ok (.getfield 67, 3) := by decide +kernel
theorem dX4_readCommand_95 : decode cX4_readCommand 95 = .ok (.iconst 1, 1) := by decide +kernel
theorem dX4_readCommand_96 : decode cX4_readCommand 96 = .ok (.if_icmp .le 20, 3) := by decide +kernel
theorem dX4_readCommand_99 : decode cX4_readCommand 99 = .ok (.aload_n 1, 1) := by decide +kernel
theorem dX4_readCommand_100 : decode cX4_readCommand 100 = .ok (.aload_n 2, 1) := by decide +kernel
theorem dX4_readCommand_101 : decode cX4_readCommand 101 = .ok (.iconst 1, 1) := by decide +kernel
theorem dX4_readCommand_102 : decode cX4_readCommand 102 = .ok (.invokevirtual 52, 3) := by decide +kernel
theorem dX4_readCommand_105 : decode cX4_readCommand 105 = .ok (.aload_n 2, 1) := by decide +kernel
theorem dX4_readCommand_106 : decode cX4_readCommand 106 = .ok (.iconst 1, 1) := by decide +kernel
theorem dX4_readCommand_107 : decode cX4_readCommand 107 = .ok (.invokevirtual 56, 3) := by decide +kernel
theorem dX4_readCommand_110 : decode cX4_readCommand 110 = .ok (.invokevirtual 59, 3) := by decide +kernel
theorem dX4_readCommand_113 : decode cX4_readCommand 113 = .ok (.goto 4, 3) := by decide +kernel
theorem dX4_readCommand_116 : decode cX4_readCommand 116 = .ok (.iconst 0, 1) := by decide +kernel
theorem dX4_readCommand_117 : decode cX4_readCommand 117 = .ok (.invokestatic 63, 3) := by decide +kernel
theorem dX4_readCommand_120 : decode cX4_readCommand 120 = .ok (.aload_n 1, 1) := by decide +kernel
theorem dX4_readCommand_121 : decode cX4_readCommand 121 = .ok (.invokevirtual 70, 3) := by decide +kernel
theorem dX4_readCommand_124 : decode cX4_readCommand 124 = .ok (.aload_n 0, 1) := by decide +kernel
theorem dX4_readCommand_125 : decode cX4_readCommand 125 = .ok (.dup, 1) := by decide +kernel
theorem dX4_readCommand_126 : decode cX4_readCommand 126 = .ok (.getfield 24, 3) := by decide +kernel
theorem dX4_readCommand_129 : decode cX4_readCommand 129 = .ok (.iconst 1, 1) := by decide +kernel
theorem dX4_readCommand_130 : decode cX4_readCommand 130 = .ok (.iadd, 1) := by decide +kernel
theorem dX4_readCommand_131 : decode cX4_readCommand 131 = .ok (.putfield 24, 3) := by decide +kernel
theorem dX4_readCommand_134 : decode cX4_readCommand 134 = .ok (.return_, 1) := by decide +kernel
theorem dX4_play_0 : decode cX4_play 0 = .ok (.iconst 0, 1) := by decide +kernel
theorem dX4_play_1 : decode cX4_play 1 = .ok (.istore_n 2, 1) := by decide +kernel
theorem dX4_play_2 : decode cX4_play 2 = .ok (.iload_n 2, 1) := by decide +kernel
theorem dX4_play_3 : decode cX4_play 3 = .ok (.aload_n 0, 1) := by decide +kernel
theorem dX4_play_4 : decode cX4_play 4 = .ok (.getfield 24, 3) := by decide +kernel
theorem dX4_play_7 : decode cX4_play 7 = .ok (.if_icmp .ge 76, 3) := by decide +kernel
theorem dX4_play_10 : decode cX4_play 10 = .ok (.iload_n 2, 1) := by decide +kernel
theorem dX4_play_11 : decode cX4_play 11 = .ok (.aload_n 0, 1) := by decide +kernel
theorem dX4_play_12 : decode cX4_play 12 = .ok (.getfield 11, 3) := by decide +kernel
theorem dX4_play_15 : decode cX4_play 15 = .ok (.arraylength, 1) := by decide +kernel
theorem dX4_play_16 : decode cX4_play 16 = .ok (.if_icmp .ge 67, 3) := by decide +kernel
theorem dX4_play_19 : decode cX4_play 19 = .ok (.aload_n 0, 1) := by decide +kernel
theorem dX4_play_20 : decode cX4_play 20 = .ok (.getfield 11, 3) := by decide +kernel
theorem dX4_play_23 : decode cX4_play 23 = .ok (.iload_n 2, 1) := by decide +kernel
theorem dX4_play_24 : decode cX4_play 24 = .ok (.aaload, 1) := by decide +kernel
theorem dX4_play_25 : decode cX4_play 25 = .ok (.astore_n 3, 1) := by decide +kernel
theorem dX4_play_26 : decode cX4_play 26 = .ok (.aload_n 3, 1) := by decide +kernel
theorem dX4_play_27 : decode cX4_play 27 = .ok (.ifnull 27, 3) := by decide +kernel
theorem dX4_play_30 : decode cX4_play 30 = .ok (.aload_n 1, 1) := by decide +kernel
theorem dX4_play_31 : decode cX4_play 31 = .ok (.aload_n 3, 1) := by decide +kernel
theorem dX4_play_32 : decode cX4_play 32 = .ok (.aload_n 0, 1) := by decide +kernel
theorem dX4_play_33 : decode cX4_play 33 = .ok (.getfield 17, 3) := by decide +kernel
theorem dX4_play_36 : decode cX4_play 36 = .ok (.iload_n 2, 1) := by decide +kernel
theorem dX4_play_37 : decode cX4_play 37 = .ok (.invokestatic 73, 3) := by decide +kernel
theorem dX4_play_40 : decode cX4_play 40 = .ok (.aload_n 0, 1) := by decide +kernel
theorem dX4_play_41 : decode cX4_play 41 = .ok (.getfield 21, 3) := by decide +kernel
theorem dX4_play_44 : decode cX4_play 44 = .ok (.iload_n 2, 1) := by decide +kernel
theorem dX4_play_45 : decode cX4_play 45 = .ok (.invokestatic 73, 3) := by decide +kernel
theorem dX4_play_48 : decode cX4_play 48 = .ok (.invokevirtual 77, 3) := by decide +kernel
theorem dX4_play_51 : decode cX4_play 51 = .ok (.ifCond .eq 5, 3) := by decide +kernel
theorem dX4_play_54 : decode cX4_play 54 = .ok (.iload_n 2, 1) := by decide +kernel
theorem dX4_play_55 : decode cX4_play 55 = .ok (.ireturn, 1) := by decide +kernel
theorem dX4_play_56 : decode cX4_play 56 = .ok (.aload_n 1, 1) := by decide +kernel
theorem dX4_play_57 : decode cX4_play 57 = .ok (.aload_n 3, 1) := by decide +kernel
theorem dX4_play_58 : decode cX4_play 58 = .ok (.aload_n 0, 1) := by decide +kernel
theorem dX4_play_59 : decode cX4_play 59 = .ok (.getfield 17, 3) := by decide +kernel
theorem dX4_play_62 : decode cX4_play 62 = .ok (.iload_n 2, 1) := by decide +kernel
theorem dX4_play_63 : decode cX4_play 63 = .ok (.invokestatic 73, 3) := by decide +kernel
theorem dX4_play_66 : decode cX4_play 66 = .ok (.aload_n 0, 1) := by decide +kernel
theorem dX4_play_67 : decode cX4_play 67 = .ok (.getfield 21, 3) := by decide +kernel
theorem dX4_play_70 : decode cX4_play 70 = .ok (.iload_n 2, 1) := by decide +kernel
theorem dX4_play_71 : decode cX4_play 71 = .ok (.invokestatic 73, 3) := by decide +kernel
theorem dX4_play_74 : decode cX4_play 74 = .ok (.invokevirtual 83, 3) := by decide +kernel
theorem dX4_play_77 : decode cX4_play 77 = .ok (.iinc 2 1, 3) := by decide +kernel
theorem dX4_play_80 : decode cX4_play 80 = .ok (.goto (-78), 3) := by decide +kernel
theorem dX4_play_83 : decode cX4_play 83 = .ok (.aload_n 0, 1) := by decide +kernel
theorem dX4_play_84 : decode cX4_play 84 = .ok (.getfield 24, 3) := by decide +kernel
theorem dX4_play_87 : decode cX4_play 87 = .ok (.ireturn, 1) := by decide +kernel
theorem dX5_init_0 : decode cX5_init 0 = .ok (.aload_n 0, 1) := by decide +kernel
theorem dX5_init_1 : decode cX5_init 1 = .ok (.invokespecial 3, 3) := by decide +kernel
theorem dX5_init_4 : decode cX5_init 4 = .ok (.aload_n 0, 1) := by decide +kernel
theorem dX5_init_5 : decode cX5_init 5 = .ok (.bipush 10, 2) := by decide +kernel
theorem dX5_init_7 : decode cX5_init 7 = .ok (.newarray .int, 2) := by decide +kernel
theorem dX5_init_9 : decode cX5_init 9 = .ok (.putfield 9, 3) := by decide +kernel
theorem dX5_init_12 : decode cX5_init 12 = .ok (.aload_n 0, 1) := by decide +kernel
theorem dX5_init_13 : decode cX5_init 13 = .ok (.bipush 10, 2) := by decide +kernel
theorem dX5_init_15 : decode cX5_init 15 = .ok (.newarray .int, 2) := by decide +kernel
theorem dX5_init_17 : decode cX5_init 17 = .ok (.putfield 15, 3) := by decide +kernel
theorem dX5_init_20 : decode cX5_init 20 = .ok (.aload_n 0, 1) := by decide +kernel
theorem dX5_init_21 : decode cX5_init 21 = .ok (.bipush 10, 2) := by decide +kernel
theorem dX5_init_23 : decode cX5_init 23 = .ok (.newarray .int, 2) := by decide +kernel
theorem dX5_init_25 : decode cX5_init 25 = .ok (.putfield 18, 3) := by decide +kernel
theorem dX5_init_28 : decode cX5_init 28 = .ok (.aload_n 0, 1) := by decide +kernel
theorem dX5_init_29 : decode cX5_init 29 = .ok (.bipush 10, 2) := by decide +kernel
theorem dX5_init_31 : decode cX5_init 31 = .ok (.newarray .int, 2) := by decide +kernel
theorem dX5_init_33 : decode cX5_init 33 = .ok (.putfield 21, 3) := by decide +kernel
theorem dX5_init_36 : decode cX5_init 36 = .ok (.aload_n 0, 1) := by decide +kernel
theorem dX5_init_37 : decode cX5_init 37 = .ok (.bipush 10, 2) := by decide +kernel
theorem dX5_init_39 : decode cX5_init 39 = .ok (.newarray .int, 2) := by decide +kernel
theorem dX5_init_41 : decode cX5_init 41 = .ok (.putfield 24, 3) := by decide +kernel
theorem dX5_init_44 : decode cX5_init 44 = .ok (.aload_n 0, 1) := by decide +kernel
theorem dX5_init_45 : decode cX5_init 45 = .ok (.iconst 4, 1) := by decide +kernel
theorem dX5_init_46 : decode cX5_init 46 = .ok (.newarray .int, 2) := by decide +kernel
theorem dX5_init_48 : decode cX5_init 48 = .ok (.putfield 27, 3) := by decide +kernel
theorem dX5_init_51 : decode cX5_init 51 = .ok (.aload_n 0, 1) := by decide +kernel
theorem dX5_init_52 : decode cX5_init 52 = .ok (.iconst 4, 1) := by decide +kernel
theorem dX5_init_53 : decode cX5_init 53 = .ok (.newarray .int, 2) := by decide +kernel
theorem dX5_init_55 : decode cX5_init 55 = .ok (.putfield 30, 3) := by decide +kernel
theorem dX5_init_58 : decode cX5_init 58 = .ok (.aload_n 0, 1) := by decide +kernel
theorem dX5_init_59 : decode cX5_init 59 = .ok (.iconst 4, 1) := by decide +kernel
theorem dX5_init_60 : decode cX5_init 60 = .ok (.newarray .int, 2) := by decide +kernel
theorem dX5_init_62 : decode cX5_init 62 = .ok (.putfield 33, 3) := by decide +kernel
theorem dX5_init_65 : decode cX5_init 65 = .ok (.return_, 1) := by decide +kernel
theorem dX5_begin_0 : decode cX5_begin 0 = .ok (.aload_n 0, 1) := by decide +kernel
theorem dX5_begin_1 : decode cX5_begin 1 = .ok (.iload_n 1, 1) := by decide +kernel
theorem dX5_begin_2 : decode cX5_begin 2 = .ok (.putfield 36, 3) := by decide +kernel
theorem dX5_begin_5 : decode cX5_begin 5 = .ok (.aload_n 0, 1) := by decide +kernel
theorem dX5_begin_6 : decode cX5_begin 6 = .ok (.iload_n 2, 1) := by decide +kernel
theorem dX5_begin_7 : decode cX5_begin 7 = .ok (.putfield 40, 3) := by decide +kernel
theorem dX5_begin_10 : decode cX5_begin 10 = .ok (.aload_n 0, 1) := by decide +kernel
theorem dX5_begin_11 : decode cX5_begin 11 = .ok (.iload_n 3, 1) := by decide +kernel
theorem dX5_begin_12 : decode cX5_begin 12 = .ok (.putfield 43, 3) := by decide +kernel
theorem dX5_begin_15 : decode cX5_begin 15 = .ok (.aload_n 0, 1) := by decide +kernel
theorem dX5_begin_16 : decode cX5_begin 16 = .ok (.iload 4, 2) := by decide +kernel
theorem dX5_begin_18 : decode cX5_begin 18 = .ok (.putfield 46, 3) := by decide +kernel
theorem dX5_begin_21 : decode cX5_begin 21 = .ok (.aload_n 0, 1) := by decide +kernel
theorem dX5_begin_22 : decode cX5_begin 22 = .ok (.iconst 0, 1) := by decide +kernel
theorem dX5_begin_23 : decode cX5_begin 23 = .ok (.putfield 49, 3) := by decide +kernel
theorem dX5_begin_26 : decode cX5_begin 26 = .ok (.aload_n 0, 1) := by decide +kernel
theorem dX5_begin_27 : decode cX5_begin 27 = .ok (.iconst 0, 1) := by decide +kernel
theorem dX5_begin_28 : decode cX5_begin 28 = .ok (.putfield 52, 3) := by decide +kernel
theorem dX5_begin_31 : decode cX5_begin 31 = .ok (.return_, 1) := by decide +kernel
theorem dX5_addPerson_0 : decode cX5_addPerson 0 = .ok (.aload_n 0, 1) := by decide +kernel
theorem dX5_addPerson_1 : decode cX5_addPerson 1 = .ok (.getfield 9, 3) := by decide +kernel
theorem dX5_addPerson_4 : decode cX5_addPerson 4 = .ok (.aload_n 0, 1) := by decide +kernel
theorem dX5_addPerson_5 : decode cX5_addPerson 5 = .ok (.getfield 49, 3) := by decide +kernel
theorem dX5_addPerson_8 : decode cX5_addPerson 8 = .ok (.iload_n 1, 1) := by decide +kernel
theorem dX5_addPerson_9 : decode cX5_addPerson 9 = .ok (.invokestatic 55, 3) := by decide +kernel
theorem dX5_addPerson_12 : decode cX5_addPerson 12 = .ok (.aload_n 0, 1) := by decide +kernel
theorem dX5_addPerson_13 : decode cX5_addPerson 13 = .ok (.getfield 15, 3) := by decide +kernel
theorem dX5_addPerson_16 : decode cX5_addPerson 16 = .ok (.aload_n 0, 1) := by decide +kernel
theorem dX5_addPerson_17 : decode cX5_addPerson 17 = .ok (.getfield 49, 3) := by decide +kernel
theorem dX5_addPerson_20 : decode cX5_addPerson 20 = .ok (.iload_n 2, 1) := by decide +kernel
theorem dX5_addPerson_21 : decode cX5_addPerson 21 = .ok (.invokestatic 55, 3) := by decide +kernel
theorem dX5_addPerson_24 : decode cX5_addPerson 24 = .ok (.aload_n 0, 1) := by decide +kernel
theorem dX5_addPerson_25 : decode cX5_addPerson 25 = .ok (.getfield 18, 3) := by decide +kernel
theorem dX5_addPerson_28 : decode cX5_addPerson 28 = .ok (.aload_n 0, 1) := by decide +kernel
theorem dX5_addPerson_29 : decode cX5_addPerson 29 = .ok (.getfield 49, 3) := by decide +kernel
theorem dX5_addPerson_32 : decode cX5_addPerson 32 = .ok (.iload_n 3, 1) := by decide +kernel
theorem dX5_addPerson_33 : decode cX5_addPerson 33 = .ok (.invokestatic 55, 3) := by decide +kernel
theorem dX5_addPerson_36 : decode cX5_addPerson 36 = .ok (.aload_n 0, 1) := by decide +kernel
theorem dX5_addPerson_37 : decode cX5_addPerson 37 = .ok (.getfield 21, 3) := by decide +kernel
theorem dX5_addPerson_40 : decode cX5_addPerson 40 = .ok (.aload_n 0, 1) := by decide +kernel
theorem dX5_addPerson_41 : decode cX5_addPerson 41 = .ok (.getfield 49, 3) := by decide +kernel
theorem dX5_addPerson_44 : decode cX5_addPerson 44 = .ok (.iload 4, 2) := by decide +kernel
theorem dX5_addPerson_46 : decode cX5_addPerson 46 = .ok (.invokestatic 55, 3) := by decide +kernel
theorem dX5_addPerson_49 : decode cX5_addPerson 49 = .ok (.aload_n 0, 1) := by decide +kernel
theorem dX5_addPerson_50 : decode cX5_addPerson 50 = .ok (.getfield 24, 3) := by decide +kernel
theorem dX5_addPerson_53 : decode cX5_addPerson 53 = .ok (.aload_n 0, 1) := by decide +kernel
theorem dX5_addPerson_54 : decode cX5_addPerson 54 = .ok (.getfield 49, 3) := by decide +kernel
theorem dX5_addPerson_57 : decode cX5_addPerson 57 = .ok (.iload 5, 2) := by decide +kernel
theorem dX5_addPerson_59 : decode cX5_addPerson 59 = .ok (.invokestatic 55, 3) := by decide +kernel
theorem dX5_addPerson_62 : decode cX5_addPerson 62 = .ok (.aload_n 0, 1) := by decide +kernel
theorem dX5_addPerson_63 : decode cX5_addPerson 63 = .ok (.dup, 1) := by decide +kernel
theorem dX5_addPerson_64 : decode cX5_addPerson 64 = .ok (.getfield 49, 3) := by decide +kernel
theorem dX5_addPerson_67 : decode cX5_addPerson 67 = .ok (.iconst 1, 1) := by decide +kernel
theorem dX5_addPerson_68 : decode cX5_addPerson 68 = .ok (.iadd, 1) := by decide +kernel
theorem dX5_addPerson_69 : decode cX5_addPerson 69 = .ok (.putfield 49, 3) := by decide +kernel
theorem dX5_addPerson_72 : decode cX5_addPerson 72 = .ok (.return_, 1) := by decide +kernel
theorem dX5_addBridge_0 : decode cX5_addBridge 0 = .ok (.aload_n 0, 1) := by decide +kernel
theorem dX5_addBridge_1 : decode cX5_addBridge 1 = .ok (.getfield 27, 3) := by decide +kernel
theorem dX5_addBridge_4 : decode cX5_addBridge 4 = .ok (.aload_n 0, 1) := by decide +kernel
theorem dX5_addBridge_5 : decode cX5_addBridge 5 = .ok (.getfield 52, 3) := by decide +kernel
theorem dX5_addBridge_8 : decode cX5_addBridge 8 = .ok (.iload_n 1, 1) := by decide +kernel
theorem dX5_addBridge_9 : decode cX5_addBridge 9 = .ok (.invokestatic 55, 3) := by decide +kernel
theorem dX5_addBridge_12 : decode cX5_addBridge 12 = .ok (.aload_n 0, 1) := by decide +kernel
theorem dX5_addBridge_13 : decode cX5_addBridge 13 = .ok (.getfield 30, 3) := by decide +kernel
theorem dX5_addBridge_16 : decode cX5_addBridge 16 = .ok (.aload_n 0, 1) := by decide +kernel
theorem dX5_addBridge_17 : decode cX5_addBridge 17 = .ok (.getfield 52, 3) := by decide +kernel
theorem dX5_addBridge_20 : decode cX5_addBridge 20 = .ok (.iload_n 2, 1) := by decide +kernel
theorem dX5_addBridge_21 : decode cX5_addBridge 21 = .ok (.invokestatic 55, 3) := by decide +kernel
theorem dX5_addBridge_24 : decode cX5_addBridge 24 = .ok (.aload_n 0, 1) := by decide +kernel
theorem dX5_addBridge_25 : decode cX5_addBridge 25 = .ok (.getfield 33, 3) := by decide +kernel
theorem dX5_addBridge_28 : decode cX5_addBridge 28 = .ok (.aload_n 0, 1) := by decide +kernel
theorem dX5_addBridge_29 : decode cX5_addBridge 29 = .ok (.getfield 52, 3) := by decide +kernel
theorem dX5_addBridge_32 : decode cX5_addBridge 32 = .ok (.iload_n 3, 1) := by decide +kernel
theorem dX5_addBridge_33 : decode cX5_addBridge 33 = .ok (.invokestatic 55, 3) := by decide +kernel
theorem dX5_addBridge_36 : decode cX5_addBridge 36 = .ok (.aload_n 0, 1) := by decide +kernel
theorem dX5_addBridge_37 : decode cX5_addBridge 37 = .ok (.dup, 1) := by decide +kernel
theorem dX5_addBridge_38 : decode cX5_addBridge 38 = .ok (.getfield 52, 3) := by decide +kernel
theorem dX5_addBridge_41 : decode cX5_addBridge 41 = .ok (.iconst 1, 1) := by decide +kernel
theorem dX5_addBridge_42 : decode cX5_addBridge 42 = .ok (.iadd, 1) := by decide +kernel
theorem dX5_addBridge_43 : decode cX5_addBridge 43 = .ok (.putfield 52, 3) := by decide +kernel
theorem dX5_addBridge_46 : decode cX5_addBridge 46 = .ok (.return_, 1) := by decide +kernel
theorem dX5_copyFrom_0 : decode cX5_copyFrom 0 = .ok (.aload_n 0, 1) := by decide +kernel
theorem dX5_copyFrom_1 : decode cX5_copyFrom 1 = .ok (.aload_n 1, 1) := by decide +kernel
theorem dX5_copyFrom_2 : decode cX5_copyFrom 2 = .ok (.getfield 36, 3) := by decide +kernel
theorem dX5_copyFrom_5 : decode cX5_copyFrom 5 = .ok (.putfield 36, 3) := by decide +kernel
theorem dX5_copyFrom_8 : decode cX5_copyFrom 8 = .ok (.aload_n 0, 1) := by decide +kernel
theorem dX5_copyFrom_9 : decode cX5_copyFrom 9 = .ok (.aload_n 1, 1) := by decide +kernel
theorem dX5_copyFrom_10 : decode cX5_copyFrom 10 = .ok (.getfield 40, 3) := by decide +kernel
theorem dX5_copyFrom_13 : decode cX5_copyFrom 13 = .ok (.putfield 40, 3) := by decide +kernel
theorem dX5_copyFrom_16 : decode cX5_copyFrom 16 = .ok (.aload_n 0, 1) := by decide +kernel
theorem dX5_copyFrom_17 : decode cX5_copyFrom 17 = .ok (.aload_n 1, 1) := by decide +kernel
theorem dX5_copyFrom_18 : decode cX5_copyFrom 18 = .ok (.getfield 43, 3) := by decide +kernel
theorem dX5_copyFrom_21 : decode cX5_copyFrom 21 = .ok (.putfield 43, 3) := by decide +kernel
theorem dX5_copyFrom_24 : decode cX5_copyFrom 24 = .ok (.aload_n 0, 1) := by decide +kernel
theorem dX5_copyFrom_25 : decode cX5_copyFrom 25 = .ok (.aload_n 1, 1) := by decide +kernel
theorem dX5_copyFrom_26 : decode cX5_copyFrom 26 = .ok (.getfield 46, 3) := by decide +kernel
theorem dX5_copyFrom_29 : decode cX5_copyFrom 29 = .ok (.putfield 46, 3) := by decide +kernel
theorem dX5_copyFrom_32 : decode cX5_copyFrom 32 = .ok (.aload_n 0, 1) := by decide +kernel
theorem dX5_copyFrom_33 : decode cX5_copyFrom 33 = .ok (.aload_n 1, 1) := by decide +kernel
theorem dX5_copyFrom_34 : decode cX5_copyFrom 34 = .ok (.getfield 49, 3) := by decide +kernel
theorem dX5_copyFrom_37 : decode cX5_copyFrom 37 = .ok (.putfield 49, 3) := by decide +kernel
theorem dX5_copyFrom_40 : decode cX5_copyFrom 40 = .ok (.aload_n 0, 1) := by decide +kernel
theorem dX5_copyFrom_41 : decode cX5_copyFrom 41 = .ok (.aload_n 1, 1) := by decide +kernel
theorem dX5_copyFrom_42 : decode cX5_copyFrom 42 = .ok (.getfield 52, 3) := by decide +kernel
theorem dX5_copyFrom_45 : decode cX5_copyFrom 45 = .ok (.putfield 52, 3) := by decide +kernel
theorem dX5_copyFrom_48 : decode cX5_copyFrom 48 = .ok (.aload_n 1, 1) := by decide +kernel
theorem dX5_copyFrom_49 : decode cX5_copyFrom 49 = .ok (.getfield 9, 3) := by decide +kernel
theorem dX5_copyFrom_52 : decode cX5_copyFrom 52 = .ok (.aload_n 0, 1) := by decide +kernel
theorem dX5_copyFrom_53 : decode cX5_copyFrom 53 = .ok (.getfield 9, 3) := by decide +kernel
theorem dX5_copyFrom_56 : decode cX5_copyFrom 56 = .ok (.invokestatic 59, 3) := by decide +kernel
theorem dX5_copyFrom_59 : decode cX5_copyFrom 59 = .ok (.aload_n 1, 1) := by decide +kernel
theorem dX5_copyFrom_60 : decode cX5_copyFrom 60 = .ok (.getfield 15, 3) := by decide +kernel
theorem dX5_copyFrom_63 : decode cX5_copyFrom 63 = .ok (.aload_n 0, 1) := by decide +kernel
theorem dX5_copyFrom_64 : decode cX5_copyFrom 64 = .ok (.getfield 15, 3) := by decide +kernel
theorem dX5_copyFrom_67 : decode cX5_copyFrom 67 = .ok (.invokestatic 59, 3) := by decide +kernel
theorem dX5_copyFrom_70 : decode cX5_copyFrom 70 = .ok (.aload_n 1, 1) := by decide +kernel
theorem dX5_copyFrom_71 : decode cX5_copyFrom 71 = .ok (.getfield 18, 3) := by decide +kernel
theorem dX5_copyFrom_74 : decode cX5_copyFrom 74 = .ok (.aload_n 0, 1) := by decide +kernel
theorem dX5_copyFrom_75 : decode cX5_copyFrom 75 = .ok (.getfield 18, 3) := by decide +kernel
theorem dX5_copyFrom_78 : decode cX5_copyFrom 78 = .ok (.invokestatic 59, 3) := by decide +kernel
theorem dX5_copyFrom_81 : decode cX5_copyFrom 81 = .ok (.aload_n 1, 1) := by decide +kernel
theorem dX5_copyFrom_82 : decode cX5_copyFrom 82 = .ok (.getfield 21, 3) := by decide +kernel
theorem dX5_copyFrom_85 : decode cX5_copyFrom 85 = .ok (.aload_n 0, 1) := by decide +kernel
theorem dX5_copyFrom_86 : decode cX5_copyFrom 86 = .ok (.getfield 21, 3) := by decide +kernel
theorem dX5_copyFrom_89 : decode cX5_copyFrom 89 = .ok (.invokestatic 59, 3) := by decide +kernel
theorem dX5_copyFrom_92 : decode cX5_copyFrom 92 = .ok (.aload_n 1, 1) := by decide +kernel
theorem dX5_copyFrom_93 : decode cX5_copyFrom 93 = .ok (.getfield 24, 3) := by decide +kernel
theorem dX5_copyFrom_96 : decode cX5_copyFrom 96 = .ok (.aload_n 0, 1) := by decide +kernel
theorem dX5_copyFrom_97 : decode cX5_copyFrom 97 = .ok (.getfield 24, 3) := by decide +kernel
theorem dX5_copyFrom_100 : decode cX5_copyFrom 100 = .ok (.invokestatic 59, 3) := by decide +kernel
theorem dX5_copyFrom_103 : decode cX5_copyFrom 103 = .ok (.aload_n 1, 1) := by decide +kernel
theorem dX5_copyFrom_104 : decode cX5_copyFrom 104 = .ok (.getfield 27, 3) := by decide +kernel
theorem dX5_copyFrom_107 : decode cX5_copyFrom 107 = .ok (.aload_n 0, 1) := by decide +kernel
theorem dX5_copyFrom_108 : decode cX5_copyFrom 108 = .ok (.getfield 27, 3) := by decide +kernel
theorem dX5_copyFrom_111 : decode cX5_copyFrom 111 = .ok (.invokestatic 59, 3) := by decide +kernel
theorem dX5_copyFrom_114 : decode cX5_copyFrom 114 = .ok (.aload_n 1, 1) := by decide +kernel
theorem dX5_copyFrom_115 : decode cX5_copyFrom 115 = .ok (.getfield 30, 3) := by decide +kernel
theorem dX5_copyFrom_118 : decode cX5_copyFrom 118 = .ok (.aload_n 0, 1) := by decide +kernel
theorem dX5_copyFrom_119 : decode cX5_copyFrom 119 = .ok (.getfield 30, 3) := by decide +kernel
theorem dX5_copyFrom_122 : decode cX5_copyFrom 122 = .ok (.invokestatic 59, 3) := by decide +kernel
theorem dX5_copyFrom_125 : decode cX5_copyFrom 125 = .ok (.aload_n 1, 1) := by decide +kernel
theorem dX5_copyFrom_126 : decode cX5_copyFrom 126 = .ok (.getfield 33, 3) := by decide +kernel
theorem dX5_copyFrom_129 : decode cX5_copyFrom 129 = .ok (.aload_n 0, 1) := by decide +kernel
theorem dX5_copyFrom_130 : decode cX5_copyFrom 130 = .ok (.getfield 33, 3) := by decide +kernel
theorem dX5_copyFrom_133 : decode cX5_copyFrom 133 = .ok (.invokestatic 59, 3) := by decide +kernel
theorem dX5_copyFrom_136 : decode cX5_copyFrom 136 = .ok (.return_, 1) := by decide +kernel
theorem dX5_hasPerson_0 : decode cX5_hasPerson 0 = .ok (.iload_n 1, 1) := by decide +kernel
theorem dX5_hasPerson_1 : decode cX5_hasPerson 1 = .ok (.ifCond .lt 15, 3) := by decide +kernel
theorem dX5_hasPerson_4 : decode cX5_hasPerson 4 = .ok (.iload_n 1, 1) := by decide +kernel
theorem dX5_hasPerson_5 : decode cX5_hasPerson 5 = .ok (.aload_n 0, 1) := by decide +kernel
theorem dX5_hasPerson_6 : decode cX5_hasPerson 6 = .ok (.getfield 49, 3) := by decide +kernel
theorem dX5_hasPerson_9 : decode cX5_hasPerson 9 = .ok (.if_icmp .ge 7, 3) := by decide +kernel
theorem dX5_hasPerson_12 : decode cX5_hasPerson 12 = .ok (.iconst 1, 1) := by decide +kernel
theorem dX5_hasPerson_13 : decode cX5_hasPerson 13 = .ok (.goto 4, 3) := by decide +kernel
theorem dX5_hasPerson_16 : decode cX5_hasPerson 16 = .ok (.iconst 0, 1) := by decide +kernel
theorem dX5_hasPerson_17 : decode cX5_hasPerson 17 = .ok (.ireturn, 1) := by decide +kernel
theorem dX5_hasKing_0 : decode cX5_hasKing 0 = .ok (.aload_n 0, 1) := by decide +kernel
theorem dX5_hasKing_1 : decode cX5_hasKing 1 = .ok (.iload_n 1, 1) := by decide +kernel
theorem dX5_hasKing_2 : decode cX5_hasKing 2 = .ok (.invokevirtual 63, 3) := by decide +kernel
theorem dX5_hasKing_5 : decode cX5_hasKing 5 = .ok (.ifCond .eq 19, 3) := by decide +kernel
theorem dX5_hasKing_8 : decode cX5_hasKing 8 = .ok (.aload_n 0, 1) := by decide +kernel
theorem dX5_hasKing_9 : decode cX5_hasKing 9 = .ok (.getfield 9, 3) := by decide +kernel
theorem dX5_hasKing_12 : decode cX5_hasKing 12 = .ok (.iload_n 1, 1) := by decide +kernel
theorem dX5_hasKing_13 : decode cX5_hasKing 13 = .ok (.invokestatic 67, 3) := by decide +kernel
theorem dX5_hasKing_16 : decode cX5_hasKing 16 = .ok (.iconst 1, 1) := by decide +kernel
theorem dX5_hasKing_17 : decode cX5_hasKing 17 = .ok (.if_icmp .ne 7, 3) := by decide +kernel
theorem dX5_hasKing_20 : decode cX5_hasKing 20 = .ok (.iconst 1, 1) := by decide +kernel
theorem dX5_hasKing_21 : decode cX5_hasKing 21 = .ok (.goto 4, 3) := by decide +kernel
theorem dX5_hasKing_24 : decode cX5_hasKing 24 = .ok (.iconst 0, 1) := by decide +kernel
theorem dX5_hasKing_25 : decode cX5_hasKing 25 = .ok (.ireturn, 1) := by decide +kernel
theorem dX5_kingsInAll_0 : decode cX5_kingsInAll 0 = .ok (.iconst 0, 1) := by decide +kernel
theorem dX5_kingsInAll_1 : decode cX5_kingsInAll 1 = .ok (.istore_n 1, 1) := by decide +kernel
theorem dX5_kingsInAll_2 : decode cX5_kingsInAll 2 = .ok (.iconst 0, 1) := by decide +kernel
theorem dX5_kingsInAll_3 : decode cX5_kingsInAll 3 = .ok (.istore_n 2, 1) := by decide +kernel
theorem dX5_kingsInAll_4 : decode cX5_kingsInAll 4 = .ok (.iload_n 2, 1) := by decide +kernel
theorem dX5_kingsInAll_5 : decode cX5_kingsInAll 5 = .ok (.aload_n 0, 1) := by decide +kernel
theorem dX5_kingsInAll_6 : decode cX5_kingsInAll 6 = .ok (.getfield 49, 3) := by decide +kernel
theorem dX5_kingsInAll_9 : decode cX5_kingsInAll 9 = .ok (.if_icmp .ge 20, 3) := by decide +kernel
theorem dX5_kingsInAll_12 : decode cX5_kingsInAll 12 = .ok (.iload_n 1, 1) := by decide +kernel
theorem dX5_kingsInAll_13 : decode cX5_kingsInAll 13 = .ok (.aload_n 0, 1) := by decide +kernel
theorem dX5_kingsInAll_14 : decode cX5_kingsInAll 14 = .ok (.getfield 9, 3) := by decide +kernel
theorem dX5_kingsInAll_17 : decode cX5_kingsInAll 17 = .ok (.iload_n 2, 1) := by decide +kernel
theorem dX5_kingsInAll_18 : decode cX5_kingsInAll 18 = .ok (.invokestatic 67, 3) := by decide +kernel
theorem dX5_kingsInAll_21 : decode cX5_kingsInAll 21 = .ok (.iadd, 1) := by decide +kernel
theorem dX5_kingsInAll_22 : decode cX5_kingsInAll 22 = .ok (.istore_n 1, 1) := by decide +kernel
theorem dX5_kingsInAll_23 : decode cX5_kingsInAll 23 = .ok (.iinc 2 1, 3) := by decide +kernel
theorem dX5_kingsInAll_26 : decode cX5_kingsInAll 26 = .ok (.goto (-22), 3) := by decide +kernel
theorem dX5_kingsInAll_29 : decode cX5_kingsInAll 29 = .ok (.iload_n 1, 1) := by decide +kernel
theorem dX5_kingsInAll_30 : decode cX5_kingsInAll 30 = .ok (.ireturn, 1) := by decide +kernel
theorem dX5_coinsInAll_0 : decode cX5_coinsInAll 0 = .ok (.iconst 0, 1) := by decide +kernel
theorem dX5_coinsInAll_1 : decode cX5_coinsInAll 1 = .ok (.istore_n 1, 1) := by decide +kernel
theorem dX5_coinsInAll_2 : decode cX5_coinsInAll 2 = .ok (.iconst 0, 1) := by decide +kernel
theorem dX5_coinsInAll_3 : decode cX5_coinsInAll 3 = .ok (.istore_n 2, 1) := by decide +kernel
theorem dX5_coinsInAll_4 : decode cX5_coinsInAll 4 = .ok (.iload_n 2, 1) := by decide +kernel
theorem dX5_coinsInAll_5 : decode cX5_coinsInAll 5 = .ok (.aload_n 0, 1) := by decide +kernel
theorem dX5_coinsInAll_6 : decode cX5_coinsInAll 6 = .ok (.getfield 49, 3) := by decide +kernel
theorem dX5_coinsInAll_9 : decode cX5_coinsInAll 9 = .ok (.if_icmp .ge 20, 3) := by decide +kernel
theorem dX5_coinsInAll_12 : decode cX5_coinsInAll 12 = .ok (.iload_n 1, 1) := by decide +kernel
theorem dX5_coinsInAll_13 : decode cX5_coinsInAll 13 = .ok (.aload_n 0, 1) := by decide +kernel
theorem dX5_coinsInAll_14 : decode cX5_coinsInAll 14 = .ok (.getfield 18, 3) := by decide +kernel
theorem dX5_coinsInAll_17 : decode cX5_coinsInAll 17 = .ok (.iload_n 2, 1) := by decide +kernel
theorem dX5_coinsInAll_18 : decode cX5_coinsInAll 18 = .ok (.invokestatic 67, 3) := by decide +kernel
theorem dX5_coinsInAll_21 : decode cX5_coinsInAll 21 = .ok (.iadd, 1) := by decide +kernel
theorem dX5_coinsInAll_22 : decode cX5_coinsInAll 22 = .ok (.istore_n 1, 1) := by decide +kernel
theorem dX5_coinsInAll_23 : decode cX5_coinsInAll 23 = .ok (.iinc 2 1, 3) := by decide +kernel
theorem dX5_coinsInAll_26 : decode cX5_coinsInAll 26 = .ok (.goto (-22), 3) := by decide +kernel
theorem dX5_coinsInAll_29 : decode cX5_coinsInAll 29 = .ok (.iload_n 1, 1) := by decide +kernel
theorem dX5_coinsInAll_30 : decode cX5_coinsInAll 30 = .ok (.ireturn, 1) := by decide +kernel
theorem dX5_tollFor_0 : decode cX5_tollFor 0 = .ok (.iload_n 1, 1) := by decide +kernel
theorem dX5_tollFor_1 : decode cX5_tollFor 1 = .ok (.ifCond .eq 10, 3) := by decide +kernel
theorem dX5_tollFor_4 : decode cX5_tollFor 4 = .ok (.aload_n 0, 1) := by decide +kernel
theorem dX5_tollFor_5 : decode cX5_tollFor 5 = .ok (.getfield 43, 3) := by decide +kernel
theorem dX5_tollFor_8 : decode cX5_tollFor 8 = .ok (.goto 7, 3) := by decide +kernel
theorem dX5_tollFor_11 : decode cX5_tollFor 11 = .ok (.aload_n 0, 1) := by decide +kernel
theorem dX5_tollFor_12 : decode cX5_tollFor 12 = .ok (.getfield 46, 3) := by decide +kernel
theorem dX5_tollFor_15 : decode cX5_tollFor 15 = .ok (.ireturn, 1) := by decide +kernel
theorem dX5_opens_0 : decode cX5_opens 0 = .ok (.aload_n 0, 1) := by decide +kernel
theorem dX5_opens_1 : decode cX5_opens 1 = .ok (.getfield 27, 3) := by decide +kernel
theorem dX5_opens_4 : decode cX5_opens 4 = .ok (.iload_n 1, 1) := by decide +kernel
theorem dX5_opens_5 : decode cX5_opens 5 = .ok (.invokestatic 67, 3) := by decide +kernel
theorem dX5_opens_8 : decode cX5_opens 8 = .ok (.istore_n 3, 1) := by decide +kernel
theorem dX5_opens_9 : decode cX5_opens 9 = .ok (.iload_n 3, 1) := by decide +kernel
theorem dX5_opens_10 : decode cX5_opens 10 = .ok (.ifCond .le 21, 3) := by decide +kernel
theorem dX5_opens_13 : decode cX5_opens 13 = .ok (.iload_n 2, 1) := by decide +kernel
theorem dX5_opens_14 : decode cX5_opens 14 = .ok (.iload_n 3, 1) := by decide +kernel
theorem dX5_opens_15 : decode cX5_opens 15 = .ok (.irem, 1) := by decide +kernel
theorem dX5_opens_16 : decode cX5_opens 16 = .ok (.aload_n 0, 1) := by decide +kernel
theorem dX5_opens_17 : decode cX5_opens 17 = .ok (.getfield 30, 3) := by decide +kernel
theorem dX5_opens_20 : decode cX5_opens 20 = .ok (.iload_n 1, 1) := by decide +kernel
theorem dX5_opens_21 : decode cX5_opens 21 = .ok (.invokestatic 67, 3) := by decide +kernel
theorem dX5_opens_24 : decode cX5_opens 24 = .ok (.if_icmp .ne 7, 3) := by decide +kernel
theorem dX5_opens_27 : decode cX5_opens 27 = .ok (.iconst 1, 1) := by decide +kernel
theorem dX5_opens_28 : decode cX5_opens 28 = .ok (.goto 4, 3) := by decide +kernel
theorem dX5_opens_31 : decode cX5_opens 31 = .ok (.iconst 0, 1) := by decide +kernel
theorem dX5_opens_32 : decode cX5_opens 32 = .ok (.ireturn, 1) := by decide +kernel
theorem dX5_roomIn_0 : decode cX5_roomIn 0 = .ok (.iconst 0, 1) := by decide +kernel
theorem dX5_roomIn_1 : decode cX5_roomIn 1 = .ok (.istore_n 2, 1) := by decide +kernel
theorem dX5_roomIn_2 : decode cX5_roomIn 2 = .ok (.iconst 0, 1) := by decide +kernel
theorem dX5_roomIn_3 : decode cX5_roomIn 3 = .ok (.istore_n 3, 1) := by decide +kernel
theorem dX5_roomIn_4 : decode cX5_roomIn 4 = .ok (.iload_n 3, 1) := by decide +kernel
theorem dX5_roomIn_5 : decode cX5_roomIn 5 = .ok (.aload_n 0, 1) := by decide +kernel
theorem dX5_roomIn_6 : decode cX5_roomIn 6 = .ok (.getfield 52, 3) := by decide +kernel
theorem dX5_roomIn_9 : decode cX5_roomIn 9 = .ok (.if_icmp .ge 29, 3) := by decide +kernel
theorem dX5_roomIn_12 : decode cX5_roomIn 12 = .ok (.aload_n 0, 1) := by decide +kernel
theorem dX5_roomIn_13 : decode cX5_roomIn 13 = .ok (.iload_n 3, 1) := by decide +kernel
theorem dX5_roomIn_14 : decode cX5_roomIn 14 = .ok (.iload_n 1, 1) := by decide +kernel
theorem dX5_roomIn_15 : decode cX5_roomIn 15 = .ok (.invokevirtual 71, 3) := by decide +kernel
theorem dX5_roomIn_18 : decode cX5_roomIn 18 = .ok (.ifCond .eq 14, 3) := by decide +kernel
theorem dX5_roomIn_21 : decode cX5_roomIn 21 = .ok (.iload_n 2, 1) := by decide +kernel
theorem dX5_roomIn_22 : decode cX5_roomIn 22 = .ok (.aload_n 0, 1) := by decide +kernel
theorem dX5_roomIn_23 : decode cX5_roomIn 23 = .ok (.getfield 33, 3) := by decide +kernel
theorem dX5_roomIn_26 : decode cX5_roomIn 26 = .ok (.iload_n 3, 1) := by decide +kernel
theorem dX5_roomIn_27 : decode cX5_roomIn 27 = .ok (.invokestatic 67, 3) := by decide +kernel
theorem dX5_roomIn_30 : decode cX5_roomIn 30 = .ok (.iadd, 1) := by decide +kernel
theorem dX5_roomIn_31 : decode cX5_roomIn 31 = .ok (.istore_n 2, 1) := by decide +kernel
theorem dX5_roomIn_32 : decode cX5_roomIn 32 = .ok (.iinc 3 1, 3) := by decide +kernel
theorem dX5_roomIn_35 : decode cX5_roomIn 35 = .ok (.goto (-31), 3) := by decide +kernel
theorem dX5_roomIn_38 : decode cX5_roomIn 38 = .ok (.iload_n 2, 1) := by decide +kernel
theorem dX5_roomIn_39 : decode cX5_roomIn 39 = .ok (.ireturn, 1) := by decide +kernel
theorem dX6_init_0 : decode cX6_init 0 = .ok (.aload_n 0, 1) := by decide +kernel
theorem dX6_init_1 : decode cX6_init 1 = .ok (.invokespecial 3, 3) := by decide +kernel
theorem dX6_init_4 : decode cX6_init 4 = .ok (.aload_n 0, 1) := by decide +kernel
theorem dX6_init_5 : decode cX6_init 5 = .ok (.sipush 500, 3) := by decide +kernel
theorem dX6_init_8 : decode cX6_init 8 = .ok (.newarray .int, 2) := by decide +kernel
theorem dX6_init_10 : decode cX6_init 10 = .ok (.putfield 9, 3) := by decide +kernel
theorem dX6_init_13 : decode cX6_init 13 = .ok (.aload_n 0, 1) := by decide +kernel
theorem dX6_init_14 : decode cX6_init 14 = .ok (.iconst (-1), 1) := by decide +kernel
theorem dX6_init_15 : decode cX6_init 15 = .ok (.putfield 15, 3) := by decide +kernel
theorem dX6_init_18 : decode cX6_init 18 = .ok (.return_, 1) := by decide +kernel
theorem dX6_appendWord_0 : decode cX6_appendWord 0 = .ok (.bipush 24, 2) := by decide +kernel
theorem dX6_appendWord_2 : decode cX6_appendWord 2 = .ok (.istore_n 2, 1) := by decide +kernel
theorem dX6_appendWord_3 : decode cX6_appendWord 3 = .ok (.iload_n 2, 1) := by decide +kernel
theorem dX6_appendWord_4 : decode cX6_appendWord 4 = .ok (.ifCond .lt 37, 3) := by decide +kernel
theorem dX6_appendWord_7 : decode cX6_appendWord 7 = .ok (.aload_n 0, 1) := by decide +kernel
theorem dX6_appendWord_8 : decode cX6_appendWord 8 = .ok (.getfield 9, 3) := by decide +kernel
theorem dX6_appendWord_11 : decode cX6_appendWord 11 = .ok (.aload_n 0, 1) := by decide +kernel
theorem dX6_appendWord_12 : decode cX6_appendWord 12 = .ok (.getfield 19, 3) := by decide +kernel
theorem dX6_appendWord_15 : decode cX6_appendWord 15 = .ok (.iload_n 1, 1) := by decide +kernel
theorem dX6_appendWord_16 : decode cX6_appendWord 16 = .ok (.iload_n 2, 1) := by decide +kernel
theorem dX6_appendWord_17 : decode cX6_appendWord 17 = .ok (.iushr, 1) := by decide +kernel
theorem dX6_appendWord_18 : decode cX6_appendWord 18 = .ok (.sipush 255, 3) := by decide +kernel
theorem dX6_appendWord_21 : decode cX6_appendWord 21 = .ok (.iand, 1) := by decide +kernel
theorem dX6_appendWord_22 : decode cX6_appendWord 22 = .ok (.invokestatic 22, 3) := by decide +kernel
theorem dX6_appendWord_25 : decode cX6_appendWord 25 = .ok (.aload_n 0, 1) := by decide +kernel
theorem dX6_appendWord_26 : decode cX6_appendWord 26 = .ok (.dup, 1) := by decide +kernel
theorem dX6_appendWord_27 : decode cX6_appendWord 27 = .ok (.getfield 19, 3) := by decide +kernel
theorem dX6_appendWord_30 : decode cX6_appendWord 30 = .ok (.iconst 1, 1) := by decide +kernel
theorem dX6_appendWord_31 : decode cX6_appendWord 31 = .ok (.iadd, 1) := by decide +kernel
theorem dX6_appendWord_32 : decode cX6_appendWord 32 = .ok (.putfield 19, 3) := by decide +kernel
theorem dX6_appendWord_35 : decode cX6_appendWord 35 = .ok (.iinc 2 (-8), 3) := by decide +kernel
theorem dX6_appendWord_38 : decode cX6_appendWord 38 = .ok (.goto (-35), 3) := by decide +kernel
theorem dX6_appendWord_41 : decode cX6_appendWord 41 = .ok (.return_, 1) := by decide +kernel
theorem dX6_open_0 : decode cX6_open 0 = .ok (.aload_n 0, 1) := by decide +kernel
theorem dX6_open_1 : decode cX6_open 1 = .ok (.iconst 0, 1) := by decide +kernel
theorem dX6_open_2 : decode cX6_open 2 = .ok (.putfield 26, 3) := by decide +kernel
theorem dX6_open_5 : decode cX6_open 5 = .ok (.aload_n 0, 1) := by decide +kernel
theorem dX6_open_6 : decode cX6_open 6 = .ok (.iconst (-1), 1) := by decide +kernel
theorem dX6_open_7 : decode cX6_open 7 = .ok (.putfield 15, 3) := by decide +kernel
theorem dX6_open_10 : decode cX6_open 10 = .ok (.aload_n 0, 1) := by decide +kernel
theorem dX6_open_11 : decode cX6_open 11 = .ok (.iload_n 1, 1) := by decide +kernel
theorem dX6_open_12 : decode cX6_open 12 = .ok (.putfield 29, 3) := by decide +kernel
theorem dX6_open_15 : decode cX6_open 15 = .ok (.aload_n 0, 1) := by decide +kernel
theorem dX6_open_16 : decode cX6_open 16 = .ok (.iconst 0, 1) := by decide +kernel
theorem dX6_open_17 : decode cX6_open 17 = .ok (.putfield 32, 3) := by decide +kernel
theorem dX6_open_20 : decode cX6_open 20 = .ok (.aload_n 0, 1) := by decide +kernel
theorem dX6_open_21 : decode cX6_open 21 = .ok (.invokevirtual 35, 3) := by decide +kernel
theorem dX6_open_24 : decode cX6_open 24 = .ok (.return_, 1) := by decide +kernel
theorem dX6_hasFailed_0 : decode cX6_hasFailed 0 = .ok (.aload_n 0, 1) := by decide +kernel
theorem dX6_hasFailed_1 : decode cX6_hasFailed 1 = .ok (.getfield 26, 3) := by decide +kernel
theorem dX6_hasFailed_4 : decode cX6_hasFailed 4 = .ok (.ifCond .eq 7, 3) := by decide +kernel
theorem dX6_hasFailed_7 : decode cX6_hasFailed 7 = .ok (.iconst 1, 1) := by decide +kernel
theorem dX6_hasFailed_8 : decode cX6_hasFailed 8 = .ok (.goto 4, 3) := by decide +kernel
theorem dX6_hasFailed_11 : decode cX6_hasFailed 11 = .ok (.iconst 0, 1) := by decide +kernel
theorem dX6_hasFailed_12 : decode cX6_hasFailed 12 = .ok (.ireturn, 1) := by decide +kernel
theorem dX6_fail_0 : decode cX6_fail 0 = .ok (.aload_n 0, 1) := by decide +kernel
theorem dX6_fail_1 : decode cX6_fail 1 = .ok (.getfield 26, 3) := by decide +kernel
theorem dX6_fail_4 : decode cX6_fail 4 = .ok (.ifCond .ne 16, 3) := by decide +kernel
theorem dX6_fail_7 : decode cX6_fail 7 = .ok (.aload_n 0, 1) := by decide +kernel
theorem dX6_fail_8 : decode cX6_fail 8 = .ok (.iload_n 1, 1) := by decide +kernel
theorem dX6_fail_9 : decode cX6_fail 9 = .ok (.putfield 26, 3) := by decide +kernel
theorem dX6_fail_12 : decode cX6_fail 12 = .ok (.aload_n 0, 1) := by decide +kernel
theorem dX6_fail_13 : decode cX6_fail 13 = .ok (.aload_n 0, 1) := by decide +kernel
theorem dX6_fail_14 : decode cX6_fail 14 = .ok (.getfield 38, 3) := by decide +kernel
theorem dX6_fail_17 : decode cX6_fail 17 = .ok (.putfield 15, 3) := by decide +kernel
theorem dX6_fail_20 : decode cX6_fail 20 = .ok (.return_, 1) := by decide +kernel
theorem dX6_isAtEnd_0 : decode cX6_isAtEnd 0 = .ok (.aload_n 0, 1) := by decide +kernel
theorem dX6_isAtEnd_1 : decode cX6_isAtEnd 1 = .ok (.getfield 26, 3) := by decide +kernel
theorem dX6_isAtEnd_4 : decode cX6_isAtEnd 4 = .ok (.ifCond .ne 14, 3) := by decide +kernel
theorem dX6_isAtEnd_7 : decode cX6_isAtEnd 7 = .ok (.aload_n 0, 1) := by decide +kernel
theorem dX6_isAtEnd_8 : decode cX6_isAtEnd 8 = .ok (.getfield 41, 3) := by decide +kernel
theorem dX6_isAtEnd_11 : decode cX6_isAtEnd 11 = .ok (.ifCond .ne 7, 3) := by decide +kernel
theorem dX6_isAtEnd_14 : decode cX6_isAtEnd 14 = .ok (.iconst 1, 1) := by decide +kernel
theorem dX6_isAtEnd_15 : decode cX6_isAtEnd 15 = .ok (.goto 4, 3) := by decide +kernel
theorem dX6_isAtEnd_18 : decode cX6_isAtEnd 18 = .ok (.iconst 0, 1) := by decide +kernel
theorem dX6_isAtEnd_19 : decode cX6_isAtEnd 19 = .ok (.ireturn, 1) := by decide +kernel
theorem dX6_isAtWord_0 : decode cX6_isAtWord 0 = .ok (.aload_n 0, 1) := by decide +kernel
theorem dX6_isAtWord_1 : decode cX6_isAtWord 1 = .ok (.getfield 26, 3) := by decide +kernel
theorem dX6_isAtWord_4 : decode cX6_isAtWord 4 = .ok (.ifCond .ne 27, 3) := by decide +kernel
theorem dX6_isAtWord_7 : decode cX6_isAtWord 7 = .ok (.aload_n 0, 1) := by decide +kernel
theorem dX6_isAtWord_8 : decode cX6_isAtWord 8 = .ok (.getfield 41, 3) := by decide +kernel
theorem dX6_isAtWord_11 : decode cX6_isAtWord 11 = .ok (.iconst 1, 1) := by decide +kernel
theorem dX6_isAtWord_12 : decode cX6_isAtWord 12 = .ok (.if_icmp .ne 19, 3) := by decide +kernel
theorem dX6_isAtWord_15 : decode cX6_isAtWord 15 = .ok (.aload_n 0, 1) := by decide +kernel
theorem dX6_isAtWord_16 : decode cX6_isAtWord 16 = .ok (.getfield 32, 3) := by decide +kernel
theorem dX6_isAtWord_19 : decode cX6_isAtWord 19 = .ok (.aload_n 0, 1) := by decide +kernel
theorem dX6_isAtWord_20 : decode cX6_isAtWord 20 = .ok (.getfield 38, 3) := by decide +kernel
theorem dX6_isAtWord_23 : decode cX6_isAtWord 23 = .ok (.isub, 1) := by decide +kernel
theorem dX6_isAtWord_24 : decode cX6_isAtWord 24 = .ok (.aload_n 1, 1) := by decide +kernel
theorem dX6_isAtWord_25 : decode cX6_isAtWord 25 = .ok (.invokevirtual 44, 3) := by decide +kernel
theorem dX6_isAtWord_28 : decode cX6_isAtWord 28 = .ok (.if_icmp .eq 5, 3) := by decide +kernel
theorem dX6_isAtWord_31 : decode cX6_isAtWord 31 = .ok (.iconst 0, 1) := by decide +kernel
theorem dX6_isAtWord_32 : decode cX6_isAtWord 32 = .ok (.ireturn, 1) := by decide +kernel
theorem dX6_isAtWord_33 : decode cX6_isAtWord 33 = .ok (.iconst 0, 1) := by decide +kernel
theorem dX6_isAtWord_34 : decode cX6_isAtWord 34 = .ok (.istore_n 2, 1) := by decide +kernel
theorem dX6_isAtWord_35 : decode cX6_isAtWord 35 = .ok (.iload_n 2, 1) := by decide +kernel
theorem dX6_isAtWord_36 : decode cX6_isAtWord 36 = .ok (.aload_n 1, 1) := by decide +kernel
theorem dX6_isAtWord_37 : decode cX6_isAtWord 37 = .ok (.invokevirtual 44, 3) := by decide +kernel
theorem dX6_isAtWord_40 : decode cX6_isAtWord 40 = .ok (.if_icmp .ge 32, 3) := by decide +kernel
theorem dX6_isAtWord_43 : decode cX6_isAtWord 43 = .ok (.aload_n 0, 1) := by decide +kernel
theorem dX6_isAtWord_44 : decode cX6_isAtWord 44 = .ok (.getfield 9, 3) := by decide +kernel
theorem dX6_isAtWord_47 : decode cX6_isAtWord 47 = .ok (.aload_n 0, 1) := by decide +kernel
theorem dX6_isAtWord_48 : decode cX6_isAtWord 48 = .ok (.getfield 38, 3) := by decide +kernel
theorem dX6_isAtWord_51 : decode cX6_isAtWord 51 = .ok (.iload_n 2, 1) := by decide +kernel
theorem dX6_isAtWord_52 : decode cX6_isAtWord 52 = .ok (.iadd, 1) := by decide +kernel
theorem dX6_isAtWord_53 : decode cX6_isAtWord 53 = .ok (.invokestatic 50, 3) := by decide +kernel
theorem dX6_isAtWord_56 : decode cX6_isAtWord 56 = .ok (.aload_n 1, 1) := by decide +kernel
theorem dX6_isAtWord_57 : decode cX6_isAtWord 57 = .ok (.iload_n 2, 1) := by decide +kernel
theorem dX6_isAtWord_58 : decode cX6_isAtWord 58 = .ok (.invokevirtual 54, 3) := by decide +kernel
theorem dX6_isAtWord_61 : decode cX6_isAtWord 61 = .ok (.if_icmp .eq 5, 3) := by decide +kernel
theorem dX6_isAtWord_64 : decode cX6_isAtWord 64 = .ok (.iconst 0, 1) := by decide +kernel
theorem dX6_isAtWord_65 : decode cX6_isAtWord 65 = .ok (.ireturn, 1) := by decide +kernel
theorem dX6_isAtWord_66 : decode cX6_isAtWord 66 = .ok (.iinc 2 1, 3) := by decide +kernel
theorem dX6_isAtWord_69 : decode cX6_isAtWord 69 = .ok (.goto (-34), 3) := by decide +kernel
theorem dX6_isAtWord_72 : decode cX6_isAtWord 72 = .ok (.iconst 1, 1) := by decide +kernel
theorem dX6_isAtWord_73 : decode cX6_isAtWord 73 = .ok (.ireturn, 1) := by decide +kernel
theorem dX6_takeWord_0 : decode cX6_takeWord 0 = .ok (.aload_n 0, 1) := by decide +kernel
theorem dX6_takeWord_1 : decode cX6_takeWord 1 = .ok (.aload_n 1, 1) := by decide +kernel
theorem dX6_takeWord_2 : decode cX6_takeWord 2 = .ok (.invokevirtual 58, 3) := by decide +kernel
theorem dX6_takeWord_5 : decode cX6_takeWord 5 = .ok (.ifCond .eq 10, 3) := by decide +kernel
theorem dX6_takeWord_8 : decode cX6_takeWord 8 = .ok (.aload_n 0, 1) := by decide +kernel
theorem dX6_takeWord_9 : decode cX6_takeWord 9 = .ok (.invokevirtual 35, 3) := by decide +kernel
theorem dX6_takeWord_12 : decode cX6_takeWord 12 = .ok (.goto 8, 3) := by decide +kernel
theorem dX6_takeWord_15 : decode cX6_takeWord 15 = .ok (.aload_n 0, 1) := by decide +kernel
theorem dX6_takeWord_16 : decode cX6_takeWord 16 = .ok (.iconst 1, 1) := by decide +kernel
theorem dX6_takeWord_17 : decode cX6_takeWord 17 = .ok (.invokevirtual 62, 3) := by decide +kernel
theorem dX6_takeWord_20 : decode cX6_takeWord 20 = .ok (.return_, 1) := by decide +kernel
theorem dX6_takeEither_0 : decode cX6_takeEither 0 = .ok (.aload_n 0, 1) := by decide +kernel
theorem dX6_takeEither_1 : decode cX6_takeEither 1 = .ok (.aload_n 2, 1) := by decide +kernel
theorem dX6_takeEither_2 : decode cX6_takeEither 2 = .ok (.invokevirtual 58, 3) := by decide +kernel
theorem dX6_takeEither_5 : decode cX6_takeEither 5 = .ok (.istore_n 3, 1) := by decide +kernel
theorem dX6_takeEither_6 : decode cX6_takeEither 6 = .ok (.iload_n 3, 1) := by decide +kernel
theorem dX6_takeEither_7 : decode cX6_takeEither 7 = .ok (.ifCond .ne 11, 3) := by decide +kernel
theorem dX6_takeEither_10 : decode cX6_takeEither 10 = .ok (.aload_n 0, 1) := by decide +kernel
theorem dX6_takeEither_11 : decode cX6_takeEither 11 = .ok (.aload_n 1, 1) := by decide +kernel
theorem dX6_takeEither_12 : decode cX6_takeEither 12 = .ok (.invokevirtual 58, 3) := by decide +kernel
theorem dX6_takeEither_15 : decode cX6_takeEither 15 = .ok (.ifCond .eq 10, 3) := by decide +kernel
theorem dX6_takeEither_18 : decode cX6_takeEither 18 = .ok (.aload_n 0, 1) := by decide +kernel
theorem dX6_takeEither_19 : decode cX6_takeEither 19 = .ok (.invokevirtual 35, 3) := by decide +kernel
theorem dX6_takeEither_22 : decode cX6_takeEither 22 = .ok (.goto 8, 3) := by decide +kernel
theorem dX6_takeEither_25 : decode cX6_takeEither 25 = .ok (.aload_n 0, 1) := by decide +kernel
theorem dX6_takeEither_26 : decode cX6_takeEither 26 = .ok (.iconst 1, 1) := by decide +kernel
theorem dX6_takeEither_27 : decode cX6_takeEither 27 = .ok (.invokevirtual 62, 3) := by decide +kernel
theorem dX6_takeEither_30 : decode cX6_takeEither 30 = .ok (.iload_n 3, 1) := by decide +kernel
theorem dX6_takeEither_31 : decode cX6_takeEither 31 = .ok (.ifCond .eq 7, 3) := by decide +kernel
theorem dX6_takeEither_34 : decode cX6_takeEither 34 = .ok (.iconst 1, 1) := by decide +kernel
theorem dX6_takeEither_35 : decode cX6_takeEither 35 = .ok (.goto 4, 3) := by decide +kernel
theorem dX6_takeEither_38 : decode cX6_takeEither 38 = .ok (.iconst 0, 1) := by decide +kernel
theorem dX6_takeEither_39 : decode cX6_takeEither 39 = .ok (.ireturn, 1) := by decide +kernel
theorem dX6_takeSemicolon_0 : decode cX6_takeSemicolon 0 = .ok (.aload_n 0, 1) := by decide +kernel
theorem dX6_takeSemicolon_1 : decode cX6_takeSemicolon 1 = .ok (.getfield 41, 3) := by decide +kernel
theorem dX6_takeSemicolon_4 : decode cX6_takeSemicolon 4 = .ok (.iconst 3, 1) := by decide +kernel
theorem dX6_takeSemicolon_5 : decode cX6_takeSemicolon 5 = .ok (.if_icmp .ne 10, 3) := by decide +kernel
theorem dX6_takeSemicolon_8 : decode cX6_takeSemicolon 8 = .ok (.aload_n 0, 1) := by decide +kernel
theorem dX6_takeSemicolon_9 : decode cX6_takeSemicolon 9 = .ok (.invokevirtual 35, 3) := by decide +kernel
theorem dX6_takeSemicolon_12 : decode cX6_takeSemicolon 12 = .ok (.goto 8, 3) := by decide +kernel
theorem dX6_takeSemicolon_15 : decode cX6_takeSemicolon 15 = .ok (.aload_n 0, 1) := by decide +kernel
theorem dX6_takeSemicolon_16 : decode cX6_takeSemicolon 16 = .ok (.iconst 1, 1) := by decide +kernel
theorem dX6_takeSemicolon_17 : decode cX6_takeSemicolon 17 = .ok (.invokevirtual 62, 3) := by decide +kernel
theorem dX6_takeSemicolon_20 : decode cX6_takeSemicolon 20 = .ok (.return_, 1) := by decide +kernel
theorem dX6_takeNumber_0 : decode cX6_takeNumber 0 = .ok (.aload_n 0, 1) := by decide +kernel
theorem dX6_takeNumber_1 : decode cX6_takeNumber 1 = .ok (.getfield 66, 3) := by decide +kernel
theorem dX6_takeNumber_4 : decode cX6_takeNumber 4 = .ok (.istore_n 3, 1) := by decide +kernel
theorem dX6_takeNumber_5 : decode cX6_takeNumber 5 = .ok (.aload_n 0, 1) := by decide +kernel
theorem dX6_takeNumber_6 : decode cX6_takeNumber 6 = .ok (.getfield 41, 3) := by decide +kernel
theorem dX6_takeNumber_9 : decode cX6_takeNumber 9 = .ok (.iconst 2, 1) := by decide +kernel
theorem dX6_takeNumber_10 : decode cX6_takeNumber 10 = .ok (.if_icmp .eq 11, 3) := by decide +kernel
theorem dX6_takeNumber_13 : decode cX6_takeNumber 13 = .ok (.aload_n 0, 1) := by decide +kernel
theorem dX6_takeNumber_14 : decode cX6_takeNumber 14 = .ok (.iconst 1, 1) := by decide +kernel
theorem dX6_takeNumber_15 : decode cX6_takeNumber 15 = .ok (.invokevirtual 62, 3) := by decide +kernel
theorem dX6_takeNumber_18 : decode cX6_takeNumber 18 = .ok (.goto 25, 3) := by decide +kernel
theorem dX6_takeNumber_21 : decode cX6_takeNumber 21 = .ok (.iload_n 3, 1) := by decide +kernel
theorem dX6_takeNumber_22 : decode cX6_takeNumber 22 = .ok (.iload_n 1, 1) := by decide +kernel
theorem dX6_takeNumber_23 : decode cX6_takeNumber 23 = .ok (.if_icmp .lt 8, 3) := by decide +kernel
theorem dX6_takeNumber_26 : decode cX6_takeNumber 26 = .ok (.iload_n 3, 1) := by decide +kernel
theorem dX6_takeNumber_27 : decode cX6_takeNumber 27 = .ok (.iload_n 2, 1) := by decide +kernel
theorem dX6_takeNumber_28 : decode cX6_takeNumber 28 = .ok (.if_icmp .le 11, 3) := by decide +kernel
theorem dX6_takeNumber_31 : decode cX6_takeNumber 31 = .ok (.aload_n 0, 1) := by decide +kernel
theorem dX6_takeNumber_32 : decode cX6_takeNumber 32 = .ok (.iconst 2, 1) := by decide +kernel
theorem dX6_takeNumber_33 : decode cX6_takeNumber 33 = .ok (.invokevirtual 62, 3) := by decide +kernel
theorem dX6_takeNumber_36 : decode cX6_takeNumber 36 = .ok (.goto 7, 3) := by decide +kernel
theorem dX6_takeNumber_39 : decode cX6_takeNumber 39 = .ok (.aload_n 0, 1) := by decide +kernel
theorem dX6_takeNumber_40 : decode cX6_takeNumber 40 = .ok (.invokevirtual 35, 3) := by decide +kernel
theorem dX6_takeNumber_43 : decode cX6_takeNumber 43 = .ok (.iload_n 3, 1) := by decide +kernel
theorem dX6_takeNumber_44 : decode cX6_takeNumber 44 = .ok (.ireturn, 1) := by decide +kernel
theorem dX6_advance_0 : decode cX6_advance 0 = .ok (.aload_n 0, 1) := by decide +kernel
theorem dX6_advance_1 : decode cX6_advance 1 = .ok (.getfield 26, 3) := by decide +kernel
theorem dX6_advance_4 : decode cX6_advance 4 = .ok (.ifCond .eq 4, 3) := by decide +kernel
theorem dX6_advance_7 : decode cX6_advance 7 = .ok (.return_, 1) := by decide +kernel
theorem dX6_advance_8 : decode cX6_advance 8 = .ok (.aload_n 0, 1) := by decide +kernel
theorem dX6_advance_9 : decode cX6_advance 9 = .ok (.aload_n 0, 1) := by decide +kernel
theorem dX6_advance_10 : decode cX6_advance 10 = .ok (.getfield 32, 3) := by decide +kernel
theorem dX6_advance_13 : decode cX6_advance 13 = .ok (.putfield 38, 3) := by decide +kernel
theorem dX6_advance_16 : decode cX6_advance 16 = .ok (.aload_n 0, 1) := by decide +kernel
theorem dX6_advance_17 : decode cX6_advance 17 = .ok (.getfield 38, 3) := by decide +kernel
theorem dX6_advance_20 : decode cX6_advance 20 = .ok (.aload_n 0, 1) := by decide +kernel
theorem dX6_advance_21 : decode cX6_advance 21 = .ok (.getfield 29, 3) := by decide +kernel
theorem dX6_advance_24 : decode cX6_advance 24 = .ok (.if_icmp .ge 33, 3) := by decide +kernel
theorem dX6_advance_27 : decode cX6_advance 27 = .ok (.aload_n 0, 1) := by decide +kernel
theorem dX6_advance_28 : decode cX6_advance 28 = .ok (.getfield 9, 3) := by decide +kernel
theorem dX6_advance_31 : decode cX6_advance 31 = .ok (.aload_n 0, 1) := by decide +kernel
theorem dX6_advance_32 : decode cX6_advance 32 = .ok (.getfield 38, 3) := by decide +kernel
theorem dX6_advance_35 : decode cX6_advance 35 = .ok (.invokestatic 50, 3) := by decide +kernel
theorem dX6_advance_38 : decode cX6_advance 38 = .ok (.invokestatic 69, 3) := by decide +kernel
theorem dX6_advance_41 : decode cX6_advance 41 = .ok (.ifCond .eq 16, 3) := by decide +kernel
theorem dX6_advance_44 : decode cX6_advance 44 = .ok (.aload_n 0, 1) := by decide +kernel
theorem dX6_advance_45 : decode cX6_advance 45 = .ok (.dup, 1) := by decide +kernel
theorem dX6_advance_46 : decode cX6_advance 46 = .ok (.getfield 38, 3) := by decide +kernel
theorem dX6_advance_49 : decode cX6_advance 49 = .ok (.iconst 1, 1) := by decide +kernel
theorem dX6_advance_50 : decode cX6_advance 50 = .ok (.iadd, 1) := by decide +kernel
theorem dX6_advance_51 : decode cX6_advance 51 = .ok (.putfield 38, 3) := by decide +kernel
theorem dX6_advance_54 : decode cX6_advance 54 = .ok (.goto (-38), 3) := by decide +kernel
theorem dX6_advance_57 : decode cX6_advance 57 = .ok (.aload_n 0, 1) := by decide +kernel
theorem dX6_advance_58 : decode cX6_advance 58 = .ok (.aload_n 0, 1) := by decide +kernel
theorem dX6_advance_59 : decode cX6_advance 59 = .ok (.getfield 38, 3) := by decide +kernel
theorem dX6_advance_62 : decode cX6_advance 62 = .ok (.putfield 32, 3) := by decide +kernel
theorem dX6_advance_65 : decode cX6_advance 65 = .ok (.aload_n 0, 1) := by decide +kernel
theorem dX6_advance_66 : decode cX6_advance 66 = .ok (.getfield 38, 3) := by decide +kernel
theorem dX6_advance_69 : decode cX6_advance 69 = .ok (.aload_n 0, 1) := by decide +kernel
theorem dX6_advance_70 : decode cX6_advance 70 = .ok (.getfield 29, 3) := by decide +kernel
theorem dX6_advance_73 : decode cX6_advance 73 = .ok (.if_icmp .lt 11, 3) := by decide +kernel
theorem dX6_advance_76 : decode cX6_advance 76 = .ok (.aload_n 0, 1) := by decide +kernel
theorem dX6_advance_77 : decode cX6_advance 77 = .ok (.iconst 0, 1) := by decide +kernel
theorem dX6_advance_78 : decode cX6_advance 78 = .ok (.putfield 41, 3) := by decide +kernel
theorem dX6_advance_81 : decode cX6_advance 81 = .ok (.goto 86, 3) := by decide +kernel
theorem dX6_advance_84 : decode cX6_advance 84 = .ok (.aload_n 0, 1) := by decide +kernel
theorem dX6_advance_85 : decode cX6_advance 85 = .ok (.getfield 9, 3) := by decide +kernel
theorem dX6_advance_88 : decode cX6_advance 88 = .ok (.aload_n 0, 1) := by decide +kernel
theorem dX6_advance_89 : decode cX6_advance 89 = .ok (.getfield 38, 3) := by decide +kernel
theorem dX6_advance_92 : decode cX6_advance 92 = .ok (.invokestatic 50, 3) := by decide +kernel
theorem dX6_advance_95 : decode cX6_advance 95 = .ok (.invokestatic 73, 3) := by decide +kernel
theorem dX6_advance_98 : decode cX6_advance 98 = .ok (.ifCond .eq 10, 3) := by decide +kernel
theorem dX6_advance_101 : decode cX6_advance 101 = .ok (.aload_n 0, 1) := by decide +kernel
theorem dX6_advance_102 : decode cX6_advance 102 = .ok (.invokevirtual 76, 3) := by decide +kernel
theorem dX6_advance_105 : decode cX6_advance 105 = .ok (.goto 62, 3) := by decide +kernel
theorem dX6_advance_108 : decode cX6_advance 108 = .ok (.aload_n 0, 1) := by decide +kernel
theorem dX6_advance_109 : decode cX6_advance 109 = .ok (.getfield 9, 3) := by decide +kernel
theorem dX6_advance_112 : decode cX6_advance 112 = .ok (.aload_n 0, 1) := by decide +kernel
theorem dX6_advance_113 : decode cX6_advance 113 = .ok (.getfield 38, 3) := by decide +kernel
theorem dX6_advance_116 : decode cX6_advance 116 = .ok (.invokestatic 50, 3) := by decide +kernel
theorem dX6_advance_119 : decode cX6_advance 119 = .ok (.invokestatic 79, 3) := by decide +kernel
theorem dX6_advance_122 : decode cX6_advance 122 = .ok (.ifCond .eq 10, 3) := by decide +kernel
theorem dX6_advance_125 : decode cX6_advance 125 = .ok (.aload_n 0, 1) := by decide +kernel
theorem dX6_advance_126 : decode cX6_advance 126 = .ok (.invokevirtual 82, 3) := by decide +kernel
theorem dX6_advance_129 : decode cX6_advance 129 = .ok (.goto 38, 3) := by decide +kernel
theorem dX6_advance_132 : decode cX6_advance 132 = .ok (.aload_n 0, 1) := by decide +kernel
theorem dX6_advance_133 : decode cX6_advance 133 = .ok (.aload_n 0, 1) := by decide +kernel
theorem dX6_advance_134 : decode cX6_advance 134 = .ok (.getfield 9, 3) := by decide +kernel
theorem dX6_advance_137 : decode cX6_advance 137 = .ok (.aload_n 0, 1) := by decide +kernel
theorem dX6_advance_138 : decode cX6_advance 138 = .ok (.getfield 38, 3) := by decide +kernel
theorem dX6_advance_141 : decode cX6_advance 141 = .ok (.invokestatic 50, 3) := by decide +kernel
theorem dX6_advance_144 : decode cX6_advance 144 = .ok (.bipush 59, 2) := by decide +kernel
theorem dX6_advance_146 : decode cX6_advance 146 = .ok (.if_icmp .ne 7, 3) := by decide +kernel
theorem dX6_advance_149 : decode cX6_advance 149 = .ok (.iconst 3, 1) := by decide +kernel
theorem dX6_advance_150 : decode cX6_advance 150 = .ok (.goto 4, 3) := by decide +kernel
theorem dX6_advance_153 : decode cX6_advance 153 = .ok (.iconst 4, 1) := by decide +kernel
theorem dX6_advance_154 : decode cX6_advance 154 = .ok (.putfield 41, 3) := by decide +kernel
theorem dX6_advance_157 : decode cX6_advance 157 = .ok (.aload_n 0, 1) := by decide +kernel
theorem dX6_advance_158 : decode cX6_advance 158 = .ok (.dup, 1) := by decide +kernel
theorem dX6_advance_159 : decode cX6_advance 159 = .ok (.getfield 32, 3) := by decide +kernel
theorem dX6_advance_162 : decode cX6_advance 162 = .ok (.iconst 1, 1) := by decide +kernel
theorem dX6_advance_163 : decode cX6_advance 163 = .ok (.iadd, 1) := by decide +kernel
theorem dX6_advance_164 : decode cX6_advance 164 = .ok (.putfield 32, 3) := by decide +kernel
theorem dX6_advance_167 : decode cX6_advance 167 = .ok (.return_, 1) := by decide +kernel
theorem dX6_scanWord_0 : decode cX6_scanWord 0 = .ok (.aload_n 0, 1) := by decide +kernel
theorem dX6_scanWord_1 : decode cX6_scanWord 1 = .ok (.iconst 1, 1) := by decide +kernel
theorem dX6_scanWord_2 : decode cX6_scanWord 2 = .ok (.putfield 41, 3) := by decide +kernel
theorem dX6_scanWord_5 : decode cX6_scanWord 5 = .ok (.aload_n 0, 1) := by decide +kernel
theorem dX6_scanWord_6 : decode cX6_scanWord 6 = .ok (.getfield 32, 3) := by decide +kernel
theorem dX6_scanWord_9 : decode cX6_scanWord 9 = .ok (.aload_n 0, 1) := by decide +kernel
theorem dX6_scanWord_10 : decode cX6_scanWord 10 = .ok (.getfield 29, 3) := by decide +kernel
theorem dX6_scanWord_13 : decode cX6_scanWord 13 = .ok (.if_icmp .ge 33, 3) := by decide +kernel
theorem dX6_scanWord_16 : decode cX6_scanWord 16 = .ok (.aload_n 0, 1) := by decide +kernel
theorem dX6_scanWord_17 : decode cX6_scanWord 17 = .ok (.getfield 9, 3) := by decide +kernel
theorem dX6_scanWord_20 : decode cX6_scanWord 20 = .ok (.aload_n 0, 1) := by decide +kernel
theorem dX6_scanWord_21 : decode cX6_scanWord 21 = .ok (.getfield 32, 3) := by decide +kernel
theorem dX6_scanWord_24 : decode cX6_scanWord 24 = .ok (.invokestatic 50, 3) := by decide +kernel
theorem dX6_scanWord_27 : decode cX6_scanWord 27 = .ok (.invokestatic 73, 3) := by decide +kernel
theorem dX6_scanWord_30 : decode cX6_scanWord 30 = .ok (.ifCond .eq 16, 3) := by decide +kernel
theorem dX6_scanWord_33 : decode cX6_scanWord 33 = .ok (.aload_n 0, 1) := by decide +kernel
theorem dX6_scanWord_34 : decode cX6_scanWord 34 = .ok (.dup, 1) := by decide +kernel
theorem dX6_scanWord_35 : decode cX6_scanWord 35 = .ok (.getfield 32, 3) := by decide +kernel
theorem dX6_scanWord_38 : decode cX6_scanWord 38 = .ok (.iconst 1, 1) := by decide +kernel
theorem dX6_scanWord_39 : decode cX6_scanWord 39 = .ok (.iadd, 1) := by decide +kernel
theorem dX6_scanWord_40 : decode cX6_scanWord 40 = .ok (.putfield 32, 3) := by decide +kernel
theorem dX6_scanWord_43 : decode cX6_scanWord 43 = .ok (.goto (-38), 3) := by decide +kernel
theorem dX6_scanWord_46 : decode cX6_scanWord 46 = .ok (.return_, 1) := by decide +kernel
theorem dX6_scanNumber_0 : decode cX6_scanNumber 0 = .ok (.aload_n 0, 1) := by decide +kernel
theorem dX6_scanNumber_1 : decode cX6_scanNumber 1 = .ok (.iconst 2, 1) := by decide +kernel
theorem dX6_scanNumber_2 : decode cX6_scanNumber 2 = .ok (.putfield 41, 3) := by decide +kernel
theorem dX6_scanNumber_5 : decode cX6_scanNumber 5 = .ok (.aload_n 0, 1) := by decide +kernel
theorem dX6_scanNumber_6 : decode cX6_scanNumber 6 = .ok (.iconst 0, 1) := by decide +kernel
theorem dX6_scanNumber_7 : decode cX6_scanNumber 7 = .ok (.putfield 66, 3) := by decide +kernel
theorem dX6_scanNumber_10 : decode cX6_scanNumber 10 = .ok (.aload_n 0, 1) := by decide +kernel
theorem dX6_scanNumber_11 : decode cX6_scanNumber 11 = .ok (.getfield 32, 3) := by decide +kernel
theorem dX6_scanNumber_14 : decode cX6_scanNumber 14 = .ok (.aload_n 0, 1) := by decide +kernel
theorem dX6_scanNumber_15 : decode cX6_scanNumber 15 = .ok (.getfield 29, 3) := by decide +kernel
theorem dX6_scanNumber_18 : decode cX6_scanNumber 18 = .ok (.if_icmp .ge 65, 3) := by decide +kernel
theorem dX6_scanNumber_21 : decode cX6_scanNumber 21 = .ok (.aload_n 0, 1) := by decide +kernel
theorem dX6_scanNumber_22 : decode cX6_scanNumber 22 = .ok (.getfield 9, 3) := by decide +kernel
theorem dX6_scanNumber_25 : decode cX6_scanNumber 25 = .ok (.aload_n 0, 1) := by decide +kernel
theorem dX6_scanNumber_26 : decode cX6_scanNumber 26 = .ok (.getfield 32, 3) := by decide +kernel
theorem dX6_scanNumber_29 : decode cX6_scanNumber 29 = .ok (.invokestatic 50, 3) := by decide +kernel
theorem dX6_scanNumber_32 : decode cX6_scanNumber 32 = .ok (.invokestatic 79, 3) := by decide +kernel
theorem dX6_scanNumber_35 : decode cX6_scanNumber 35 = .ok (.ifCond .eq 48, 3) := by decide +kernel
theorem dX6_scanNumber_38 : decode cX6_scanNumber 38 = .ok (.aload_n 0, 1) := by decide +kernel
theorem dX6_scanNumber_39 : decode cX6_scanNumber 39 = .ok (.sipush 1000, 3) := by decide +kernel
theorem dX6_scanNumber_42 : decode cX6_scanNumber 42 = .ok (.aload_n 0, 1) := by decide +kernel
theorem dX6_scanNumber_43 : decode cX6_scanNumber 43 = .ok (.getfield 66, 3) := by decide +kernel
theorem dX6_scanNumber_46 : decode cX6_scanNumber 46 = .ok (.bipush 10, 2) := by decide +kernel
theorem dX6_scanNumber_48 : decode cX6_scanNumber 48 = .ok (.imul, 1) := by decide +kernel
theorem dX6_scanNumber_49 : decode cX6_scanNumber 49 = .ok (.aload_n 0, 1) := by decide +kernel
theorem dX6_scanNumber_50 : decode cX6_scanNumber 50 = .ok (.getfield 9, 3) := by decide +kernel
theorem dX6_scanNumber_53 : decode cX6_scanNumber 53 = .ok (.aload_n 0, 1) := by decide +kernel
theorem dX6_scanNumber_54 : decode cX6_scanNumber 54 = .ok (.getfield 32, 3) := by decide +kernel
theorem dX6_scanNumber_57 : decode cX6_scanNumber 57 = .ok (.invokestatic 50, 3) := by decide +kernel
theorem dX6_scanNumber_60 : decode cX6_scanNumber 60 = .ok (.iadd, 1) := by decide +kernel
theorem dX6_scanNumber_61 : decode cX6_scanNumber 61 = .ok (.bipush 48, 2) := by decide +kernel
theorem dX6_scanNumber_63 : decode cX6_scanNumber 63 = .ok (.isub, 1) := by decide +kernel
theorem dX6_scanNumber_64 : decode cX6_scanNumber 64 = .ok (.invokestatic 85, 3) := by decide +kernel
theorem dX6_scanNumber_67 : decode cX6_scanNumber 67 = .ok (.putfield 66, 3) := by decide +kernel
theorem dX6_scanNumber_70 : decode cX6_scanNumber 70 = .ok (.aload_n 0, 1) := by decide +kernel
theorem dX6_scanNumber_71 : decode cX6_scanNumber 71 = .ok (.dup, 1) := by decide +kernel
theorem dX6_scanNumber_72 : decode cX6_scanNumber 72 = .ok (.getfield 32, 3) := by decide +kernel
theorem dX6_scanNumber_75 : decode cX6_scanNumber 75 = .ok (.iconst 1, 1) := by decide +kernel
theorem dX6_scanNumber_76 : decode cX6_scanNumber 76 = .ok (.iadd, 1) := by decide +kernel
theorem dX6_scanNumber_77 : decode cX6_scanNumber 77 = .ok (.putfield 32, 3) := by decide +kernel
theorem dX6_scanNumber_80 : decode cX6_scanNumber 80 = .ok (.goto (-70), 3) := by decide +kernel
theorem dX6_scanNumber_83 : decode cX6_scanNumber 83 = .ok (.return_, 1) := by decide +kernel
theorem dX6_isBlank_0 : decode cX6_isBlank 0 = .ok (.iload_n 0, 1) := by decide +kernel
theorem dX6_isBlank_1 : decode cX6_isBlank 1 = .ok (.bipush 32, 2) := by decide +kernel
theorem dX6_isBlank_3 : decode cX6_isBlank 3 = .ok (.if_icmp .eq 9, 3) := by decide +kernel
theorem dX6_isBlank_6 : decode cX6_isBlank 6 = .ok (.iload_n 0, 1) := by decide +kernel
theorem dX6_isBlank_7 : decode cX6_isBlank 7 = .ok (.bipush 10, 2) := by decide +kernel
theorem dX6_isBlank_9 : decode cX6_isBlank 9 = .ok (.if_icmp .ne 7, 3) := by decide +kernel
theorem dX6_isBlank_12 : decode cX6_isBlank 12 = .ok (.iconst 1, 1) := by decide +kernel
theorem dX6_isBlank_13 : decode cX6_isBlank 13 = .ok (.goto 4, 3) := by decide +kernel
theorem dX6_isBlank_16 : decode cX6_isBlank 16 = .ok (.iconst 0, 1) := by decide +kernel
theorem dX6_isBlank_17 : decode cX6_isBlank 17 = .ok (.ireturn, 1) := by decide +kernel
theorem dX6_isLetter_0 : decode cX6_isLetter 0 = .ok (.iload_n 0, 1) := by decide +kernel
theorem dX6_isLetter_1 : decode cX6_isLetter 1 = .ok (.bipush 97, 2) := by decide +kernel
theorem dX6_isLetter_3 : decode cX6_isLetter 3 = .ok (.if_icmp .lt 13, 3) := by decide +kernel
theorem dX6_isLetter_6 : decode cX6_isLetter 6 = .ok (.iload_n 0, 1) := by decide +kernel
theorem dX6_isLetter_7 : decode cX6_isLetter 7 = .ok (.bipush 122, 2) := by decide +kernel
theorem dX6_isLetter_9 : decode cX6_isLetter 9 = .ok (.if_icmp .gt 7, 3) := by decide +kernel
theorem dX6_isLetter_12 : decode cX6_isLetter 12 = .ok (.iconst 1, 1) := by decide +kernel
theorem dX6_isLetter_13 : decode cX6_isLetter 13 = .ok (.goto 4, 3) := by decide +kernel
theorem dX6_isLetter_16 : decode cX6_isLetter 16 = .ok (.iconst 0, 1) := by decide +kernel
theorem dX6_isLetter_17 : decode cX6_isLetter 17 = .ok (.ireturn, 1) := by decide +kernel
theorem dX6_isDigit_0 : decode cX6_isDigit 0 = .ok (.iload_n 0, 1) := by decide +kernel
theorem dX6_isDigit_1 : decode cX6_isDigit 1 = .ok (.bipush 48, 2) := by decide +kernel
theorem dX6_isDigit_3 : decode cX6_isDigit 3 = .ok (.if_icmp .lt 13, 3) := by decide +kernel
theorem dX6_isDigit_6 : decode cX6_isDigit 6 = .ok (.iload_n 0, 1) := by decide +kernel
theorem dX6_isDigit_7 : decode cX6_isDigit 7 = .ok (.bipush 57, 2) := by decide +kernel
theorem dX6_isDigit_9 : decode cX6_isDigit 9 = .ok (.if_icmp .gt 7, 3) := by decide +kernel
theorem dX6_isDigit_12 : decode cX6_isDigit 12 = .ok (.iconst 1, 1) := by decide +kernel
theorem dX6_isDigit_13 : decode cX6_isDigit 13 = .ok (.goto 4, 3) := by decide +kernel
theorem dX6_isDigit_16 : decode cX6_isDigit 16 = .ok (.iconst 0, 1) := by decide +kernel
theorem dX6_isDigit_17 : decode cX6_isDigit 17 = .ok (.ireturn, 1) := by decide +kernel
theorem dX7_spelledIn_0 : decode cX7_spelledIn 0 = .ok (.iconst 0, 1) := by decide +kernel
theorem dX7_spelledIn_1 : decode cX7_spelledIn 1 = .ok (.istore_n 1, 1) := by decide +kernel
theorem dX7_spelledIn_2 : decode cX7_spelledIn 2 = .ok (.iload_n 1, 1) := by decide +kernel
theorem dX7_spelledIn_3 : decode cX7_spelledIn 3 = .ok (.getstatic 69, 3) := by decide +kernel
theorem dX7_spelledIn_6 : decode cX7_spelledIn 6 = .ok (.arraylength, 1) := by decide +kernel
theorem dX7_spelledIn_7 : decode cX7_spelledIn 7 = .ok (.if_icmp .ge 32, 3) := by decide +kernel
theorem dX7_spelledIn_10 : decode cX7_spelledIn 10 = .ok (.getstatic 69, 3) := by decide +kernel
theorem dX7_spelledIn_13 : decode cX7_spelledIn 13 = .ok (.iload_n 1, 1) := by decide +kernel
theorem dX7_spelledIn_14 : decode cX7_spelledIn 14 = .ok (.aaload, 1) := by decide +kernel
theorem dX7_spelledIn_15 : decode cX7_spelledIn 15 = .ok (.astore_n 2, 1) := by decide +kernel
theorem dX7_spelledIn_16 : decode cX7_spelledIn 16 = .ok (.aload_n 2, 1) := by decide +kernel
theorem dX7_spelledIn_17 : decode cX7_spelledIn 17 = .ok (.ifnull 16, 3) := by decide +kernel
theorem dX7_spelledIn_20 : decode cX7_spelledIn 20 = .ok (.aload_n 0, 1) := by decide +kernel
theorem dX7_spelledIn_21 : decode cX7_spelledIn 21 = .ok (.aload_n 2, 1) := by decide +kernel
theorem dX7_spelledIn_22 : decode cX7_spelledIn 22 = .ok (.getfield 52, 3) := by decide +kernel
theorem dX7_spelledIn_25 : decode cX7_spelledIn 25 = .ok (.invokevirtual 72, 3) := by decide +kernel
theorem dX7_spelledIn_28 : decode cX7_spelledIn 28 = .ok (.ifCond .eq 5, 3) := by decide +kernel
theorem dX7_spelledIn_31 : decode cX7_spelledIn 31 = .ok (.aload_n 2, 1) := by decide +kernel
theorem dX7_spelledIn_32 : decode cX7_spelledIn 32 = .ok (.areturn, 1) := by decide +kernel
theorem dX7_spelledIn_33 : decode cX7_spelledIn 33 = .ok (.iinc 1 1, 3) := by decide +kernel
theorem dX7_spelledIn_36 : decode cX7_spelledIn 36 = .ok (.goto (-34), 3) := by decide +kernel
theorem dX7_spelledIn_39 : decode cX7_spelledIn 39 = .ok (.aconst_null, 1) := by decide +kernel
theorem dX7_spelledIn_40 : decode cX7_spelledIn 40 = .ok (.areturn, 1) := by decide +kernel
theorem dX7_lowest_0 : decode cX7_lowest 0 = .ok (.iload_n 1, 1) := by decide +kernel
theorem dX7_lowest_1 : decode cX7_lowest 1 = .ok (.aload_n 0, 1) := by decide +kernel
theorem dX7_lowest_2 : decode cX7_lowest 2 = .ok (.getfield 56, 3) := by decide +kernel
theorem dX7_lowest_5 : decode cX7_lowest 5 = .ok (.if_icmp .ge 7, 3) := by decide +kernel
theorem dX7_lowest_8 : decode cX7_lowest 8 = .ok (.iconst 0, 1) := by decide +kernel
theorem dX7_lowest_9 : decode cX7_lowest 9 = .ok (.goto 7, 3) := by decide +kernel
theorem dX7_lowest_12 : decode cX7_lowest 12 = .ok (.aload_n 0, 1) := by decide +kernel
theorem dX7_lowest_13 : decode cX7_lowest 13 = .ok (.getfield 63, 3) := by decide +kernel
theorem dX7_lowest_16 : decode cX7_lowest 16 = .ok (.ireturn, 1) := by decide +kernel
theorem dX7_highest_0 : decode cX7_highest 0 = .ok (.iload_n 1, 1) := by decide +kernel
theorem dX7_highest_1 : decode cX7_highest 1 = .ok (.aload_n 0, 1) := by decide +kernel
theorem dX7_highest_2 : decode cX7_highest 2 = .ok (.getfield 56, 3) := by decide +kernel
theorem dX7_highest_5 : decode cX7_highest 5 = .ok (.if_icmp .ge 8, 3) := by decide +kernel
theorem dX7_highest_8 : decode cX7_highest 8 = .ok (.bipush 9, 2) := by decide +kernel
theorem dX7_highest_10 : decode cX7_highest 10 = .ok (.goto 7, 3) := by decide +kernel
theorem dX7_highest_13 : decode cX7_highest 13 = .ok (.aload_n 0, 1) := by decide +kernel
theorem dX7_highest_14 : decode cX7_highest 14 = .ok (.getfield 66, 3) := by decide +kernel
theorem dX7_highest_17 : decode cX7_highest 17 = .ok (.ireturn, 1) := by decide +kernel
theorem dX7_allows_0 : decode cX7_allows 0 = .ok (.iload_n 1, 1) := by decide +kernel
theorem dX7_allows_1 : decode cX7_allows 1 = .ok (.aload_n 0, 1) := by decide +kernel
theorem dX7_allows_2 : decode cX7_allows 2 = .ok (.getfield 63, 3) := by decide +kernel
theorem dX7_allows_5 : decode cX7_allows 5 = .ok (.if_icmp .lt 15, 3) := by decide +kernel
theorem dX7_allows_8 : decode cX7_allows 8 = .ok (.iload_n 1, 1) := by decide +kernel
theorem dX7_allows_9 : decode cX7_allows 9 = .ok (.aload_n 0, 1) := by decide +kernel
theorem dX7_allows_10 : decode cX7_allows 10 = .ok (.getfield 66, 3) := by decide +kernel
theorem dX7_allows_13 : decode cX7_allows 13 = .ok (.if_icmp .gt 7, 3) := by decide +kernel
theorem dX7_allows_16 : decode cX7_allows 16 = .ok (.iconst 1, 1) := by decide +kernel
theorem dX7_allows_17 : decode cX7_allows 17 = .ok (.goto 4, 3) := by decide +kernel
theorem dX7_allows_20 : decode cX7_allows 20 = .ok (.iconst 0, 1) := by decide +kernel
theorem dX7_allows_21 : decode cX7_allows 21 = .ok (.ireturn, 1) := by decide +kernel
theorem dX8_init_0 : decode cX8_init 0 = .ok (.aload_n 0, 1) := by decide +kernel
theorem dX8_init_1 : decode cX8_init 1 = .ok (.invokespecial 1, 3) := by decide +kernel
theorem dX8_init_4 : decode cX8_init 4 = .ok (.aload_n 0, 1) := by decide +kernel
theorem dX8_init_5 : decode cX8_init 5 = .ok (.new 7, 3) := by decide +kernel
theorem dX8_init_8 : decode cX8_init 8 = .ok (.dup, 1) := by decide +kernel
theorem dX8_init_9 : decode cX8_init 9 = .ok (.invokespecial 9, 3) := by decide +kernel
theorem dX8_init_12 : decode cX8_init 12 = .ok (.putfield 10, 3) := by decide +kernel
theorem dX8_init_15 : decode cX8_init 15 = .ok (.aload_n 0, 1) := by decide +kernel
theorem dX8_init_16 : decode cX8_init 16 = .ok (.new 16, 3) := by decide +kernel
theorem dX8_init_19 : decode cX8_init 19 = .ok (.dup, 1) := by decide +kernel
theorem dX8_init_20 : decode cX8_init 20 = .ok (.invokespecial 18, 3) := by decide +kernel
theorem dX8_init_23 : decode cX8_init 23 = .ok (.putfield 19, 3) := by decide +kernel
theorem dX8_init_26 : decode cX8_init 26 = .ok (.aload_n 0, 1) := by decide +kernel
theorem dX8_init_27 : decode cX8_init 27 = .ok (.new 16, 3) := by decide +kernel
theorem dX8_init_30 : decode cX8_init 30 = .ok (.dup, 1) := by decide +kernel
theorem dX8_init_31 : decode cX8_init 31 = .ok (.invokespecial 18, 3) := by decide +kernel
theorem dX8_init_34 : decode cX8_init 34 = .ok (.putfield 23, 3) := by decide +kernel
theorem dX8_init_37 : decode cX8_init 37 = .ok (.aload_n 0, 1) := by decide +kernel
theorem dX8_init_38 : decode cX8_init 38 = .ok (.new 26, 3) := by decide +kernel
theorem dX8_init_41 : decode cX8_init 41 = .ok (.dup, 1) := by decide +kernel
theorem dX8_init_42 : decode cX8_init 42 = .ok (.aload_n 0, 1) := by decide +kernel
theorem dX8_init_43 : decode cX8_init 43 = .ok (.getfield 23, 3) := by decide +kernel
theorem dX8_init_46 : decode cX8_init 46 = .ok (.invokespecial 28, 3) := by decide +kernel
theorem dX8_init_49 : decode cX8_init 49 = .ok (.putfield 31, 3) := by decide +kernel
theorem dX8_init_52 : decode cX8_init 52 = .ok (.aload_n 0, 1) := by decide +kernel
theorem dX8_init_53 : decode cX8_init 53 = .ok (.new 26, 3) := by decide +kernel
theorem dX8_init_56 : decode cX8_init 56 = .ok (.dup, 1) := by decide +kernel
theorem dX8_init_57 : decode cX8_init 57 = .ok (.aload_n 0, 1) := by decide +kernel
theorem dX8_init_58 : decode cX8_init 58 = .ok (.getfield 23, 3) := by decide +kernel
theorem dX8_init_61 : decode cX8_init 61 = .ok (.invokespecial 28, 3) := by decide +kernel
theorem dX8_init_64 : decode cX8_init 64 = .ok (.putfield 35, 3) := by decide +kernel
theorem dX8_init_67 : decode cX8_init 67 = .ok (.aload_n 0, 1) := by decide +kernel
theorem dX8_init_68 : decode cX8_init 68 = .ok (.new 26, 3) := by decide +kernel
theorem dX8_init_71 : decode cX8_init 71 = .ok (.dup, 1) := by decide +kernel
theorem dX8_init_72 : decode cX8_init 72 = .ok (.aload_n 0, 1) := by decide +kernel
theorem dX8_init_73 : decode cX8_init 73 = .ok (.getfield 23, 3) := by decide +kernel
theorem dX8_init_76 : decode cX8_init 76 = .ok (.invokespecial 28, 3) := by decide +kernel
theorem dX8_init_79 : decode cX8_init 79 = .ok (.putfield 38, 3) := by decide +kernel
theorem dX8_init_82 : decode cX8_init 82 = .ok (.aload_n 0, 1) := by decide +kernel
theorem dX8_init_83 : decode cX8_init 83 = .ok (.new 41, 3) := by decide +kernel
theorem dX8_init_86 : decode cX8_init 86 = .ok (.dup, 1) := by decide +kernel
theorem dX8_init_87 : decode cX8_init 87 = .ok (.aload_n 0, 1) := by decide +kernel
theorem dX8_init_88 : decode cX8_init 88 = .ok (.getfield 23, 3) := by decide +kernel
theorem dX8_init_91 : decode cX8_init 91 = .ok (.invokespecial 43, 3) := by decide +kernel
theorem dX8_init_94 : decode cX8_init 94 = .ok (.putfield 44, 3) := by decide +kernel
theorem dX8_init_97 : decode cX8_init 97 = .ok (.aload_n 0, 1) := by decide +kernel
theorem dX8_init_98 : decode cX8_init 98 = .ok (.new 48, 3) := by decide +kernel
theorem dX8_init_101 : decode cX8_init 101 = .ok (.dup, 1) := by decide +kernel
theorem dX8_init_102 : decode cX8_init 102 = .ok (.invokespecial 50, 3) := by decide +kernel
theorem dX8_init_105 : decode cX8_init 105 = .ok (.putfield 51, 3) := by decide +kernel
theorem dX8_init_108 : decode cX8_init 108 = .ok (.aload_n 0, 1) := by decide +kernel
theorem dX8_init_109 : decode cX8_init 109 = .ok (.bipush 64, 2) := by decide +kernel
theorem dX8_init_111 : decode cX8_init 111 = .ok (.newarray .int, 2) := by decide +kernel
theorem dX8_init_113 : decode cX8_init 113 = .ok (.putfield 55, 3) := by decide +kernel
theorem dX8_init_116 : decode cX8_init 116 = .ok (.aload_n 0, 1) := by decide +kernel
theorem dX8_init_117 : decode cX8_init 117 = .ok (.getfield 23, 3) := by decide +kernel
theorem dX8_init_120 : decode cX8_init 120 = .ok (.bipush 30, 2) := by decide +kernel
theorem dX8_init_122 : decode cX8_init 122 = .ok (.iconst 4, 1) := by decide +kernel
theorem dX8_init_123 : decode cX8_init 123 = .ok (.bipush 9, 2) := by decide +kernel
theorem dX8_init_125 : decode cX8_init 125 = .ok (.iconst 2, 1) := by decide +kernel
theorem dX8_init_126 : decode cX8_init 126 = .ok (.invokevirtual 59, 3) := by decide +kernel
theorem dX8_init_129 : decode cX8_init 129 = .ok (.aload_n 0, 1) := by decide +kernel
theorem dX8_init_130 : decode cX8_init 130 = .ok (.getfield 23, 3) := by decide +kernel
theorem dX8_init_133 : decode cX8_init 133 = .ok (.iconst 1, 1) := by decide +kernel
theorem dX8_init_134 : decode cX8_init 134 = .ok (.iconst 0, 1) := by decide +kernel
theorem dX8_init_135 : decode cX8_init 135 = .ok (.bipush 40, 2) := by decide +kernel
theorem dX8_init_137 : decode cX8_init 137 = .ok (.bipush 10, 2) := by decide +kernel
theorem dX8_init_139 : decode cX8_init 139 = .ok (.bipush 20, 2) := by decide +kernel
theorem dX8_init_141 : decode cX8_init 141 = .ok (.invokevirtual 63, 3) := by decide +kernel
theorem dX8_init_144 : decode cX8_init 144 = .ok (.aload_n 0, 1) := by decide +kernel
theorem dX8_init_145 : decode cX8_init 145 = .ok (.getfield 23, 3) := by decide +kernel
theorem dX8_init_148 : decode cX8_init 148 = .ok (.iconst 0, 1) := by decide +kernel
theorem dX8_init_149 : decode cX8_init 149 = .ok (.iconst 0, 1) := by decide +kernel
theorem dX8_init_150 : decode cX8_init 150 = .ok (.bipush 12, 2) := by decide +kernel
theorem dX8_init_152 : decode cX8_init 152 = .ok (.iconst 0, 1) := by decide +kernel
theorem dX8_init_153 : decode cX8_init 153 = .ok (.iconst 5, 1) := by decide +kernel
theorem dX8_init_154 : decode cX8_init 154 = .ok (.invokevirtual 63, 3) := by decide +kernel
theorem dX8_init_157 : decode cX8_init 157 = .ok (.aload_n 0, 1) := by decide +kernel
theorem dX8_init_158 : decode cX8_init 158 = .ok (.getfield 23, 3) := by decide +kernel
theorem dX8_init_161 : decode cX8_init 161 = .ok (.iconst 0, 1) := by decide +kernel
theorem dX8_init_162 : decode cX8_init 162 = .ok (.iconst 0, 1) := by decide +kernel
theorem dX8_init_163 : decode cX8_init 163 = .ok (.iconst 3, 1) := by decide +kernel
theorem dX8_init_164 : decode cX8_init 164 = .ok (.iconst 5, 1) := by decide +kernel
theorem dX8_init_165 : decode cX8_init 165 = .ok (.bipush 40, 2) := by decide +kernel
theorem dX8_init_167 : decode cX8_init 167 = .ok (.invokevirtual 63, 3) := by decide +kernel
theorem dX8_init_170 : decode cX8_init 170 = .ok (.aload_n 0, 1) := by decide +kernel
theorem dX8_init_171 : decode cX8_init 171 = .ok (.getfield 23, 3) := by decide +kernel
theorem dX8_init_174 : decode cX8_init 174 = .ok (.iconst 1, 1) := by decide +kernel
theorem dX8_init_175 : decode cX8_init 175 = .ok (.iconst 1, 1) := by decide +kernel
theorem dX8_init_176 : decode cX8_init 176 = .ok (.bipush 25, 2) := by decide +kernel
theorem dX8_init_178 : decode cX8_init 178 = .ok (.bipush 30, 2) := by decide +kernel
theorem dX8_init_180 : decode cX8_init 180 = .ok (.iconst 0, 1) := by decide +kernel
theorem dX8_init_181 : decode cX8_init 181 = .ok (.invokevirtual 63, 3) := by decide +kernel
theorem dX8_init_184 : decode cX8_init 184 = .ok (.aload_n 0, 1) := by decide +kernel
theorem dX8_init_185 : decode cX8_init 185 = .ok (.getfield 23, 3) := by decide +kernel
theorem dX8_init_188 : decode cX8_init 188 = .ok (.iconst 0, 1) := by decide +kernel
theorem dX8_init_189 : decode cX8_init 189 = .ok (.iconst 1, 1) := by decide +kernel
theorem dX8_init_190 : decode cX8_init 190 = .ok (.bipush 9, 2) := by decide +kernel
theorem dX8_init_192 : decode cX8_init 192 = .ok (.bipush 20, 2) := by decide +kernel
theorem dX8_init_194 : decode cX8_init 194 = .ok (.bipush 15, 2) := by decide +kernel
theorem dX8_init_196 : decode cX8_init 196 = .ok (.invokevirtual 63, 3) := by decide +kernel
theorem dX8_init_199 : decode cX8_init 199 = .ok (.aload_n 0, 1) := by decide +kernel
theorem dX8_init_200 : decode cX8_init 200 = .ok (.getfield 23, 3) := by decide +kernel
theorem dX8_init_203 : decode cX8_init 203 = .ok (.iconst 1, 1) := by decide +kernel
theorem dX8_init_204 : decode cX8_init 204 = .ok (.iconst 0, 1) := by decide +kernel
theorem dX8_init_205 : decode cX8_init 205 = .ok (.iconst 1, 1) := by decide +kernel
theorem dX8_init_206 : decode cX8_init 206 = .ok (.invokevirtual 67, 3) := by decide +kernel
theorem dX8_init_209 : decode cX8_init 209 = .ok (.aload_n 0, 1) := by decide +kernel
theorem dX8_init_210 : decode cX8_init 210 = .ok (.getfield 23, 3) := by decide +kernel
theorem dX8_init_213 : decode cX8_init 213 = .ok (.iconst 3, 1) := by decide +kernel
theorem dX8_init_214 : decode cX8_init 214 = .ok (.iconst 1, 1) := by decide +kernel
theorem dX8_init_215 : decode cX8_init 215 = .ok (.iconst 2, 1) := by decide +kernel
theorem dX8_init_216 : decode cX8_init 216 = .ok (.invokevirtual 67, 3) := by decide +kernel
theorem dX8_init_219 : decode cX8_init 219 = .ok (.aload_n 0, 1) := by decide +kernel
theorem dX8_init_220 : decode cX8_init 220 = .ok (.getfield 31, 3) := by decide +kernel
theorem dX8_init_223 : decode cX8_init 223 = .ok (.invokevirtual 71, 3) := by decide +kernel
theorem dX8_init_226 : decode cX8_init 226 = .ok (.return_, 1) := by decide +kernel
theorem dX8_appendText_0 : decode cX8_appendText 0 = .ok (.aload_n 0, 1) := by decide +kernel
theorem dX8_appendText_1 : decode cX8_appendText 1 = .ok (.getfield 10, 3) := by decide +kernel
theorem dX8_appendText_4 : decode cX8_appendText 4 = .ok (.getfield 73, 3) := by decide +kernel
theorem dX8_appendText_7 : decode cX8_appendText 7 = .ok (.sipush 480, 3) := by decide +kernel
theorem dX8_appendText_10 : decode cX8_appendText 10 = .ok (.if_icmp .le 5, 3) := by decide +kernel
theorem dX8_appendText_13 : decode cX8_appendText 13 = .ok (.iconst (-1), 1) := by decide +kernel
theorem dX8_appendText_14 : decode cX8_appendText 14 = .ok (.ireturn, 1) := by decide +kernel
theorem dX8_appendText_15 : decode cX8_appendText 15 = .ok (.aload_n 0, 1) := by decide +kernel
theorem dX8_appendText_16 : decode cX8_appendText 16 = .ok (.getfield 10, 3) := by decide +kernel
theorem dX8_appendText_19 : decode cX8_appendText 19 = .ok (.iload_n 1, 1) := by decide +kernel
theorem dX8_appendText_20 : decode cX8_appendText 20 = .ok (.invokevirtual 77, 3) := by decide +kernel
theorem dX8_appendText_23 : decode cX8_appendText 23 = .ok (.aload_n 0, 1) := by decide +kernel
theorem dX8_appendText_24 : decode cX8_appendText 24 = .ok (.getfield 10, 3) := by decide +kernel
theorem dX8_appendText_27 : decode cX8_appendText 27 = .ok (.iload_n 2, 1) := by decide +kernel
theorem dX8_appendText_28 : decode cX8_appendText 28 = .ok (.invokevirtual 77, 3) := by decide +kernel
theorem dX8_appendText_31 : decode cX8_appendText 31 = .ok (.aload_n 0, 1) := by decide +kernel
theorem dX8_appendText_32 : decode cX8_appendText 32 = .ok (.getfield 10, 3) := by decide +kernel
theorem dX8_appendText_35 : decode cX8_appendText 35 = .ok (.iload_n 3, 1) := by decide +kernel
theorem dX8_appendText_36 : decode cX8_appendText 36 = .ok (.invokevirtual 77, 3) := by decide +kernel
theorem dX8_appendText_39 : decode cX8_appendText 39 = .ok (.aload_n 0, 1) := by decide +kernel
theorem dX8_appendText_40 : decode cX8_appendText 40 = .ok (.getfield 10, 3) := by decide +kernel
theorem dX8_appendText_43 : decode cX8_appendText 43 = .ok (.iload 4, 2) := by decide +kernel
theorem dX8_appendText_45 : decode cX8_appendText 45 = .ok (.invokevirtual 77, 3) := by decide +kernel
theorem dX8_appendText_48 : decode cX8_appendText 48 = .ok (.aload_n 0, 1) := by decide +kernel
theorem dX8_appendText_49 : decode cX8_appendText 49 = .ok (.getfield 10, 3) := by decide +kernel
theorem dX8_appendText_52 : decode cX8_appendText 52 = .ok (.iload 5, 2) := by decide +kernel
theorem dX8_appendText_54 : decode cX8_appendText 54 = .ok (.invokevirtual 77, 3) := by decide +kernel
theorem dX8_appendText_57 : decode cX8_appendText 57 = .ok (.aload_n 0, 1) := by decide +kernel
theorem dX8_appendText_58 : decode cX8_appendText 58 = .ok (.getfield 10, 3) := by decide +kernel
theorem dX8_appendText_61 : decode cX8_appendText 61 = .ok (.getfield 73, 3) := by decide +kernel
theorem dX8_appendText_64 : decode cX8_appendText 64 = .ok (.ireturn, 1) := by decide +kernel
theorem dX8_loadGame_0 : decode cX8_loadGame 0 = .ok (.aload_n 0, 1) := by decide +kernel
theorem dX8_loadGame_1 : decode cX8_loadGame 1 = .ok (.iload_n 1, 1) := by decide +kernel
theorem dX8_loadGame_2 : decode cX8_loadGame 2 = .ok (.invokevirtual 81, 3) := by decide +kernel
theorem dX8_loadGame_5 : decode cX8_loadGame 5 = .ok (.aload_n 0, 1) := by decide +kernel
theorem dX8_loadGame_6 : decode cX8_loadGame 6 = .ok (.getfield 10, 3) := by decide +kernel
theorem dX8_loadGame_9 : decode cX8_loadGame 9 = .ok (.iload_n 1, 1) := by decide +kernel
theorem dX8_loadGame_10 : decode cX8_loadGame 10 = .ok (.invokevirtual 84, 3) := by decide +kernel
theorem dX8_loadGame_13 : decode cX8_loadGame 13 = .ok (.aload_n 0, 1) := by decide +kernel
theorem dX8_loadGame_14 : decode cX8_loadGame 14 = .ok (.getfield 10, 3) := by decide +kernel
theorem dX8_loadGame_17 : decode cX8_loadGame 17 = .ok (.aload_n 0, 1) := by decide +kernel
theorem dX8_loadGame_18 : decode cX8_loadGame 18 = .ok (.getfield 19, 3) := by decide +kernel
theorem dX8_loadGame_21 : decode cX8_loadGame 21 = .ok (.invokestatic 87, 3) := by decide +kernel
theorem dX8_loadGame_24 : decode cX8_loadGame 24 = .ok (.aload_n 0, 1) := by decide +kernel
theorem dX8_loadGame_25 : decode cX8_loadGame 25 = .ok (.getfield 10, 3) := by decide +kernel
theorem dX8_loadGame_28 : decode cX8_loadGame 28 = .ok (.aload_n 0, 1) := by decide +kernel
theorem dX8_loadGame_29 : decode cX8_loadGame 29 = .ok (.getfield 19, 3) := by decide +kernel
theorem dX8_loadGame_32 : decode cX8_loadGame 32 = .ok (.invokestatic 91, 3) := by decide +kernel
theorem dX8_loadGame_35 : decode cX8_loadGame 35 = .ok (.aload_n 0, 1) := by decide +kernel
theorem dX8_loadGame_36 : decode cX8_loadGame 36 = .ok (.getfield 10, 3) := by decide +kernel
theorem dX8_loadGame_39 : decode cX8_loadGame 39 = .ok (.aload_n 0, 1) := by decide +kernel
theorem dX8_loadGame_40 : decode cX8_loadGame 40 = .ok (.getfield 19, 3) := by decide +kernel
theorem dX8_loadGame_43 : decode cX8_loadGame 43 = .ok (.invokestatic 94, 3) := by decide +kernel
theorem dX8_loadGame_46 : decode cX8_loadGame 46 = .ok (.aload_n 0, 1) := by decide +kernel
theorem dX8_loadGame_47 : decode cX8_loadGame 47 = .ok (.getfield 10, 3) := by decide +kernel
theorem dX8_loadGame_50 : decode cX8_loadGame 50 = .ok (.iconst 0, 1) := by decide +kernel
theorem dX8_loadGame_51 : decode cX8_loadGame 51 = .ok (.putfield 73, 3) := by decide +kernel
theorem dX8_loadGame_54 : decode cX8_loadGame 54 = .ok (.aload_n 0, 1) := by decide +kernel
theorem dX8_loadGame_55 : decode cX8_loadGame 55 = .ok (.getfield 10, 3) := by decide +kernel
theorem dX8_loadGame_58 : decode cX8_loadGame 58 = .ok (.invokevirtual 97, 3) := by decide +kernel
theorem dX8_loadGame_61 : decode cX8_loadGame 61 = .ok (.ifCond .eq 5, 3) := by decide +kernel
theorem dX8_loadGame_64 : decode cX8_loadGame 64 = .ok (.iconst (-1), 1) := by decide +kernel
theorem dX8_loadGame_65 : decode cX8_loadGame 65 = .ok (.ireturn, 1) := by decide +kernel
theorem dX8_loadGame_66 : decode cX8_loadGame 66 = .ok (.aload_n 0, 1) := by decide +kernel
theorem dX8_loadGame_67 : decode cX8_loadGame 67 = .ok (.getfield 23, 3) := by decide +kernel
theorem dX8_loadGame_70 : decode cX8_loadGame 70 = .ok (.aload_n 0, 1) := by decide +kernel
theorem dX8_loadGame_71 : decode cX8_loadGame 71 = .ok (.getfield 19, 3) := by decide +kernel
theorem dX8_loadGame_74 : decode cX8_loadGame 74 = .ok (.invokevirtual 101, 3) := by decide +kernel
theorem dX8_loadGame_77 : decode cX8_loadGame 77 = .ok (.aload_n 0, 1) := by decide +kernel
theorem dX8_loadGame_78 : decode cX8_loadGame 78 = .ok (.getfield 31, 3) := by decide +kernel
theorem dX8_loadGame_81 : decode cX8_loadGame 81 = .ok (.invokevirtual 71, 3) := by decide +kernel
theorem dX8_loadGame_84 : decode cX8_loadGame 84 = .ok (.aload_n 0, 1) := by decide +kernel
theorem dX8_loadGame_85 : decode cX8_loadGame 85 = .ok (.getfield 44, 3) := by decide +kernel
theorem dX8_loadGame_88 : decode cX8_loadGame 88 = .ok (.invokevirtual 104, 3) := by decide +kernel
theorem dX8_loadGame_91 : decode cX8_loadGame 91 = .ok (.aload_n 0, 1) := by decide +kernel
theorem dX8_loadGame_92 : decode cX8_loadGame 92 = .ok (.iconst 0, 1) := by decide +kernel
theorem dX8_loadGame_93 : decode cX8_loadGame 93 = .ok (.putfield 107, 3) := by decide +kernel
theorem dX8_loadGame_96 : decode cX8_loadGame 96 = .ok (.aload_n 0, 1) := by decide +kernel
theorem dX8_loadGame_97 : decode cX8_loadGame 97 = .ok (.getfield 23, 3) := by decide +kernel
theorem dX8_loadGame_100 : decode cX8_loadGame 100 = .ok (.getfield 111, 3) := by decide +kernel
theorem dX8_loadGame_103 : decode cX8_loadGame 103 = .ok (.ireturn, 1) := by decide +kernel
theorem dX8_errorCode_0 : decode cX8_errorCode 0 = .ok (.aload_n 0, 1) := by decide +kernel
theorem dX8_errorCode_1 : decode cX8_errorCode 1 = .ok (.getfield 10, 3) := by decide +kernel
theorem dX8_errorCode_4 : decode cX8_errorCode 4 = .ok (.getfield 114, 3) := by decide +kernel
theorem dX8_errorCode_7 : decode cX8_errorCode 7 = .ok (.ireturn, 1) := by decide +kernel
theorem dX8_errorOffset_0 : decode cX8_errorOffset 0 = .ok (.aload_n 0, 1) := by decide +kernel
theorem dX8_errorOffset_1 : decode cX8_errorOffset 1 = .ok (.getfield 10, 3) := by decide +kernel
theorem dX8_errorOffset_4 : decode cX8_errorOffset 4 = .ok (.getfield 117, 3) := by decide +kernel
theorem dX8_errorOffset_7 : decode cX8_errorOffset 7 = .ok (.ireturn, 1) := by decide +kernel
theorem dX8_turn_0 : decode cX8_turn 0 = .ok (.aload_n 0, 1) := by decide +kernel
theorem dX8_turn_1 : decode cX8_turn 1 = .ok (.getfield 31, 3) := by decide +kernel
theorem dX8_turn_4 : decode cX8_turn 4 = .ok (.getfield 120, 3) := by decide +kernel
theorem dX8_turn_7 : decode cX8_turn 7 = .ok (.ireturn, 1) := by decide +kernel
theorem dX8_limitAngle_0 : decode cX8_limitAngle 0 = .ok (.aload_n 0, 1) := by decide +kernel
theorem dX8_limitAngle_1 : decode cX8_limitAngle 1 = .ok (.getfield 31, 3) := by decide +kernel
theorem dX8_limitAngle_4 : decode cX8_limitAngle 4 = .ok (.getfield 123, 3) := by decide +kernel
theorem dX8_limitAngle_7 : decode cX8_limitAngle 7 = .ok (.ireturn, 1) := by decide +kernel
theorem dX8_tollBox_0 : decode cX8_tollBox 0 = .ok (.aload_n 0, 1) := by decide +kernel
theorem dX8_tollBox_1 : decode cX8_tollBox 1 = .ok (.getfield 31, 3) := by decide +kernel
theorem dX8_tollBox_4 : decode cX8_tollBox 4 = .ok (.getfield 126, 3) := by decide +kernel
theorem dX8_tollBox_7 : decode cX8_tollBox 7 = .ok (.ireturn, 1) := by decide +kernel
theorem dX8_groundCoins_0 : decode cX8_groundCoins 0 = .ok (.aload_n 0, 1) := by decide +kernel
theorem dX8_groundCoins_1 : decode cX8_groundCoins 1 = .ok (.getfield 31, 3) := by decide +kernel
theorem dX8_groundCoins_4 : decode cX8_groundCoins 4 = .ok (.getfield 129, 3) := by decide +kernel
theorem dX8_groundCoins_7 : decode cX8_groundCoins 7 = .ok (.iload_n 1, 1) := by decide +kernel
theorem dX8_groundCoins_8 : decode cX8_groundCoins 8 = .ok (.invokestatic 132, 3) := by decide +kernel
theorem dX8_groundCoins_11 : decode cX8_groundCoins 11 = .ok (.invokestatic 136, 3) := by decide +kernel
theorem dX8_groundCoins_14 : decode cX8_groundCoins 14 = .ok (.ireturn, 1) := by decide +kernel
theorem dX8_personCount_0 : decode cX8_personCount 0 = .ok (.aload_n 0, 1) := by decide +kernel
theorem dX8_personCount_1 : decode cX8_personCount 1 = .ok (.getfield 23, 3) := by decide +kernel
theorem dX8_personCount_4 : decode cX8_personCount 4 = .ok (.getfield 111, 3) := by decide +kernel
theorem dX8_personCount_7 : decode cX8_personCount 7 = .ok (.ireturn, 1) := by decide +kernel
theorem dX8_kingCount_0 : decode cX8_kingCount 0 = .ok (.aload_n 0, 1) := by decide +kernel
theorem dX8_kingCount_1 : decode cX8_kingCount 1 = .ok (.getfield 23, 3) := by decide +kernel
theorem dX8_kingCount_4 : decode cX8_kingCount 4 = .ok (.invokevirtual 140, 3) := by decide +kernel
theorem dX8_kingCount_7 : decode cX8_kingCount 7 = .ok (.ireturn, 1) := by decide +kernel
theorem dX8_bankCount_0 : decode cX8_bankCount 0 = .ok (.aload_n 0, 1) := by decide +kernel
theorem dX8_bankCount_1 : decode cX8_bankCount 1 = .ok (.getfield 31, 3) := by decide +kernel
theorem dX8_bankCount_4 : decode cX8_bankCount 4 = .ok (.iload_n 1, 1) := by decide +kernel
theorem dX8_bankCount_5 : decode cX8_bankCount 5 = .ok (.invokestatic 132, 3) := by decide +kernel
theorem dX8_bankCount_8 : decode cX8_bankCount 8 = .ok (.invokevirtual 144, 3) := by decide +kernel
theorem dX8_bankCount_11 : decode cX8_bankCount 11 = .ok (.ireturn, 1) := by decide +kernel
theorem dX8_isKing_0 : decode cX8_isKing 0 = .ok (.aload_n 0, 1) := by decide +kernel
theorem dX8_isKing_1 : decode cX8_isKing 1 = .ok (.iload_n 1, 1) := by decide +kernel
theorem dX8_isKing_2 : decode cX8_isKing 2 = .ok (.invokevirtual 148, 3) := by decide +kernel
theorem dX8_isKing_5 : decode cX8_isKing 5 = .ok (.aload_n 0, 1) := by decide +kernel
theorem dX8_isKing_6 : decode cX8_isKing 6 = .ok (.getfield 23, 3) := by decide +kernel
theorem dX8_isKing_9 : decode cX8_isKing 9 = .ok (.iload_n 1, 1) := by decide +kernel
theorem dX8_isKing_10 : decode cX8_isKing 10 = .ok (.invokevirtual 151, 3) := by decide +kernel
theorem dX8_isKing_13 : decode cX8_isKing 13 = .ok (.ireturn, 1) := by decide +kernel
theorem dX8_isEast_0 : decode cX8_isEast 0 = .ok (.aload_n 0, 1) := by decide +kernel
theorem dX8_isEast_1 : decode cX8_isEast 1 = .ok (.iload_n 1, 1) := by decide +kernel
theorem dX8_isEast_2 : decode cX8_isEast 2 = .ok (.invokevirtual 148, 3) := by decide +kernel
theorem dX8_isEast_5 : decode cX8_isEast 5 = .ok (.aload_n 0, 1) := by decide +kernel
theorem dX8_isEast_6 : decode cX8_isEast 6 = .ok (.getfield 31, 3) := by decide +kernel
theorem dX8_isEast_9 : decode cX8_isEast 9 = .ok (.getfield 155, 3) := by decide +kernel
theorem dX8_isEast_12 : decode cX8_isEast 12 = .ok (.iload_n 1, 1) := by decide +kernel
theorem dX8_isEast_13 : decode cX8_isEast 13 = .ok (.invokestatic 136, 3) := by decide +kernel
theorem dX8_isEast_16 : decode cX8_isEast 16 = .ok (.iconst 1, 1) := by decide +kernel
theorem dX8_isEast_17 : decode cX8_isEast 17 = .ok (.if_icmp .ne 7, 3) := by decide +kernel
theorem dX8_isEast_20 : decode cX8_isEast 20 = .ok (.iconst 1, 1) := by decide +kernel
theorem dX8_isEast_21 : decode cX8_isEast 21 = .ok (.goto 4, 3) := by decide +kernel
theorem dX8_isEast_24 : decode cX8_isEast 24 = .ok (.iconst 0, 1) := by decide +kernel
theorem dX8_isEast_25 : decode cX8_isEast 25 = .ok (.ireturn, 1) := by decide +kernel
theorem dX8_coins_0 : decode cX8_coins 0 = .ok (.aload_n 0, 1) := by decide +kernel
theorem dX8_coins_1 : decode cX8_coins 1 = .ok (.iload_n 1, 1) := by decide +kernel
theorem dX8_coins_2 : decode cX8_coins 2 = .ok (.invokevirtual 148, 3) := by decide +kernel
theorem dX8_coins_5 : decode cX8_coins 5 = .ok (.aload_n 0, 1) := by decide +kernel
theorem dX8_coins_6 : decode cX8_coins 6 = .ok (.getfield 31, 3) := by decide +kernel
theorem dX8_coins_9 : decode cX8_coins 9 = .ok (.getfield 158, 3) := by decide +kernel
theorem dX8_coins_12 : decode cX8_coins 12 = .ok (.iload_n 1, 1) := by decide +kernel
theorem dX8_coins_13 : decode cX8_coins 13 = .ok (.invokestatic 136, 3) := by decide +kernel
theorem dX8_coins_16 : decode cX8_coins 16 = .ok (.ireturn, 1) := by decide +kernel
theorem dX8_pride_0 : decode cX8_pride 0 = .ok (.aload_n 0, 1) := by decide +kernel
theorem dX8_pride_1 : decode cX8_pride 1 = .ok (.iload_n 1, 1) := by decide +kernel
theorem dX8_pride_2 : decode cX8_pride 2 = .ok (.invokevirtual 148, 3) := by decide +kernel
theorem dX8_pride_5 : decode cX8_pride 5 = .ok (.aload_n 0, 1) := by decide +kernel
theorem dX8_pride_6 : decode cX8_pride 6 = .ok (.getfield 31, 3) := by decide +kernel
theorem dX8_pride_9 : decode cX8_pride 9 = .ok (.getfield 161, 3) := by decide +kernel
theorem dX8_pride_12 : decode cX8_pride 12 = .ok (.iload_n 1, 1) := by decide +kernel
theorem dX8_pride_13 : decode cX8_pride 13 = .ok (.invokestatic 136, 3) := by decide +kernel
theorem dX8_pride_16 : decode cX8_pride 16 = .ok (.ireturn, 1) := by decide +kernel
theorem dX8_rags_0 : decode cX8_rags 0 = .ok (.aload_n 0, 1) := by decide +kernel
theorem dX8_rags_1 : decode cX8_rags 1 = .ok (.iload_n 1, 1) := by decide +kernel
theorem dX8_rags_2 : decode cX8_rags 2 = .ok (.invokevirtual 148, 3) := by decide +kernel
theorem dX8_rags_5 : decode cX8_rags 5 = .ok (.aload_n 0, 1) := by decide +kernel
theorem dX8_rags_6 : decode cX8_rags 6 = .ok (.getfield 31, 3) := by decide +kernel
theorem dX8_rags_9 : decode cX8_rags 9 = .ok (.getfield 164, 3) := by decide +kernel
theorem dX8_rags_12 : decode cX8_rags 12 = .ok (.iload_n 1, 1) := by decide +kernel
theorem dX8_rags_13 : decode cX8_rags 13 = .ok (.invokestatic 136, 3) := by decide +kernel
theorem dX8_rags_16 : decode cX8_rags 16 = .ok (.ireturn, 1) := by decide +kernel
theorem dX8_rank_0 : decode cX8_rank 0 = .ok (.aload_n 0, 1) := by decide +kernel
theorem dX8_rank_1 : decode cX8_rank 1 = .ok (.iload_n 1, 1) := by decide +kernel
theorem dX8_rank_2 : decode cX8_rank 2 = .ok (.invokevirtual 148, 3) := by decide +kernel
theorem dX8_rank_5 : decode cX8_rank 5 = .ok (.aload_n 0, 1) := by decide +kernel
theorem dX8_rank_6 : decode cX8_rank 6 = .ok (.getfield 23, 3) := by decide +kernel
theorem dX8_rank_9 : decode cX8_rank 9 = .ok (.getfield 167, 3) := by decide +kernel
theorem dX8_rank_12 : decode cX8_rank 12 = .ok (.iload_n 1, 1) := by decide +kernel
theorem dX8_rank_13 : decode cX8_rank 13 = .ok (.invokestatic 136, 3) := by decide +kernel
theorem dX8_rank_16 : decode cX8_rank 16 = .ok (.ireturn, 1) := by decide +kernel
theorem dX8_wearer_0 : decode cX8_wearer 0 = .ok (.aload_n 0, 1) := by decide +kernel
theorem dX8_wearer_1 : decode cX8_wearer 1 = .ok (.iload_n 1, 1) := by decide +kernel
theorem dX8_wearer_2 : decode cX8_wearer 2 = .ok (.invokevirtual 148, 3) := by decide +kernel
theorem dX8_wearer_5 : decode cX8_wearer 5 = .ok (.aload_n 0, 1) := by decide +kernel
theorem dX8_wearer_6 : decode cX8_wearer 6 = .ok (.getfield 31, 3) := by decide +kernel
theorem dX8_wearer_9 : decode cX8_wearer 9 = .ok (.iload_n 1, 1) := by decide +kernel
theorem dX8_wearer_10 : decode cX8_wearer 10 = .ok (.invokevirtual 170, 3) := by decide +kernel
theorem dX8_wearer_13 : decode cX8_wearer 13 = .ok (.ireturn, 1) := by decide +kernel
theorem dX8_crossings_0 : decode cX8_crossings 0 = .ok (.aload_n 0, 1) := by decide +kernel
theorem dX8_crossings_1 : decode cX8_crossings 1 = .ok (.iload_n 1, 1) := by decide +kernel
theorem dX8_crossings_2 : decode cX8_crossings 2 = .ok (.invokevirtual 148, 3) := by decide +kernel
theorem dX8_crossings_5 : decode cX8_crossings 5 = .ok (.aload_n 0, 1) := by decide +kernel
theorem dX8_crossings_6 : decode cX8_crossings 6 = .ok (.getfield 31, 3) := by decide +kernel
theorem dX8_crossings_9 : decode cX8_crossings 9 = .ok (.getfield 173, 3) := by decide +kernel
theorem dX8_crossings_12 : decode cX8_crossings 12 = .ok (.iload_n 1, 1) := by decide +kernel
theorem dX8_crossings_13 : decode cX8_crossings 13 = .ok (.invokestatic 136, 3) := by decide +kernel
theorem dX8_crossings_16 : decode cX8_crossings 16 = .ok (.ireturn, 1) := by decide +kernel
theorem dX8_richest_0 : decode cX8_richest 0 = .ok (.aload_n 0, 1) := by decide +kernel
theorem dX8_richest_1 : decode cX8_richest 1 = .ok (.getfield 31, 3) := by decide +kernel
theorem dX8_richest_4 : decode cX8_richest 4 = .ok (.invokevirtual 176, 3) := by decide +kernel
theorem dX8_richest_7 : decode cX8_richest 7 = .ok (.ireturn, 1) := by decide +kernel
theorem dX8_bowTo_0 : decode cX8_bowTo 0 = .ok (.aload_n 0, 1) := by decide +kernel
theorem dX8_bowTo_1 : decode cX8_bowTo 1 = .ok (.iload_n 1, 1) := by decide +kernel
theorem dX8_bowTo_2 : decode cX8_bowTo 2 = .ok (.invokevirtual 148, 3) := by decide +kernel
theorem dX8_bowTo_5 : decode cX8_bowTo 5 = .ok (.aload_n 0, 1) := by decide +kernel
theorem dX8_bowTo_6 : decode cX8_bowTo 6 = .ok (.iload_n 2, 1) := by decide +kernel
theorem dX8_bowTo_7 : decode cX8_bowTo 7 = .ok (.invokevirtual 148, 3) := by decide +kernel
theorem dX8_bowTo_10 : decode cX8_bowTo 10 = .ok (.iload_n 1, 1) := by decide +kernel
theorem dX8_bowTo_11 : decode cX8_bowTo 11 = .ok (.iload_n 2, 1) := by decide +kernel
theorem dX8_bowTo_12 : decode cX8_bowTo 12 = .ok (.if_icmp .ne 13, 3) := by decide +kernel
theorem dX8_bowTo_15 : decode cX8_bowTo 15 = .ok (.new 179, 3) := by decide +kernel
theorem dX8_bowTo_18 : decode cX8_bowTo 18 = .ok (.dup, 1) := by decide +kernel
theorem dX8_bowTo_19 : decode cX8_bowTo 19 = .ok (.ldc 181, 2) := by decide +kernel
theorem dX8_bowTo_21 : decode cX8_bowTo 21 = .ok (.invokespecial 183, 3) := by decide +kernel
theorem dX8_bowTo_24 : decode cX8_bowTo 24 = .ok (.athrow, 1) := by decide +kernel
theorem dX8_bowTo_25 : decode cX8_bowTo 25 = .ok (.aload_n 0, 1) := by decide +kernel
theorem dX8_bowTo_26 : decode cX8_bowTo 26 = .ok (.getfield 31, 3) := by decide +kernel
theorem dX8_bowTo_29 : decode cX8_bowTo 29 = .ok (.iload_n 1, 1) := by decide +kernel
theorem dX8_bowTo_30 : decode cX8_bowTo 30 = .ok (.iload_n 2, 1) := by decide +kernel
theorem dX8_bowTo_31 : decode cX8_bowTo 31 = .ok (.invokevirtual 186, 3) := by decide +kernel
theorem dX8_bowTo_34 : decode cX8_bowTo 34 = .ok (.ireturn, 1) := by decide +kernel
theorem dX8_bowToKeeper_0 : decode cX8_bowToKeeper 0 = .ok (.aload_n 0, 1) := by decide +kernel
theorem dX8_bowToKeeper_1 : decode cX8_bowToKeeper 1 = .ok (.iload_n 1, 1) := by decide +kernel
theorem dX8_bowToKeeper_2 : decode cX8_bowToKeeper 2 = .ok (.invokevirtual 148, 3) := by decide +kernel
theorem dX8_bowToKeeper_5 : decode cX8_bowToKeeper 5 = .ok (.aload_n 0, 1) := by decide +kernel
theorem dX8_bowToKeeper_6 : decode cX8_bowToKeeper 6 = .ok (.getfield 31, 3) := by decide +kernel
theorem dX8_bowToKeeper_9 : decode cX8_bowToKeeper 9 = .ok (.iload_n 1, 1) := by decide +kernel
theorem dX8_bowToKeeper_10 : decode cX8_bowToKeeper 10 = .ok (.invokevirtual 190, 3) := by decide +kernel
theorem dX8_bowToKeeper_13 : decode cX8_bowToKeeper 13 = .ok (.ireturn, 1) := by decide +kernel
theorem dX8_isTakenForKing_0 : decode cX8_isTakenForKing 0 = .ok (.aload_n 0, 1) := by decide +kernel
theorem dX8_isTakenForKing_1 : decode cX8_isTakenForKing 1 = .ok (.iload_n 1, 1) := by decide +kernel
theorem dX8_isTakenForKing_2 : decode cX8_isTakenForKing 2 = .ok (.invokevirtual 148, 3) := by decide +kernel
theorem dX8_isTakenForKing_5 : decode cX8_isTakenForKing 5 = .ok (.aload_n 0, 1) := by decide +kernel
theorem dX8_isTakenForKing_6 : decode cX8_isTakenForKing 6 = .ok (.getfield 31, 3) := by decide +kernel
theorem dX8_isTakenForKing_9 : decode cX8_isTakenForKing 9 = .ok (.iload_n 1, 1) := by decide +kernel
theorem dX8_isTakenForKing_10 : decode cX8_isTakenForKing 10 = .ok (.invokevirtual 193, 3) := by decide +kernel
theorem dX8_isTakenForKing_13 : decode cX8_isTakenForKing 13 = .ok (.ireturn, 1) := by decide +kernel
theorem dX8_tollOf_0 : decode cX8_tollOf 0 = .ok (.aload_n 0, 1) := by decide +kernel
theorem dX8_tollOf_1 : decode cX8_tollOf 1 = .ok (.iload_n 1, 1) := by decide +kernel
theorem dX8_tollOf_2 : decode cX8_tollOf 2 = .ok (.invokevirtual 148, 3) := by decide +kernel
theorem dX8_tollOf_5 : decode cX8_tollOf 5 = .ok (.aload_n 0, 1) := by decide +kernel
theorem dX8_tollOf_6 : decode cX8_tollOf 6 = .ok (.getfield 31, 3) := by decide +kernel
theorem dX8_tollOf_9 : decode cX8_tollOf 9 = .ok (.iload_n 1, 1) := by decide +kernel
theorem dX8_tollOf_10 : decode cX8_tollOf 10 = .ok (.invokevirtual 196, 3) := by decide +kernel
theorem dX8_tollOf_13 : decode cX8_tollOf 13 = .ok (.ireturn, 1) := by decide +kernel
theorem dX8_wrongGuesses_0 : decode cX8_wrongGuesses 0 = .ok (.aload_n 0, 1) := by decide +kernel
theorem dX8_wrongGuesses_1 : decode cX8_wrongGuesses 1 = .ok (.getfield 31, 3) := by decide +kernel
theorem dX8_wrongGuesses_4 : decode cX8_wrongGuesses 4 = .ok (.invokevirtual 199, 3) := by decide +kernel
theorem dX8_wrongGuesses_7 : decode cX8_wrongGuesses 7 = .ok (.ireturn, 1) := by decide +kernel
theorem dX8_stiffest_0 : decode cX8_stiffest 0 = .ok (.aload_n 0, 1) := by decide +kernel
theorem dX8_stiffest_1 : decode cX8_stiffest 1 = .ok (.getfield 31, 3) := by decide +kernel
theorem dX8_stiffest_4 : decode cX8_stiffest 4 = .ok (.invokevirtual 202, 3) := by decide +kernel
theorem dX8_stiffest_7 : decode cX8_stiffest 7 = .ok (.ireturn, 1) := by decide +kernel
theorem dX8_cheapestRags_0 : decode cX8_cheapestRags 0 = .ok (.aload_n 0, 1) := by decide +kernel
theorem dX8_cheapestRags_1 : decode cX8_cheapestRags 1 = .ok (.iload_n 1, 1) := by decide +kernel
theorem dX8_cheapestRags_2 : decode cX8_cheapestRags 2 = .ok (.invokevirtual 148, 3) := by decide +kernel
theorem dX8_cheapestRags_5 : decode cX8_cheapestRags 5 = .ok (.aload_n 0, 1) := by decide +kernel
theorem dX8_cheapestRags_6 : decode cX8_cheapestRags 6 = .ok (.getfield 31, 3) := by decide +kernel
theorem dX8_cheapestRags_9 : decode cX8_cheapestRags 9 = .ok (.iload_n 1, 1) := by decide +kernel
theorem dX8_cheapestRags_10 : decode cX8_cheapestRags 10 = .ok (.invokevirtual 205, 3) := by decide +kernel
theorem dX8_cheapestRags_13 : decode cX8_cheapestRags 13 = .ok (.ireturn, 1) := by decide +kernel
theorem dX8_meanBow_0 : decode cX8_meanBow 0 = .ok (.aload_n 0, 1) := by decide +kernel
theorem dX8_meanBow_1 : decode cX8_meanBow 1 = .ok (.getfield 23, 3) := by decide +kernel
theorem dX8_meanBow_4 : decode cX8_meanBow 4 = .ok (.getfield 111, 3) := by decide +kernel
theorem dX8_meanBow_7 : decode cX8_meanBow 7 = .ok (.ifCond .ne 7, 3) := by decide +kernel
theorem dX8_meanBow_10 : decode cX8_meanBow 10 = .ok (.dconst 0, 1) := by decide +kernel
theorem dX8_meanBow_11 : decode cX8_meanBow 11 = .ok (.goto 20, 3) := by decide +kernel
theorem dX8_meanBow_14 : decode cX8_meanBow 14 = .ok (.aload_n 0, 1) := by decide +kernel
theorem dX8_meanBow_15 : decode cX8_meanBow 15 = .ok (.getfield 31, 3) := by decide +kernel
theorem dX8_meanBow_18 : decode cX8_meanBow 18 = .ok (.invokevirtual 208, 3) := by decide +kernel
theorem dX8_meanBow_21 : decode cX8_meanBow 21 = .ok (.i2d, 1) := by decide +kernel
theorem dX8_meanBow_22 : decode cX8_meanBow 22 = .ok (.aload_n 0, 1) := by decide +kernel
theorem dX8_meanBow_23 : decode cX8_meanBow 23 = .ok (.getfield 23, 3) := by decide +kernel
theorem dX8_meanBow_26 : decode cX8_meanBow 26 = .ok (.getfield 111, 3) := by decide +kernel
theorem dX8_meanBow_29 : decode cX8_meanBow 29 = .ok (.i2d, 1) := by decide +kernel
theorem dX8_meanBow_30 : decode cX8_meanBow 30 = .ok (.ddiv, 1) := by decide +kernel
theorem dX8_meanBow_31 : decode cX8_meanBow 31 = .ok (.dreturn, 1) := by decide +kernel
theorem dX8_royalHolder_0 : decode cX8_royalHolder 0 = .ok (.aload_n 0, 1) := by decide +kernel
theorem dX8_royalHolder_1 : decode cX8_royalHolder 1 = .ok (.iload_n 1, 1) := by decide +kernel
theorem dX8_royalHolder_2 : decode cX8_royalHolder 2 = .ok (.invokevirtual 211, 3) := by decide +kernel
theorem dX8_royalHolder_5 : decode cX8_royalHolder 5 = .ok (.aload_n 0, 1) := by decide +kernel
theorem dX8_royalHolder_6 : decode cX8_royalHolder 6 = .ok (.getfield 31, 3) := by decide +kernel
theorem dX8_royalHolder_9 : decode cX8_royalHolder 9 = .ok (.getfield 214, 3) := by decide +kernel
theorem dX8_royalHolder_12 : decode cX8_royalHolder 12 = .ok (.iload_n 1, 1) := by decide +kernel
theorem dX8_royalHolder_13 : decode cX8_royalHolder 13 = .ok (.invokestatic 136, 3) := by decide +kernel
theorem dX8_royalHolder_16 : decode cX8_royalHolder 16 = .ok (.ireturn, 1) := by decide +kernel
theorem dX8_isRoyalCoinEast_0 : decode cX8_isRoyalCoinEast 0 = .ok (.aload_n 0, 1) := by decide +kernel
theorem dX8_isRoyalCoinEast_1 : decode cX8_isRoyalCoinEast 1 = .ok (.iload_n 1, 1) := by decide +kernel
theorem dX8_isRoyalCoinEast_2 : decode cX8_isRoyalCoinEast 2 = .ok (.invokevirtual 211, 3) := by decide +kernel
theorem dX8_isRoyalCoinEast_5 : decode cX8_isRoyalCoinEast 5 = .ok (.aload_n 0, 1) := by decide +kernel
theorem dX8_isRoyalCoinEast_6 : decode cX8_isRoyalCoinEast 6 = .ok (.getfield 31, 3) := by decide +kernel
theorem dX8_isRoyalCoinEast_9 : decode cX8_isRoyalCoinEast 9 = .ok (.iload_n 1, 1) := by decide +kernel
theorem dX8_isRoyalCoinEast_10 : decode cX8_isRoyalCoinEast 10 = .ok (.invokevirtual 217, 3) := by decide +kernel
theorem dX8_isRoyalCoinEast_13 : decode cX8_isRoyalCoinEast 13 = .ok (.iconst 1, 1) := by decide +kernel
theorem dX8_isRoyalCoinEast_14 : decode cX8_isRoyalCoinEast 14 = .ok (.if_icmp .ne 7, 3) := by decide +kernel
theorem dX8_isRoyalCoinEast_17 : decode cX8_isRoyalCoinEast 17 = .ok (.iconst 1, 1) := by decide +kernel
theorem dX8_isRoyalCoinEast_18 : decode cX8_isRoyalCoinEast 18 = .ok (.goto 4, 3) := by decide +kernel
theorem dX8_isRoyalCoinEast_21 : decode cX8_isRoyalCoinEast 21 = .ok (.iconst 0, 1) := by decide +kernel
theorem dX8_isRoyalCoinEast_22 : decode cX8_isRoyalCoinEast 22 = .ok (.ireturn, 1) := by decide +kernel
theorem dX8_isCounted_0 : decode cX8_isCounted 0 = .ok (.aload_n 0, 1) := by decide +kernel
theorem dX8_isCounted_1 : decode cX8_isCounted 1 = .ok (.iload_n 1, 1) := by decide +kernel
theorem dX8_isCounted_2 : decode cX8_isCounted 2 = .ok (.invokevirtual 211, 3) := by decide +kernel
theorem dX8_isCounted_5 : decode cX8_isCounted 5 = .ok (.aload_n 0, 1) := by decide +kernel
theorem dX8_isCounted_6 : decode cX8_isCounted 6 = .ok (.getfield 31, 3) := by decide +kernel
theorem dX8_isCounted_9 : decode cX8_isCounted 9 = .ok (.getfield 220, 3) := by decide +kernel
theorem dX8_isCounted_12 : decode cX8_isCounted 12 = .ok (.iload_n 1, 1) := by decide +kernel
theorem dX8_isCounted_13 : decode cX8_isCounted 13 = .ok (.invokestatic 136, 3) := by decide +kernel
theorem dX8_isCounted_16 : decode cX8_isCounted 16 = .ok (.iconst 1, 1) := by decide +kernel
theorem dX8_isCounted_17 : decode cX8_isCounted 17 = .ok (.if_icmp .ne 7, 3) := by decide +kernel
theorem dX8_isCounted_20 : decode cX8_isCounted 20 = .ok (.iconst 1, 1) := by decide +kernel
theorem dX8_isCounted_21 : decode cX8_isCounted 21 = .ok (.goto 4, 3) := by decide +kernel
theorem dX8_isCounted_24 : decode cX8_isCounted 24 = .ok (.iconst 0, 1) := by decide +kernel
theorem dX8_isCounted_25 : decode cX8_isCounted 25 = .ok (.ireturn, 1) := by decide +kernel
theorem dX8_royalCoins_0 : decode cX8_royalCoins 0 = .ok (.aload_n 0, 1) := by decide +kernel
theorem dX8_royalCoins_1 : decode cX8_royalCoins 1 = .ok (.iload_n 1, 1) := by decide +kernel
theorem dX8_royalCoins_2 : decode cX8_royalCoins 2 = .ok (.invokevirtual 148, 3) := by decide +kernel
theorem dX8_royalCoins_5 : decode cX8_royalCoins 5 = .ok (.aload_n 0, 1) := by decide +kernel
theorem dX8_royalCoins_6 : decode cX8_royalCoins 6 = .ok (.getfield 31, 3) := by decide +kernel
theorem dX8_royalCoins_9 : decode cX8_royalCoins 9 = .ok (.iload_n 1, 1) := by decide +kernel
theorem dX8_royalCoins_10 : decode cX8_royalCoins 10 = .ok (.invokevirtual 223, 3) := by decide +kernel
theorem dX8_royalCoins_13 : decode cX8_royalCoins 13 = .ok (.ireturn, 1) := by decide +kernel
theorem dX8_countedRoyalCoins_0 : decode cX8_countedRoyalCoins 0 = .ok (.aload_n 0, 1) := by decide +kernel
theorem dX8_countedRoyalCoins_1 : decode cX8_countedRoyalCoins 1 = .ok (.getfield 31, 3) := by decide +kernel
theorem dX8_countedRoyalCoins_4 : decode cX8_countedRoyalCoins 4 = .ok (.invokevirtual 226, 3) := by decide +kernel
theorem dX8_countedRoyalCoins_7 : decode cX8_countedRoyalCoins 7 = .ok (.ireturn, 1) := by decide +kernel
theorem dX8_countedShare_0 : decode cX8_countedShare 0 = .ok (.aload_n 0, 1) := by decide +kernel
theorem dX8_countedShare_1 : decode cX8_countedShare 1 = .ok (.getfield 23, 3) := by decide +kernel
theorem dX8_countedShare_4 : decode cX8_countedShare 4 = .ok (.invokevirtual 140, 3) := by decide +kernel
theorem dX8_countedShare_7 : decode cX8_countedShare 7 = .ok (.istore_n 1, 1) := by decide +kernel
theorem dX8_countedShare_8 : decode cX8_countedShare 8 = .ok (.iload_n 1, 1) := by decide +kernel
theorem dX8_countedShare_9 : decode cX8_countedShare 9 = .ok (.ifCond .ne 7, 3) := by decide +kernel
theorem dX8_countedShare_12 : decode cX8_countedShare 12 = .ok (.fconst 0, 1) := by decide +kernel
theorem dX8_countedShare_13 : decode cX8_countedShare 13 = .ok (.goto 14, 3) := by decide +kernel
theorem dX8_countedShare_16 : decode cX8_countedShare 16 = .ok (.aload_n 0, 1) := by decide +kernel
theorem dX8_countedShare_17 : decode cX8_countedShare 17 = .ok (.getfield 31, 3) := by decide +kernel
theorem dX8_countedShare_20 : decode cX8_countedShare 20 = .ok (.invokevirtual 226, 3) := by decide +kernel
theorem dX8_countedShare_23 : decode cX8_countedShare 23 = .ok (.i2f, 1) := by decide +kernel
theorem dX8_countedShare_24 : decode cX8_countedShare 24 = .ok (.iload_n 1, 1) := by decide +kernel
theorem dX8_countedShare_25 : decode cX8_countedShare 25 = .ok (.i2f, 1) := by decide +kernel
theorem dX8_countedShare_26 : decode cX8_countedShare 26 = .ok (.fdiv, 1) := by decide +kernel
theorem dX8_countedShare_27 : decode cX8_countedShare 27 = .ok (.freturn, 1) := by decide +kernel
theorem dX8_queueLength_0 : decode cX8_queueLength 0 = .ok (.aload_n 0, 1) := by decide +kernel
theorem dX8_queueLength_1 : decode cX8_queueLength 1 = .ok (.getfield 31, 3) := by decide +kernel
theorem dX8_queueLength_4 : decode cX8_queueLength 4 = .ok (.iload_n 1, 1) := by decide +kernel
theorem dX8_queueLength_5 : decode cX8_queueLength 5 = .ok (.invokestatic 132, 3) := by decide +kernel
theorem dX8_queueLength_8 : decode cX8_queueLength 8 = .ok (.invokevirtual 229, 3) := by decide +kernel
theorem dX8_queueLength_11 : decode cX8_queueLength 11 = .ok (.getfield 233, 3) := by decide +kernel
theorem dX8_queueLength_14 : decode cX8_queueLength 14 = .ok (.ireturn, 1) := by decide +kernel
theorem dX8_queued_0 : decode cX8_queued 0 = .ok (.aload_n 0, 1) := by decide +kernel
theorem dX8_queued_1 : decode cX8_queued 1 = .ok (.getfield 31, 3) := by decide +kernel
theorem dX8_queued_4 : decode cX8_queued 4 = .ok (.iload_n 1, 1) := by decide +kernel
theorem dX8_queued_5 : decode cX8_queued 5 = .ok (.invokestatic 132, 3) := by decide +kernel
theorem dX8_queued_8 : decode cX8_queued 8 = .ok (.invokevirtual 229, 3) := by decide +kernel
theorem dX8_queued_11 : decode cX8_queued 11 = .ok (.iload_n 2, 1) := by decide +kernel
theorem dX8_queued_12 : decode cX8_queued 12 = .ok (.invokevirtual 238, 3) := by decide +kernel
theorem dX8_queued_15 : decode cX8_queued 15 = .ok (.ireturn, 1) := by decide +kernel
theorem dX8_offer_0 : decode cX8_offer 0 = .ok (.aload_n 0, 1) := by decide +kernel
theorem dX8_offer_1 : decode cX8_offer 1 = .ok (.iload_n 1, 1) := by decide +kernel
theorem dX8_offer_2 : decode cX8_offer 2 = .ok (.invokevirtual 148, 3) := by decide +kernel
theorem dX8_offer_5 : decode cX8_offer 5 = .ok (.aload_n 0, 1) := by decide +kernel
theorem dX8_offer_6 : decode cX8_offer 6 = .ok (.getfield 31, 3) := by decide +kernel
theorem dX8_offer_9 : decode cX8_offer 9 = .ok (.iload_n 1, 1) := by decide +kernel
theorem dX8_offer_10 : decode cX8_offer 10 = .ok (.invokevirtual 241, 3) := by decide +kernel
theorem dX8_offer_13 : decode cX8_offer 13 = .ok (.ireturn, 1) := by decide +kernel
theorem dX8_bridgeCount_0 : decode cX8_bridgeCount 0 = .ok (.aload_n 0, 1) := by decide +kernel
theorem dX8_bridgeCount_1 : decode cX8_bridgeCount 1 = .ok (.getfield 23, 3) := by decide +kernel
theorem dX8_bridgeCount_4 : decode cX8_bridgeCount 4 = .ok (.getfield 244, 3) := by decide +kernel
theorem dX8_bridgeCount_7 : decode cX8_bridgeCount 7 = .ok (.ireturn, 1) := by decide +kernel
theorem dX8_isOpen_0 : decode cX8_isOpen 0 = .ok (.iload_n 1, 1) := by decide +kernel
theorem dX8_isOpen_1 : decode cX8_isOpen 1 = .ok (.ifCond .lt 14, 3) := by decide +kernel
theorem dX8_isOpen_4 : decode cX8_isOpen 4 = .ok (.iload_n 1, 1) := by decide +kernel
theorem dX8_isOpen_5 : decode cX8_isOpen 5 = .ok (.aload_n 0, 1) := by decide +kernel
theorem dX8_isOpen_6 : decode cX8_isOpen 6 = .ok (.getfield 23, 3) := by decide +kernel
theorem dX8_isOpen_9 : decode cX8_isOpen 9 = .ok (.getfield 244, 3) := by decide +kernel
theorem dX8_isOpen_12 : decode cX8_isOpen 12 = .ok (.if_icmp .lt 13, 3) := by decide +kernel
theorem dX8_isOpen_15 : decode cX8_isOpen 15 = .ok (.new 247, 3) := by decide +kernel
theorem dX8_isOpen_18 : decode cX8_isOpen 18 = .ok (.dup, 1) := by decide +kernel
theorem dX8_isOpen_19 : decode cX8_isOpen 19 = .ok (.ldc 249, 2) := by decide +kernel
theorem dX8_isOpen_21 : decode cX8_isOpen 21 = .ok (.invokespecial 251, 3) := by decide +kernel
theorem dX8_isOpen_24 : decode cX8_isOpen 24 = .ok (.athrow, 1) := by decide +kernel
theorem dX8_isOpen_25 : decode cX8_isOpen 25 = .ok (.aload_n 0, 1) := by decide +kernel
theorem dX8_isOpen_26 : decode cX8_isOpen 26 = .ok (.getfield 23, 3) := by decide +kernel
theorem dX8_isOpen_29 : decode cX8_isOpen 29 = .ok (.iload_n 1, 1) := by decide +kernel
theorem dX8_isOpen_30 : decode cX8_isOpen 30 = .ok (.aload_n 0, 1) := by decide +kernel
theorem dX8_isOpen_31 : decode cX8_isOpen 31 = .ok (.getfield 31, 3) := by decide +kernel
theorem dX8_isOpen_34 : decode cX8_isOpen 34 = .ok (.getfield 120, 3) := by decide +kernel
theorem dX8_isOpen_37 : decode cX8_isOpen 37 = .ok (.invokevirtual 252, 3) := by decide +kernel
theorem dX8_isOpen_40 : decode cX8_isOpen 40 = .ok (.ireturn, 1) := by decide +kernel
theorem dX8_room_0 : decode cX8_room 0 = .ok (.aload_n 0, 1) := by decide +kernel
theorem dX8_room_1 : decode cX8_room 1 = .ok (.getfield 23, 3) := by decide +kernel
theorem dX8_room_4 : decode cX8_room 4 = .ok (.aload_n 0, 1) := by decide +kernel
theorem dX8_room_5 : decode cX8_room 5 = .ok (.getfield 31, 3) := by decide +kernel
theorem dX8_room_8 : decode cX8_room 8 = .ok (.getfield 120, 3) := by decide +kernel
theorem dX8_room_11 : decode cX8_room 11 = .ok (.invokevirtual 256, 3) := by decide +kernel
theorem dX8_room_14 : decode cX8_room 14 = .ok (.ireturn, 1) := by decide +kernel
theorem dX8_firstPlaceOffer_0 : decode cX8_firstPlaceOffer 0 = .ok (.aload_n 0, 1) := by decide +kernel
theorem dX8_firstPlaceOffer_1 : decode cX8_firstPlaceOffer 1 = .ok (.iload_n 1, 1) := by decide +kernel
theorem dX8_firstPlaceOffer_2 : decode cX8_firstPlaceOffer 2 = .ok (.invokevirtual 148, 3) := by decide +kernel
theorem dX8_firstPlaceOffer_5 : decode cX8_firstPlaceOffer 5 = .ok (.aload_n 0, 1) := by decide +kernel
theorem dX8_firstPlaceOffer_6 : decode cX8_firstPlaceOffer 6 = .ok (.getfield 31, 3) := by decide +kernel
theorem dX8_firstPlaceOffer_9 : decode cX8_firstPlaceOffer 9 = .ok (.aload_n 0, 1) := by decide +kernel
theorem dX8_firstPlaceOffer_10 : decode cX8_firstPlaceOffer 10 = .ok (.getfield 31, 3) := by decide +kernel
theorem dX8_firstPlaceOffer_13 : decode cX8_firstPlaceOffer 13 = .ok (.getfield 155, 3) := by decide +kernel
theorem dX8_firstPlaceOffer_16 : decode cX8_firstPlaceOffer 16 = .ok (.iload_n 1, 1) := by decide +kernel
theorem dX8_firstPlaceOffer_17 : decode cX8_firstPlaceOffer 17 = .ok (.invokestatic 136, 3) := by decide +kernel
theorem dX8_firstPlaceOffer_20 : decode cX8_firstPlaceOffer 20 = .ok (.invokevirtual 229, 3) := by decide +kernel
theorem dX8_firstPlaceOffer_23 : decode cX8_firstPlaceOffer 23 = .ok (.iload_n 1, 1) := by decide +kernel
theorem dX8_firstPlaceOffer_24 : decode cX8_firstPlaceOffer 24 = .ok (.invokevirtual 259, 3) := by decide +kernel
theorem dX8_firstPlaceOffer_27 : decode cX8_firstPlaceOffer 27 = .ok (.ireturn, 1) := by decide +kernel
theorem dX8_turnsUntilCrossing_0 : decode cX8_turnsUntilCrossing 0 = .ok (.aload_n 0, 1) := by decide +kernel
theorem dX8_turnsUntilCrossing_1 : decode cX8_turnsUntilCrossing 1 = .ok (.iload_n 1, 1) := by decide +kernel
theorem dX8_turnsUntilCrossing_2 : decode cX8_turnsUntilCrossing 2 = .ok (.invokevirtual 148, 3) := by decide +kernel
theorem dX8_turnsUntilCrossing_5 : decode cX8_turnsUntilCrossing 5 = .ok (.aload_n 0, 1) := by decide +kernel
theorem dX8_turnsUntilCrossing_6 : decode cX8_turnsUntilCrossing 6 = .ok (.getfield 35, 3) := by decide +kernel
theorem dX8_turnsUntilCrossing_9 : decode cX8_turnsUntilCrossing 9 = .ok (.aload_n 0, 1) := by decide +kernel
theorem dX8_turnsUntilCrossing_10 : decode cX8_turnsUntilCrossing 10 = .ok (.getfield 31, 3) := by decide +kernel
theorem dX8_turnsUntilCrossing_13 : decode cX8_turnsUntilCrossing 13 = .ok (.invokevirtual 262, 3) := by decide +kernel
theorem dX8_turnsUntilCrossing_16 : decode cX8_turnsUntilCrossing 16 = .ok (.aload_n 0, 1) := by decide +kernel
theorem dX8_turnsUntilCrossing_17 : decode cX8_turnsUntilCrossing 17 = .ok (.getfield 35, 3) := by decide +kernel
theorem dX8_turnsUntilCrossing_20 : decode cX8_turnsUntilCrossing 20 = .ok (.getfield 173, 3) := by decide +kernel
theorem dX8_turnsUntilCrossing_23 : decode cX8_turnsUntilCrossing 23 = .ok (.iload_n 1, 1) := by decide +kernel
theorem dX8_turnsUntilCrossing_24 : decode cX8_turnsUntilCrossing 24 = .ok (.invokestatic 136, 3) := by decide +kernel
theorem dX8_turnsUntilCrossing_27 : decode cX8_turnsUntilCrossing 27 = .ok (.istore_n 2, 1) := by decide +kernel
theorem dX8_turnsUntilCrossing_28 : decode cX8_turnsUntilCrossing 28 = .ok (.iconst 0, 1) := by decide +kernel
theorem dX8_turnsUntilCrossing_29 : decode cX8_turnsUntilCrossing 29 = .ok (.istore_n 3, 1) := by decide +kernel
theorem dX8_turnsUntilCrossing_30 : decode cX8_turnsUntilCrossing 30 = .ok (.iload_n 3, 1) := by decide +kernel
theorem dX8_turnsUntilCrossing_31 : decode cX8_turnsUntilCrossing 31 = .ok (.bipush 100, 2) := by decide +kernel
theorem dX8_turnsUntilCrossing_33 : decode cX8_turnsUntilCrossing 33 = .ok (.if_icmp .ge 46, 3) := by decide +kernel
theorem dX8_turnsUntilCrossing_36 : decode cX8_turnsUntilCrossing 36 = .ok (.aload_n 0, 1) := by decide +kernel
theorem dX8_turnsUntilCrossing_37 : decode cX8_turnsUntilCrossing 37 = .ok (.getfield 35, 3) := by decide +kernel
theorem dX8_turnsUntilCrossing_40 : decode cX8_turnsUntilCrossing 40 = .ok (.iload_n 1, 1) := by decide +kernel
theorem dX8_turnsUntilCrossing_41 : decode cX8_turnsUntilCrossing 41 = .ok (.invokevirtual 241, 3) := by decide +kernel
theorem dX8_turnsUntilCrossing_44 : decode cX8_turnsUntilCrossing 44 = .ok (.iconst (-1), 1) := by decide +kernel
theorem dX8_turnsUntilCrossing_45 : decode cX8_turnsUntilCrossing 45 = .ok (.if_icmp .eq 34, 3) := by decide +kernel
theorem dX8_turnsUntilCrossing_48 : decode cX8_turnsUntilCrossing 48 = .ok (.aload_n 0, 1) := by decide +kernel
theorem dX8_turnsUntilCrossing_49 : decode cX8_turnsUntilCrossing 49 = .ok (.getfield 35, 3) := by decide +kernel
theorem dX8_turnsUntilCrossing_52 : decode cX8_turnsUntilCrossing 52 = .ok (.invokevirtual 265, 3) := by decide +kernel
theorem dX8_turnsUntilCrossing_55 : decode cX8_turnsUntilCrossing 55 = .ok (.pop, 1) := by decide +kernel
theorem dX8_turnsUntilCrossing_56 : decode cX8_turnsUntilCrossing 56 = .ok (.aload_n 0, 1) := by decide +kernel
theorem dX8_turnsUntilCrossing_57 : decode cX8_turnsUntilCrossing 57 = .ok (.getfield 35, 3) := by decide +kernel
theorem dX8_turnsUntilCrossing_60 : decode cX8_turnsUntilCrossing 60 = .ok (.getfield 173, 3) := by decide +kernel
theorem dX8_turnsUntilCrossing_63 : decode cX8_turnsUntilCrossing 63 = .ok (.iload_n 1, 1) := by decide +kernel
theorem dX8_turnsUntilCrossing_64 : decode cX8_turnsUntilCrossing 64 = .ok (.invokestatic 136, 3) := by decide +kernel
theorem dX8_turnsUntilCrossing_67 : decode cX8_turnsUntilCrossing 67 = .ok (.iload_n 2, 1) := by decide +kernel
theorem dX8_turnsUntilCrossing_68 : decode cX8_turnsUntilCrossing 68 = .ok (.if_icmp .eq 5, 3) := by decide +kernel
theorem dX8_turnsUntilCrossing_71 : decode cX8_turnsUntilCrossing 71 = .ok (.iload_n 3, 1) := by decide +kernel
theorem dX8_turnsUntilCrossing_72 : decode cX8_turnsUntilCrossing 72 = .ok (.ireturn, 1) := by decide +kernel
theorem dX8_turnsUntilCrossing_73 : decode cX8_turnsUntilCrossing 73 = .ok (.iinc 3 1, 3) := by decide +kernel
theorem dX8_turnsUntilCrossing_76 : decode cX8_turnsUntilCrossing 76 = .ok (.goto (-46), 3) := by decide +kernel
theorem dX8_turnsUntilCrossing_79 : decode cX8_turnsUntilCrossing 79 = .ok (.iconst (-1), 1) := by decide +kernel
theorem dX8_turnsUntilCrossing_80 : decode cX8_turnsUntilCrossing 80 = .ok (.ireturn, 1) := by decide +kernel
theorem dX8_tollBoxAfter_0 : decode cX8_tollBoxAfter 0 = .ok (.aload_n 0, 1) := by decide +kernel
theorem dX8_tollBoxAfter_1 : decode cX8_tollBoxAfter 1 = .ok (.iload_n 1, 1) := by decide +kernel
theorem dX8_tollBoxAfter_2 : decode cX8_tollBoxAfter 2 = .ok (.invokevirtual 268, 3) := by decide +kernel
theorem dX8_tollBoxAfter_5 : decode cX8_tollBoxAfter 5 = .ok (.aload_n 0, 1) := by decide +kernel
theorem dX8_tollBoxAfter_6 : decode cX8_tollBoxAfter 6 = .ok (.getfield 35, 3) := by decide +kernel
theorem dX8_tollBoxAfter_9 : decode cX8_tollBoxAfter 9 = .ok (.getfield 126, 3) := by decide +kernel
theorem dX8_tollBoxAfter_12 : decode cX8_tollBoxAfter 12 = .ok (.ireturn, 1) := by decide +kernel
theorem dX8_limitAngleAfter_0 : decode cX8_limitAngleAfter 0 = .ok (.aload_n 0, 1) := by decide +kernel
theorem dX8_limitAngleAfter_1 : decode cX8_limitAngleAfter 1 = .ok (.iload_n 1, 1) := by decide +kernel
theorem dX8_limitAngleAfter_2 : decode cX8_limitAngleAfter 2 = .ok (.invokevirtual 268, 3) := by decide +kernel
theorem dX8_limitAngleAfter_5 : decode cX8_limitAngleAfter 5 = .ok (.aload_n 0, 1) := by decide +kernel
theorem dX8_limitAngleAfter_6 : decode cX8_limitAngleAfter 6 = .ok (.getfield 35, 3) := by decide +kernel
theorem dX8_limitAngleAfter_9 : decode cX8_limitAngleAfter 9 = .ok (.getfield 123, 3) := by decide +kernel
theorem dX8_limitAngleAfter_12 : decode cX8_limitAngleAfter 12 = .ok (.ireturn, 1) := by decide +kernel
theorem dX8_crossingObstacle_0 : decode cX8_crossingObstacle 0 = .ok (.aload_n 0, 1) := by decide +kernel
theorem dX8_crossingObstacle_1 : decode cX8_crossingObstacle 1 = .ok (.iload_n 1, 1) := by decide +kernel
theorem dX8_crossingObstacle_2 : decode cX8_crossingObstacle 2 = .ok (.invokevirtual 148, 3) := by decide +kernel
theorem dX8_crossingObstacle_5 : decode cX8_crossingObstacle 5 = .ok (.aload_n 0, 1) := by decide +kernel
theorem dX8_crossingObstacle_6 : decode cX8_crossingObstacle 6 = .ok (.getfield 31, 3) := by decide +kernel
theorem dX8_crossingObstacle_9 : decode cX8_crossingObstacle 9 = .ok (.getfield 120, 3) := by decide +kernel
theorem dX8_crossingObstacle_12 : decode cX8_crossingObstacle 12 = .ok (.sipush 9999, 3) := by decide +kernel
theorem dX8_crossingObstacle_15 : decode cX8_crossingObstacle 15 = .ok (.if_icmp .le 5, 3) := by decide +kernel
theorem dX8_crossingObstacle_18 : decode cX8_crossingObstacle 18 = .ok (.iconst 1, 1) := by decide +kernel
theorem dX8_crossingObstacle_19 : decode cX8_crossingObstacle 19 = .ok (.ireturn, 1) := by decide +kernel
theorem dX8_crossingObstacle_20 : decode cX8_crossingObstacle 20 = .ok (.aload_n 0, 1) := by decide +kernel
theorem dX8_crossingObstacle_21 : decode cX8_crossingObstacle 21 = .ok (.getfield 31, 3) := by decide +kernel
theorem dX8_crossingObstacle_24 : decode cX8_crossingObstacle 24 = .ok (.getfield 155, 3) := by decide +kernel
theorem dX8_crossingObstacle_27 : decode cX8_crossingObstacle 27 = .ok (.iload_n 1, 1) := by decide +kernel
theorem dX8_crossingObstacle_28 : decode cX8_crossingObstacle 28 = .ok (.invokestatic 136, 3) := by decide +kernel
theorem dX8_crossingObstacle_31 : decode cX8_crossingObstacle 31 = .ok (.aload_n 0, 1) := by decide +kernel
theorem dX8_crossingObstacle_32 : decode cX8_crossingObstacle 32 = .ok (.getfield 31, 3) := by decide +kernel
theorem dX8_crossingObstacle_35 : decode cX8_crossingObstacle 35 = .ok (.invokevirtual 271, 3) := by decide +kernel
theorem dX8_crossingObstacle_38 : decode cX8_crossingObstacle 38 = .ok (.if_icmp .eq 5, 3) := by decide +kernel
theorem dX8_crossingObstacle_41 : decode cX8_crossingObstacle 41 = .ok (.iconst 2, 1) := by decide +kernel
theorem dX8_crossingObstacle_42 : decode cX8_crossingObstacle 42 = .ok (.ireturn, 1) := by decide +kernel
theorem dX8_crossingObstacle_43 : decode cX8_crossingObstacle 43 = .ok (.aload_n 0, 1) := by decide +kernel
theorem dX8_crossingObstacle_44 : decode cX8_crossingObstacle 44 = .ok (.getfield 23, 3) := by decide +kernel
theorem dX8_crossingObstacle_47 : decode cX8_crossingObstacle 47 = .ok (.aload_n 0, 1) := by decide +kernel
theorem dX8_crossingObstacle_48 : decode cX8_crossingObstacle 48 = .ok (.getfield 31, 3) := by decide +kernel
theorem dX8_crossingObstacle_51 : decode cX8_crossingObstacle 51 = .ok (.getfield 120, 3) := by decide +kernel
theorem dX8_crossingObstacle_54 : decode cX8_crossingObstacle 54 = .ok (.invokevirtual 256, 3) := by decide +kernel
theorem dX8_crossingObstacle_57 : decode cX8_crossingObstacle 57 = .ok (.ifCond .ne 5, 3) := by decide +kernel
theorem dX8_crossingObstacle_60 : decode cX8_crossingObstacle 60 = .ok (.iconst 3, 1) := by decide +kernel
theorem dX8_crossingObstacle_61 : decode cX8_crossingObstacle 61 = .ok (.ireturn, 1) := by decide +kernel
theorem dX8_crossingObstacle_62 : decode cX8_crossingObstacle 62 = .ok (.aload_n 0, 1) := by decide +kernel
theorem dX8_crossingObstacle_63 : decode cX8_crossingObstacle 63 = .ok (.getfield 31, 3) := by decide +kernel
theorem dX8_crossingObstacle_66 : decode cX8_crossingObstacle 66 = .ok (.iload_n 1, 1) := by decide +kernel
theorem dX8_crossingObstacle_67 : decode cX8_crossingObstacle 67 = .ok (.invokevirtual 196, 3) := by decide +kernel
theorem dX8_crossingObstacle_70 : decode cX8_crossingObstacle 70 = .ok (.iconst 0, 1) := by decide +kernel
theorem dX8_crossingObstacle_71 : decode cX8_crossingObstacle 71 = .ok (.aload_n 0, 1) := by decide +kernel
theorem dX8_crossingObstacle_72 : decode cX8_crossingObstacle 72 = .ok (.getfield 31, 3) := by decide +kernel
theorem dX8_crossingObstacle_75 : decode cX8_crossingObstacle 75 = .ok (.iload_n 1, 1) := by decide +kernel
theorem dX8_crossingObstacle_76 : decode cX8_crossingObstacle 76 = .ok (.invokevirtual 241, 3) := by decide +kernel
theorem dX8_crossingObstacle_79 : decode cX8_crossingObstacle 79 = .ok (.invokestatic 274, 3) := by decide +kernel
theorem dX8_crossingObstacle_82 : decode cX8_crossingObstacle 82 = .ok (.iadd, 1) := by decide +kernel
theorem dX8_crossingObstacle_83 : decode cX8_crossingObstacle 83 = .ok (.istore_n 2, 1) := by decide +kernel
theorem dX8_crossingObstacle_84 : decode cX8_crossingObstacle 84 = .ok (.aload_n 0, 1) := by decide +kernel
theorem dX8_crossingObstacle_85 : decode cX8_crossingObstacle 85 = .ok (.getfield 31, 3) := by decide +kernel
theorem dX8_crossingObstacle_88 : decode cX8_crossingObstacle 88 = .ok (.getfield 158, 3) := by decide +kernel
theorem dX8_crossingObstacle_91 : decode cX8_crossingObstacle 91 = .ok (.iload_n 1, 1) := by decide +kernel
theorem dX8_crossingObstacle_92 : decode cX8_crossingObstacle 92 = .ok (.invokestatic 136, 3) := by decide +kernel
theorem dX8_crossingObstacle_95 : decode cX8_crossingObstacle 95 = .ok (.iload_n 2, 1) := by decide +kernel
theorem dX8_crossingObstacle_96 : decode cX8_crossingObstacle 96 = .ok (.if_icmp .ge 7, 3) := by decide +kernel
theorem dX8_crossingObstacle_99 : decode cX8_crossingObstacle 99 = .ok (.iconst 4, 1) := by decide +kernel
theorem dX8_crossingObstacle_100 : decode cX8_crossingObstacle 100 = .ok (.goto 4, 3) := by decide +kernel
theorem dX8_crossingObstacle_103 : decode cX8_crossingObstacle 103 = .ok (.iconst 0, 1) := by decide +kernel
theorem dX8_crossingObstacle_104 : decode cX8_crossingObstacle 104 = .ok (.ireturn, 1) := by decide +kernel
theorem dX8_coinGap_0 : decode cX8_coinGap 0 = .ok (.aload_n 0, 1) := by decide +kernel
theorem dX8_coinGap_1 : decode cX8_coinGap 1 = .ok (.getfield 31, 3) := by decide +kernel
theorem dX8_coinGap_4 : decode cX8_coinGap 4 = .ok (.invokevirtual 279, 3) := by decide +kernel
theorem dX8_coinGap_7 : decode cX8_coinGap 7 = .ok (.aload_n 0, 1) := by decide +kernel
theorem dX8_coinGap_8 : decode cX8_coinGap 8 = .ok (.getfield 23, 3) := by decide +kernel
theorem dX8_coinGap_11 : decode cX8_coinGap 11 = .ok (.invokevirtual 282, 3) := by decide +kernel
theorem dX8_coinGap_14 : decode cX8_coinGap 14 = .ok (.isub, 1) := by decide +kernel
theorem dX8_coinGap_15 : decode cX8_coinGap 15 = .ok (.invokestatic 283, 3) := by decide +kernel
theorem dX8_coinGap_18 : decode cX8_coinGap 18 = .ok (.ireturn, 1) := by decide +kernel
theorem dX8_dropCoins_0 : decode cX8_dropCoins 0 = .ok (.aload_n 0, 1) := by decide +kernel
theorem dX8_dropCoins_1 : decode cX8_dropCoins 1 = .ok (.getstatic 286, 3) := by decide +kernel
theorem dX8_dropCoins_4 : decode cX8_dropCoins 4 = .ok (.iload_n 1, 1) := by decide +kernel
theorem dX8_dropCoins_5 : decode cX8_dropCoins 5 = .ok (.iload_n 2, 1) := by decide +kernel
theorem dX8_dropCoins_6 : decode cX8_dropCoins 6 = .ok (.invokevirtual 292, 3) := by decide +kernel
theorem dX8_dropCoins_9 : decode cX8_dropCoins 9 = .ok (.aload_n 0, 1) := by decide +kernel
theorem dX8_dropCoins_10 : decode cX8_dropCoins 10 = .ok (.getfield 31, 3) := by decide +kernel
theorem dX8_dropCoins_13 : decode cX8_dropCoins 13 = .ok (.iload_n 1, 1) := by decide +kernel
theorem dX8_dropCoins_14 : decode cX8_dropCoins 14 = .ok (.iload_n 2, 1) := by decide +kernel
theorem dX8_dropCoins_15 : decode cX8_dropCoins 15 = .ok (.invokevirtual 296, 3) := by decide +kernel
theorem dX8_dropCoins_18 : decode cX8_dropCoins 18 = .ok (.ireturn, 1) := by decide +kernel
theorem dX8_pickCoins_0 : decode cX8_pickCoins 0 = .ok (.aload_n 0, 1) := by decide +kernel
theorem dX8_pickCoins_1 : decode cX8_pickCoins 1 = .ok (.getstatic 299, 3) := by decide +kernel
theorem dX8_pickCoins_4 : decode cX8_pickCoins 4 = .ok (.iload_n 1, 1) := by decide +kernel
theorem dX8_pickCoins_5 : decode cX8_pickCoins 5 = .ok (.iload_n 2, 1) := by decide +kernel
theorem dX8_pickCoins_6 : decode cX8_pickCoins 6 = .ok (.invokevirtual 292, 3) := by decide +kernel
theorem dX8_pickCoins_9 : decode cX8_pickCoins 9 = .ok (.aload_n 0, 1) := by decide +kernel
theorem dX8_pickCoins_10 : decode cX8_pickCoins 10 = .ok (.getfield 31, 3) := by decide +kernel
theorem dX8_pickCoins_13 : decode cX8_pickCoins 13 = .ok (.iload_n 1, 1) := by decide +kernel
theorem dX8_pickCoins_14 : decode cX8_pickCoins 14 = .ok (.iload_n 2, 1) := by decide +kernel
theorem dX8_pickCoins_15 : decode cX8_pickCoins 15 = .ok (.invokevirtual 302, 3) := by decide +kernel
theorem dX8_pickCoins_18 : decode cX8_pickCoins 18 = .ok (.ireturn, 1) := by decide +kernel
theorem dX8_layRoyalCoin_0 : decode cX8_layRoyalCoin 0 = .ok (.aload_n 0, 1) := by decide +kernel
theorem dX8_layRoyalCoin_1 : decode cX8_layRoyalCoin 1 = .ok (.getstatic 305, 3) := by decide +kernel
theorem dX8_layRoyalCoin_4 : decode cX8_layRoyalCoin 4 = .ok (.iload_n 1, 1) := by decide +kernel
theorem dX8_layRoyalCoin_5 : decode cX8_layRoyalCoin 5 = .ok (.iload_n 2, 1) := by decide +kernel
theorem dX8_layRoyalCoin_6 : decode cX8_layRoyalCoin 6 = .ok (.invokevirtual 292, 3) := by decide +kernel
theorem dX8_layRoyalCoin_9 : decode cX8_layRoyalCoin 9 = .ok (.aload_n 0, 1) := by decide +kernel
theorem dX8_layRoyalCoin_10 : decode cX8_layRoyalCoin 10 = .ok (.getfield 31, 3) := by decide +kernel
theorem dX8_layRoyalCoin_13 : decode cX8_layRoyalCoin 13 = .ok (.iload_n 1, 1) := by decide +kernel
theorem dX8_layRoyalCoin_14 : decode cX8_layRoyalCoin 14 = .ok (.iload_n 2, 1) := by decide +kernel
theorem dX8_layRoyalCoin_15 : decode cX8_layRoyalCoin 15 = .ok (.invokevirtual 308, 3) := by decide +kernel
theorem dX8_layRoyalCoin_18 : decode cX8_layRoyalCoin 18 = .ok (.ireturn, 1) := by decide +kernel
theorem dX8_liftRoyalCoin_0 : decode cX8_liftRoyalCoin 0 = .ok (.aload_n 0, 1) := by decide +kernel
theorem dX8_liftRoyalCoin_1 : decode cX8_liftRoyalCoin 1 = .ok (.getstatic 311, 3) := by decide +kernel
theorem dX8_liftRoyalCoin_4 : decode cX8_liftRoyalCoin 4 = .ok (.iload_n 1, 1) := by decide +kernel
theorem dX8_liftRoyalCoin_5 : decode cX8_liftRoyalCoin 5 = .ok (.iload_n 2, 1) := by decide +kernel
theorem dX8_liftRoyalCoin_6 : decode cX8_liftRoyalCoin 6 = .ok (.invokevirtual 292, 3) := by decide +kernel
theorem dX8_liftRoyalCoin_9 : decode cX8_liftRoyalCoin 9 = .ok (.aload_n 0, 1) := by decide +kernel
theorem dX8_liftRoyalCoin_10 : decode cX8_liftRoyalCoin 10 = .ok (.getfield 31, 3) := by decide +kernel
theorem dX8_liftRoyalCoin_13 : decode cX8_liftRoyalCoin 13 = .ok (.iload_n 1, 1) := by decide +kernel
theorem dX8_liftRoyalCoin_14 : decode cX8_liftRoyalCoin 14 = .ok (.iload_n 2, 1) := by decide +kernel
theorem dX8_liftRoyalCoin_15 : decode cX8_liftRoyalCoin 15 = .ok (.invokevirtual 314, 3) := by decide +kernel
theorem dX8_liftRoyalCoin_18 : decode cX8_liftRoyalCoin 18 = .ok (.ireturn, 1) := by decide +kernel
theorem dX8_swapRags_0 : decode cX8_swapRags 0 = .ok (.aload_n 0, 1) := by decide +kernel
theorem dX8_swapRags_1 : decode cX8_swapRags 1 = .ok (.getstatic 317, 3) := by decide +kernel
theorem dX8_swapRags_4 : decode cX8_swapRags 4 = .ok (.iload_n 1, 1) := by decide +kernel
theorem dX8_swapRags_5 : decode cX8_swapRags 5 = .ok (.iload_n 2, 1) := by decide +kernel
theorem dX8_swapRags_6 : decode cX8_swapRags 6 = .ok (.invokevirtual 292, 3) := by decide +kernel
theorem dX8_swapRags_9 : decode cX8_swapRags 9 = .ok (.aload_n 0, 1) := by decide +kernel
theorem dX8_swapRags_10 : decode cX8_swapRags 10 = .ok (.getfield 31, 3) := by decide +kernel
theorem dX8_swapRags_13 : decode cX8_swapRags 13 = .ok (.iload_n 1, 1) := by decide +kernel
theorem dX8_swapRags_14 : decode cX8_swapRags 14 = .ok (.iload_n 2, 1) := by decide +kernel
theorem dX8_swapRags_15 : decode cX8_swapRags 15 = .ok (.invokevirtual 320, 3) := by decide +kernel
theorem dX8_swapRags_18 : decode cX8_swapRags 18 = .ok (.ireturn, 1) := by decide +kernel
theorem dX8_joinQueue_0 : decode cX8_joinQueue 0 = .ok (.aload_n 0, 1) := by decide +kernel
theorem dX8_joinQueue_1 : decode cX8_joinQueue 1 = .ok (.getstatic 323, 3) := by decide +kernel
theorem dX8_joinQueue_4 : decode cX8_joinQueue 4 = .ok (.iload_n 1, 1) := by decide +kernel
theorem dX8_joinQueue_5 : decode cX8_joinQueue 5 = .ok (.iload_n 2, 1) := by decide +kernel
theorem dX8_joinQueue_6 : decode cX8_joinQueue 6 = .ok (.invokevirtual 292, 3) := by decide +kernel
theorem dX8_joinQueue_9 : decode cX8_joinQueue 9 = .ok (.aload_n 0, 1) := by decide +kernel
theorem dX8_joinQueue_10 : decode cX8_joinQueue 10 = .ok (.getfield 31, 3) := by decide +kernel
theorem dX8_joinQueue_13 : decode cX8_joinQueue 13 = .ok (.iload_n 1, 1) := by decide +kernel
theorem dX8_joinQueue_14 : decode cX8_joinQueue 14 = .ok (.iload_n 2, 1) := by decide +kernel
theorem dX8_joinQueue_15 : decode cX8_joinQueue 15 = .ok (.invokevirtual 326, 3) := by decide +kernel
theorem dX8_joinQueue_18 : decode cX8_joinQueue 18 = .ok (.ireturn, 1) := by decide +kernel
theorem dX8_quitQueue_0 : decode cX8_quitQueue 0 = .ok (.aload_n 0, 1) := by decide +kernel
theorem dX8_quitQueue_1 : decode cX8_quitQueue 1 = .ok (.getstatic 329, 3) := by decide +kernel
theorem dX8_quitQueue_4 : decode cX8_quitQueue 4 = .ok (.iload_n 1, 1) := by decide +kernel
theorem dX8_quitQueue_5 : decode cX8_quitQueue 5 = .ok (.iconst 0, 1) := by decide +kernel
theorem dX8_quitQueue_6 : decode cX8_quitQueue 6 = .ok (.invokevirtual 292, 3) := by decide +kernel
theorem dX8_quitQueue_9 : decode cX8_quitQueue 9 = .ok (.aload_n 0, 1) := by decide +kernel
theorem dX8_quitQueue_10 : decode cX8_quitQueue 10 = .ok (.getfield 31, 3) := by decide +kernel
theorem dX8_quitQueue_13 : decode cX8_quitQueue 13 = .ok (.iload_n 1, 1) := by decide +kernel
theorem dX8_quitQueue_14 : decode cX8_quitQueue 14 = .ok (.invokevirtual 332, 3) := by decide +kernel
theorem dX8_quitQueue_17 : decode cX8_quitQueue 17 = .ok (.ireturn, 1) := by decide +kernel
theorem dX8_setPride_0 : decode cX8_setPride 0 = .ok (.aload_n 0, 1) := by decide +kernel
theorem dX8_setPride_1 : decode cX8_setPride 1 = .ok (.getstatic 335, 3) := by decide +kernel
theorem dX8_setPride_4 : decode cX8_setPride 4 = .ok (.iload_n 1, 1) := by decide +kernel
theorem dX8_setPride_5 : decode cX8_setPride 5 = .ok (.iload_n 2, 1) := by decide +kernel
theorem dX8_setPride_6 : decode cX8_setPride 6 = .ok (.invokevirtual 292, 3) := by decide +kernel
theorem dX8_setPride_9 : decode cX8_setPride 9 = .ok (.aload_n 0, 1) := by decide +kernel
theorem dX8_setPride_10 : decode cX8_setPride 10 = .ok (.getfield 31, 3) := by decide +kernel
theorem dX8_setPride_13 : decode cX8_setPride 13 = .ok (.iload_n 1, 1) := by decide +kernel
theorem dX8_setPride_14 : decode cX8_setPride 14 = .ok (.iload_n 2, 1) := by decide +kernel
theorem dX8_setPride_15 : decode cX8_setPride 15 = .ok (.invokevirtual 338, 3) := by decide +kernel
theorem dX8_setPride_18 : decode cX8_setPride 18 = .ok (.ireturn, 1) := by decide +kernel
theorem dX8_passTurns_0 : decode cX8_passTurns 0 = .ok (.aload_n 0, 1) := by decide +kernel
theorem dX8_passTurns_1 : decode cX8_passTurns 1 = .ok (.getstatic 341, 3) := by decide +kernel
theorem dX8_passTurns_4 : decode cX8_passTurns 4 = .ok (.iload_n 1, 1) := by decide +kernel
theorem dX8_passTurns_5 : decode cX8_passTurns 5 = .ok (.iconst 0, 1) := by decide +kernel
theorem dX8_passTurns_6 : decode cX8_passTurns 6 = .ok (.invokevirtual 292, 3) := by decide +kernel
theorem dX8_passTurns_9 : decode cX8_passTurns 9 = .ok (.aload_n 0, 1) := by decide +kernel
theorem dX8_passTurns_10 : decode cX8_passTurns 10 = .ok (.getfield 31, 3) := by decide +kernel
theorem dX8_passTurns_13 : decode cX8_passTurns 13 = .ok (.iload_n 1, 1) := by decide +kernel
theorem dX8_passTurns_14 : decode cX8_passTurns 14 = .ok (.invokevirtual 344, 3) := by decide +kernel
theorem dX8_passTurns_17 : decode cX8_passTurns 17 = .ok (.ireturn, 1) := by decide +kernel
theorem dX8_runScript_0 : decode cX8_runScript 0 = .ok (.aload_n 0, 1) := by decide +kernel
theorem dX8_runScript_1 : decode cX8_runScript 1 = .ok (.iload_n 1, 1) := by decide +kernel
theorem dX8_runScript_2 : decode cX8_runScript 2 = .ok (.invokevirtual 81, 3) := by decide +kernel
theorem dX8_runScript_5 : decode cX8_runScript 5 = .ok (.aload_n 0, 1) := by decide +kernel
theorem dX8_runScript_6 : decode cX8_runScript 6 = .ok (.getfield 10, 3) := by decide +kernel
theorem dX8_runScript_9 : decode cX8_runScript 9 = .ok (.iload_n 1, 1) := by decide +kernel
theorem dX8_runScript_10 : decode cX8_runScript 10 = .ok (.invokevirtual 84, 3) := by decide +kernel
theorem dX8_runScript_13 : decode cX8_runScript 13 = .ok (.aload_n 0, 1) := by decide +kernel
theorem dX8_runScript_14 : decode cX8_runScript 14 = .ok (.getfield 51, 3) := by decide +kernel
theorem dX8_runScript_17 : decode cX8_runScript 17 = .ok (.aload_n 0, 1) := by decide +kernel
theorem dX8_runScript_18 : decode cX8_runScript 18 = .ok (.getfield 10, 3) := by decide +kernel
theorem dX8_runScript_21 : decode cX8_runScript 21 = .ok (.invokevirtual 347, 3) := by decide +kernel
theorem dX8_runScript_24 : decode cX8_runScript 24 = .ok (.aload_n 0, 1) := by decide +kernel
theorem dX8_runScript_25 : decode cX8_runScript 25 = .ok (.getfield 10, 3) := by decide +kernel
theorem dX8_runScript_28 : decode cX8_runScript 28 = .ok (.iconst 0, 1) := by decide +kernel
theorem dX8_runScript_29 : decode cX8_runScript 29 = .ok (.putfield 73, 3) := by decide +kernel
theorem dX8_runScript_32 : decode cX8_runScript 32 = .ok (.aload_n 0, 1) := by decide +kernel
theorem dX8_runScript_33 : decode cX8_runScript 33 = .ok (.getfield 10, 3) := by decide +kernel
theorem dX8_runScript_36 : decode cX8_runScript 36 = .ok (.invokevirtual 97, 3) := by decide +kernel
theorem dX8_runScript_39 : decode cX8_runScript 39 = .ok (.ifCond .eq 5, 3) := by decide +kernel
theorem dX8_runScript_42 : decode cX8_runScript 42 = .ok (.iconst (-1), 1) := by decide +kernel
theorem dX8_runScript_43 : decode cX8_runScript 43 = .ok (.ireturn, 1) := by decide +kernel
theorem dX8_runScript_44 : decode cX8_runScript 44 = .ok (.aload_n 0, 1) := by decide +kernel
theorem dX8_runScript_45 : decode cX8_runScript 45 = .ok (.getfield 44, 3) := by decide +kernel
theorem dX8_runScript_48 : decode cX8_runScript 48 = .ok (.aload_n 0, 1) := by decide +kernel
theorem dX8_runScript_49 : decode cX8_runScript 49 = .ok (.getfield 31, 3) := by decide +kernel
theorem dX8_runScript_52 : decode cX8_runScript 52 = .ok (.invokevirtual 351, 3) := by decide +kernel
theorem dX8_runScript_55 : decode cX8_runScript 55 = .ok (.aload_n 0, 1) := by decide +kernel
theorem dX8_runScript_56 : decode cX8_runScript 56 = .ok (.getfield 51, 3) := by decide +kernel
theorem dX8_runScript_59 : decode cX8_runScript 59 = .ok (.aload_n 0, 1) := by decide +kernel
theorem dX8_runScript_60 : decode cX8_runScript 60 = .ok (.getfield 31, 3) := by decide +kernel
theorem dX8_runScript_63 : decode cX8_runScript 63 = .ok (.invokevirtual 354, 3) := by decide +kernel
theorem dX8_runScript_66 : decode cX8_runScript 66 = .ok (.ireturn, 1) := by decide +kernel
theorem dX8_writeQueue_0 : decode cX8_writeQueue 0 = .ok (.aload_n 0, 1) := by decide +kernel
theorem dX8_writeQueue_1 : decode cX8_writeQueue 1 = .ok (.getfield 31, 3) := by decide +kernel
theorem dX8_writeQueue_4 : decode cX8_writeQueue 4 = .ok (.iload_n 1, 1) := by decide +kernel
theorem dX8_writeQueue_5 : decode cX8_writeQueue 5 = .ok (.invokestatic 132, 3) := by decide +kernel
theorem dX8_writeQueue_8 : decode cX8_writeQueue 8 = .ok (.invokevirtual 229, 3) := by decide +kernel
theorem dX8_writeQueue_11 : decode cX8_writeQueue 11 = .ok (.astore_n 2, 1) := by decide +kernel
theorem dX8_writeQueue_12 : decode cX8_writeQueue 12 = .ok (.aload_n 0, 1) := by decide +kernel
theorem dX8_writeQueue_13 : decode cX8_writeQueue 13 = .ok (.iconst 0, 1) := by decide +kernel
theorem dX8_writeQueue_14 : decode cX8_writeQueue 14 = .ok (.putfield 358, 3) := by decide +kernel
theorem dX8_writeQueue_17 : decode cX8_writeQueue 17 = .ok (.iconst 0, 1) := by decide +kernel
theorem dX8_writeQueue_18 : decode cX8_writeQueue 18 = .ok (.istore_n 3, 1) := by decide +kernel
theorem dX8_writeQueue_19 : decode cX8_writeQueue 19 = .ok (.iload_n 3, 1) := by decide +kernel
theorem dX8_writeQueue_20 : decode cX8_writeQueue 20 = .ok (.aload_n 2, 1) := by decide +kernel
theorem dX8_writeQueue_21 : decode cX8_writeQueue 21 = .ok (.getfield 233, 3) := by decide +kernel
theorem dX8_writeQueue_24 : decode cX8_writeQueue 24 = .ok (.if_icmp .ge 65, 3) := by decide +kernel
theorem dX8_writeQueue_27 : decode cX8_writeQueue 27 = .ok (.iload_n 3, 1) := by decide +kernel
theorem dX8_writeQueue_28 : decode cX8_writeQueue 28 = .ok (.ifCond .le 9, 3) := by decide +kernel
theorem dX8_writeQueue_31 : decode cX8_writeQueue 31 = .ok (.aload_n 0, 1) := by decide +kernel
theorem dX8_writeQueue_32 : decode cX8_writeQueue 32 = .ok (.bipush 32, 2) := by decide +kernel
theorem dX8_writeQueue_34 : decode cX8_writeQueue 34 = .ok (.invokevirtual 361, 3) := by decide +kernel
theorem dX8_writeQueue_37 : decode cX8_writeQueue 37 = .ok (.aload_n 2, 1) := by decide +kernel
theorem dX8_writeQueue_38 : decode cX8_writeQueue 38 = .ok (.iload_n 3, 1) := by decide +kernel
theorem dX8_writeQueue_39 : decode cX8_writeQueue 39 = .ok (.invokevirtual 238, 3) := by decide +kernel
theorem dX8_writeQueue_42 : decode cX8_writeQueue 42 = .ok (.istore 4, 2) := by decide +kernel
theorem dX8_writeQueue_44 : decode cX8_writeQueue 44 = .ok (.aload_n 0, 1) := by decide +kernel
theorem dX8_writeQueue_45 : decode cX8_writeQueue 45 = .ok (.iload 4, 2) := by decide +kernel
theorem dX8_writeQueue_47 : decode cX8_writeQueue 47 = .ok (.invokevirtual 364, 3) := by decide +kernel
theorem dX8_writeQueue_50 : decode cX8_writeQueue 50 = .ok (.aload_n 0, 1) := by decide +kernel
theorem dX8_writeQueue_51 : decode cX8_writeQueue 51 = .ok (.bipush 58, 2) := by decide +kernel
theorem dX8_writeQueue_53 : decode cX8_writeQueue 53 = .ok (.invokevirtual 361, 3) := by decide +kernel
theorem dX8_writeQueue_56 : decode cX8_writeQueue 56 = .ok (.aload_n 0, 1) := by decide +kernel
theorem dX8_writeQueue_57 : decode cX8_writeQueue 57 = .ok (.aload_n 2, 1) := by decide +kernel
theorem dX8_writeQueue_58 : decode cX8_writeQueue 58 = .ok (.iload_n 3, 1) := by decide +kernel
theorem dX8_writeQueue_59 : decode cX8_writeQueue 59 = .ok (.invokevirtual 367, 3) := by decide +kernel
theorem dX8_writeQueue_62 : decode cX8_writeQueue 62 = .ok (.invokevirtual 364, 3) := by decide +kernel
theorem dX8_writeQueue_65 : decode cX8_writeQueue 65 = .ok (.aload_n 0, 1) := by decide +kernel
theorem dX8_writeQueue_66 : decode cX8_writeQueue 66 = .ok (.getfield 31, 3) := by decide +kernel
theorem dX8_writeQueue_69 : decode cX8_writeQueue 69 = .ok (.iload 4, 2) := by decide +kernel
theorem dX8_writeQueue_71 : decode cX8_writeQueue 71 = .ok (.invokevirtual 193, 3) := by decide +kernel
theorem dX8_writeQueue_74 : decode cX8_writeQueue 74 = .ok (.ifCond .eq 9, 3) := by decide +kernel
theorem dX8_writeQueue_77 : decode cX8_writeQueue 77 = .ok (.aload_n 0, 1) := by decide +kernel
theorem dX8_writeQueue_78 : decode cX8_writeQueue 78 = .ok (.bipush 33, 2) := by decide +kernel
theorem dX8_writeQueue_80 : decode cX8_writeQueue 80 = .ok (.invokevirtual 361, 3) := by decide +kernel
theorem dX8_writeQueue_83 : decode cX8_writeQueue 83 = .ok (.iinc 3 1, 3) := by decide +kernel
theorem dX8_writeQueue_86 : decode cX8_writeQueue 86 = .ok (.goto (-67), 3) := by decide +kernel
theorem dX8_writeQueue_89 : decode cX8_writeQueue 89 = .ok (.aload_n 0, 1) := by decide +kernel
theorem dX8_writeQueue_90 : decode cX8_writeQueue 90 = .ok (.getfield 358, 3) := by decide +kernel
theorem dX8_writeQueue_93 : decode cX8_writeQueue 93 = .ok (.ireturn, 1) := by decide +kernel
theorem dX8_outputByte_0 : decode cX8_outputByte 0 = .ok (.iload_n 1, 1) := by decide +kernel
theorem dX8_outputByte_1 : decode cX8_outputByte 1 = .ok (.ifCond .lt 11, 3) := by decide +kernel
theorem dX8_outputByte_4 : decode cX8_outputByte 4 = .ok (.iload_n 1, 1) := by decide +kernel
theorem dX8_outputByte_5 : decode cX8_outputByte 5 = .ok (.aload_n 0, 1) := by decide +kernel
theorem dX8_outputByte_6 : decode cX8_outputByte 6 = .ok (.getfield 358, 3) := by decide +kernel
theorem dX8_outputByte_9 : decode cX8_outputByte 9 = .ok (.if_icmp .lt 14, 3) := by decide +kernel
theorem dX8_outputByte_12 : decode cX8_outputByte 12 = .ok (.new 247, 3) := by decide +kernel
theorem dX8_outputByte_15 : decode cX8_outputByte 15 = .ok (.dup, 1) := by decide +kernel
theorem dX8_outputByte_16 : decode cX8_outputByte 16 = .ok (.ldc_w 370, 3) := by decide +kernel
theorem dX8_outputByte_19 : decode cX8_outputByte 19 = .ok (.invokespecial 251, 3) := by decide +kernel
theorem dX8_outputByte_22 : decode cX8_outputByte 22 = .ok (.athrow, 1) := by decide +kernel
theorem dX8_outputByte_23 : decode cX8_outputByte 23 = .ok (.aload_n 0, 1) := by decide +kernel
theorem dX8_outputByte_24 : decode cX8_outputByte 24 = .ok (.getfield 55, 3) := by decide +kernel
theorem dX8_outputByte_27 : decode cX8_outputByte 27 = .ok (.iload_n 1, 1) := by decide +kernel
theorem dX8_outputByte_28 : decode cX8_outputByte 28 = .ok (.invokestatic 136, 3) := by decide +kernel
theorem dX8_outputByte_31 : decode cX8_outputByte 31 = .ok (.ireturn, 1) := by decide +kernel
theorem dX8_undoableCount_0 : decode cX8_undoableCount 0 = .ok (.aload_n 0, 1) := by decide +kernel
theorem dX8_undoableCount_1 : decode cX8_undoableCount 1 = .ok (.getfield 44, 3) := by decide +kernel
theorem dX8_undoableCount_4 : decode cX8_undoableCount 4 = .ok (.getfield 372, 3) := by decide +kernel
theorem dX8_undoableCount_7 : decode cX8_undoableCount 7 = .ok (.ireturn, 1) := by decide +kernel
theorem dX8_undo_0 : decode cX8_undo 0 = .ok (.aload_n 0, 1) := by decide +kernel
theorem dX8_undo_1 : decode cX8_undo 1 = .ok (.getfield 44, 3) := by decide +kernel
theorem dX8_undo_4 : decode cX8_undo 4 = .ok (.getfield 372, 3) := by decide +kernel
theorem dX8_undo_7 : decode cX8_undo 7 = .ok (.ifCond .ne 14, 3) := by decide +kernel
theorem dX8_undo_10 : decode cX8_undo 10 = .ok (.new 375, 3) := by decide +kernel
theorem dX8_undo_13 : decode cX8_undo 13 = .ok (.dup, 1) := by decide +kernel
theorem dX8_undo_14 : decode cX8_undo 14 = .ok (.ldc_w 377, 3) := by decide +kernel
theorem dX8_undo_17 : decode cX8_undo 17 = .ok (.invokespecial 379, 3) := by decide +kernel
theorem dX8_undo_20 : decode cX8_undo 20 = .ok (.athrow, 1) := by decide +kernel
theorem dX8_undo_21 : decode cX8_undo 21 = .ok (.aload_n 0, 1) := by decide +kernel
theorem dX8_undo_22 : decode cX8_undo 22 = .ok (.getfield 44, 3) := by decide +kernel
theorem dX8_undo_25 : decode cX8_undo 25 = .ok (.aload_n 0, 1) := by decide +kernel
theorem dX8_undo_26 : decode cX8_undo 26 = .ok (.getfield 31, 3) := by decide +kernel
theorem dX8_undo_29 : decode cX8_undo 29 = .ok (.invokevirtual 380, 3) := by decide +kernel
theorem dX8_undo_32 : decode cX8_undo 32 = .ok (.aload_n 0, 1) := by decide +kernel
theorem dX8_undo_33 : decode cX8_undo 33 = .ok (.getfield 44, 3) := by decide +kernel
theorem dX8_undo_36 : decode cX8_undo 36 = .ok (.getfield 372, 3) := by decide +kernel
theorem dX8_undo_39 : decode cX8_undo 39 = .ok (.ireturn, 1) := by decide +kernel
theorem dX8_saveSnapshot_0 : decode cX8_saveSnapshot 0 = .ok (.aload_n 0, 1) := by decide +kernel
theorem dX8_saveSnapshot_1 : decode cX8_saveSnapshot 1 = .ok (.getfield 38, 3) := by decide +kernel
theorem dX8_saveSnapshot_4 : decode cX8_saveSnapshot 4 = .ok (.aload_n 0, 1) := by decide +kernel
theorem dX8_saveSnapshot_5 : decode cX8_saveSnapshot 5 = .ok (.getfield 31, 3) := by decide +kernel
theorem dX8_saveSnapshot_8 : decode cX8_saveSnapshot 8 = .ok (.invokevirtual 262, 3) := by decide +kernel
theorem dX8_saveSnapshot_11 : decode cX8_saveSnapshot 11 = .ok (.aload_n 0, 1) := by decide +kernel
theorem dX8_saveSnapshot_12 : decode cX8_saveSnapshot 12 = .ok (.iconst 1, 1) := by decide +kernel
theorem dX8_saveSnapshot_13 : decode cX8_saveSnapshot 13 = .ok (.putfield 107, 3) := by decide +kernel
theorem dX8_saveSnapshot_16 : decode cX8_saveSnapshot 16 = .ok (.return_, 1) := by decide +kernel
theorem dX8_restoreSnapshot_0 : decode cX8_restoreSnapshot 0 = .ok (.aload_n 0, 1) := by decide +kernel
theorem dX8_restoreSnapshot_1 : decode cX8_restoreSnapshot 1 = .ok (.getfield 107, 3) := by decide +kernel
theorem dX8_restoreSnapshot_4 : decode cX8_restoreSnapshot 4 = .ok (.ifCond .ne 14, 3) := by decide +kernel
theorem dX8_restoreSnapshot_7 : decode cX8_restoreSnapshot 7 = .ok (.new 375, 3) := by decide +kernel
theorem dX8_restoreSnapshot_10 : decode cX8_restoreSnapshot 10 = .ok (.dup, 1) := by decide +kernel
theorem dX8_restoreSnapshot_11 : decode cX8_restoreSnapshot 11 = .ok (.ldc_w 383, 3) := by decide +kernel
theorem dX8_restoreSnapshot_14 : decode cX8_restoreSnapshot 14 = .ok (.invokespecial 379, 3) := by decide +kernel
theorem dX8_restoreSnapshot_17 : decode cX8_restoreSnapshot 17 = .ok (.athrow, 1) := by decide +kernel
theorem dX8_restoreSnapshot_18 : decode cX8_restoreSnapshot 18 = .ok (.aload_n 0, 1) := by decide +kernel
theorem dX8_restoreSnapshot_19 : decode cX8_restoreSnapshot 19 = .ok (.getfield 31, 3) := by decide +kernel
theorem dX8_restoreSnapshot_22 : decode cX8_restoreSnapshot 22 = .ok (.aload_n 0, 1) := by decide +kernel
theorem dX8_restoreSnapshot_23 : decode cX8_restoreSnapshot 23 = .ok (.getfield 38, 3) := by decide +kernel
theorem dX8_restoreSnapshot_26 : decode cX8_restoreSnapshot 26 = .ok (.invokevirtual 262, 3) := by decide +kernel
theorem dX8_restoreSnapshot_29 : decode cX8_restoreSnapshot 29 = .ok (.aload_n 0, 1) := by decide +kernel
theorem dX8_restoreSnapshot_30 : decode cX8_restoreSnapshot 30 = .ok (.getfield 44, 3) := by decide +kernel
theorem dX8_restoreSnapshot_33 : decode cX8_restoreSnapshot 33 = .ok (.invokevirtual 104, 3) := by decide +kernel
theorem dX8_restoreSnapshot_36 : decode cX8_restoreSnapshot 36 = .ok (.aload_n 0, 1) := by decide +kernel
theorem dX8_restoreSnapshot_37 : decode cX8_restoreSnapshot 37 = .ok (.getfield 31, 3) := by decide +kernel
theorem dX8_restoreSnapshot_40 : decode cX8_restoreSnapshot 40 = .ok (.getfield 120, 3) := by decide +kernel
theorem dX8_restoreSnapshot_43 : decode cX8_restoreSnapshot 43 = .ok (.ireturn, 1) := by decide +kernel
theorem dX8_requirePerson_0 : decode cX8_requirePerson 0 = .ok (.aload_n 0, 1) := by decide +kernel
theorem dX8_requirePerson_1 : decode cX8_requirePerson 1 = .ok (.getfield 23, 3) := by decide +kernel
theorem dX8_requirePerson_4 : decode cX8_requirePerson 4 = .ok (.iload_n 1, 1) := by decide +kernel
theorem dX8_requirePerson_5 : decode cX8_requirePerson 5 = .ok (.invokevirtual 385, 3) := by decide +kernel
theorem dX8_requirePerson_8 : decode cX8_requirePerson 8 = .ok (.ifCond .ne 14, 3) := by decide +kernel
theorem dX8_requirePerson_11 : decode cX8_requirePerson 11 = .ok (.new 247, 3) := by decide +kernel
theorem dX8_requirePerson_14 : decode cX8_requirePerson 14 = .ok (.dup, 1) := by decide +kernel
theorem dX8_requirePerson_15 : decode cX8_requirePerson 15 = .ok (.ldc_w 388, 3) := by decide +kernel
theorem dX8_requirePerson_18 : decode cX8_requirePerson 18 = .ok (.invokespecial 251, 3) := by decide +kernel
theorem dX8_requirePerson_21 : decode cX8_requirePerson 21 = .ok (.athrow, 1) := by decide +kernel
theorem dX8_requirePerson_22 : decode cX8_requirePerson 22 = .ok (.return_, 1) := by decide +kernel
theorem dX8_requireKing_0 : decode cX8_requireKing 0 = .ok (.aload_n 0, 1) := by decide +kernel
theorem dX8_requireKing_1 : decode cX8_requireKing 1 = .ok (.iload_n 1, 1) := by decide +kernel
theorem dX8_requireKing_2 : decode cX8_requireKing 2 = .ok (.invokevirtual 148, 3) := by decide +kernel
theorem dX8_requireKing_5 : decode cX8_requireKing 5 = .ok (.aload_n 0, 1) := by decide +kernel
theorem dX8_requireKing_6 : decode cX8_requireKing 6 = .ok (.getfield 23, 3) := by decide +kernel
theorem dX8_requireKing_9 : decode cX8_requireKing 9 = .ok (.iload_n 1, 1) := by decide +kernel
theorem dX8_requireKing_10 : decode cX8_requireKing 10 = .ok (.invokevirtual 151, 3) := by decide +kernel
theorem dX8_requireKing_13 : decode cX8_requireKing 13 = .ok (.ifCond .ne 14, 3) := by decide +kernel
theorem dX8_requireKing_16 : decode cX8_requireKing 16 = .ok (.new 179, 3) := by decide +kernel
theorem dX8_requireKing_19 : decode cX8_requireKing 19 = .ok (.dup, 1) := by decide +kernel
theorem dX8_requireKing_20 : decode cX8_requireKing 20 = .ok (.ldc_w 390, 3) := by decide +kernel
theorem dX8_requireKing_23 : decode cX8_requireKing 23 = .ok (.invokespecial 183, 3) := by decide +kernel
theorem dX8_requireKing_26 : decode cX8_requireKing 26 = .ok (.athrow, 1) := by decide +kernel
theorem dX8_requireKing_27 : decode cX8_requireKing 27 = .ok (.return_, 1) := by decide +kernel
theorem dX8_requireLength_0 : decode cX8_requireLength 0 = .ok (.iload_n 1, 1) := by decide +kernel
theorem dX8_requireLength_1 : decode cX8_requireLength 1 = .ok (.ifCond .lt 14, 3) := by decide +kernel
theorem dX8_requireLength_4 : decode cX8_requireLength 4 = .ok (.iload_n 1, 1) := by decide +kernel
theorem dX8_requireLength_5 : decode cX8_requireLength 5 = .ok (.aload_n 0, 1) := by decide +kernel
theorem dX8_requireLength_6 : decode cX8_requireLength 6 = .ok (.getfield 10, 3) := by decide +kernel
theorem dX8_requireLength_9 : decode cX8_requireLength 9 = .ok (.getfield 73, 3) := by decide +kernel
theorem dX8_requireLength_12 : decode cX8_requireLength 12 = .ok (.if_icmp .le 14, 3) := by decide +kernel
theorem dX8_requireLength_15 : decode cX8_requireLength 15 = .ok (.new 179, 3) := by decide +kernel
theorem dX8_requireLength_18 : decode cX8_requireLength 18 = .ok (.dup, 1) := by decide +kernel
theorem dX8_requireLength_19 : decode cX8_requireLength 19 = .ok (.ldc_w 392, 3) := by decide +kernel
theorem dX8_requireLength_22 : decode cX8_requireLength 22 = .ok (.invokespecial 183, 3) := by decide +kernel
theorem dX8_requireLength_25 : decode cX8_requireLength 25 = .ok (.athrow, 1) := by decide +kernel
theorem dX8_requireLength_26 : decode cX8_requireLength 26 = .ok (.return_, 1) := by decide +kernel
theorem dX8_foresee_0 : decode cX8_foresee 0 = .ok (.iload_n 1, 1) := by decide +kernel
theorem dX8_foresee_1 : decode cX8_foresee 1 = .ok (.ifCond .lt 9, 3) := by decide +kernel
theorem dX8_foresee_4 : decode cX8_foresee 4 = .ok (.iload_n 1, 1) := by decide +kernel
theorem dX8_foresee_5 : decode cX8_foresee 5 = .ok (.bipush 100, 2) := by decide +kernel
theorem dX8_foresee_7 : decode cX8_foresee 7 = .ok (.if_icmp .le 14, 3) := by decide +kernel
theorem dX8_foresee_10 : decode cX8_foresee 10 = .ok (.new 179, 3) := by decide +kernel
theorem dX8_foresee_13 : decode cX8_foresee 13 = .ok (.dup, 1) := by decide +kernel
theorem dX8_foresee_14 : decode cX8_foresee 14 = .ok (.ldc_w 394, 3) := by decide +kernel
theorem dX8_foresee_17 : decode cX8_foresee 17 = .ok (.invokespecial 183, 3) := by decide +kernel
theorem dX8_foresee_20 : decode cX8_foresee 20 = .ok (.athrow, 1) := by decide +kernel
theorem dX8_foresee_21 : decode cX8_foresee 21 = .ok (.aload_n 0, 1) := by decide +kernel
theorem dX8_foresee_22 : decode cX8_foresee 22 = .ok (.getfield 35, 3) := by decide +kernel
theorem dX8_foresee_25 : decode cX8_foresee 25 = .ok (.aload_n 0, 1) := by decide +kernel
theorem dX8_foresee_26 : decode cX8_foresee 26 = .ok (.getfield 31, 3) := by decide +kernel
theorem dX8_foresee_29 : decode cX8_foresee 29 = .ok (.invokevirtual 262, 3) := by decide +kernel
theorem dX8_foresee_32 : decode cX8_foresee 32 = .ok (.aload_n 0, 1) := by decide +kernel
theorem dX8_foresee_33 : decode cX8_foresee 33 = .ok (.getfield 35, 3) := by decide +kernel
theorem dX8_foresee_36 : decode cX8_foresee 36 = .ok (.iload_n 1, 1) := by decide +kernel
theorem dX8_foresee_37 : decode cX8_foresee 37 = .ok (.invokevirtual 344, 3) := by decide +kernel
theorem dX8_foresee_40 : decode cX8_foresee 40 = .ok (.pop, 1) := by decide +kernel
theorem dX8_foresee_41 : decode cX8_foresee 41 = .ok (.return_, 1) := by decide +kernel
theorem dX8_allow_0 : decode cX8_allow 0 = .ok (.aload_n 0, 1) := by decide +kernel
theorem dX8_allow_1 : decode cX8_allow 1 = .ok (.getfield 31, 3) := by decide +kernel
theorem dX8_allow_4 : decode cX8_allow 4 = .ok (.aload_n 1, 1) := by decide +kernel
theorem dX8_allow_5 : decode cX8_allow 5 = .ok (.iload_n 2, 1) := by decide +kernel
theorem dX8_allow_6 : decode cX8_allow 6 = .ok (.iload_n 3, 1) := by decide +kernel
theorem dX8_allow_7 : decode cX8_allow 7 = .ok (.invokevirtual 396, 3) := by decide +kernel
theorem dX8_allow_10 : decode cX8_allow 10 = .ok (.istore 4, 2) := by decide +kernel
theorem dX8_allow_12 : decode cX8_allow 12 = .ok (.iload 4, 2) := by decide +kernel
theorem dX8_allow_14 : decode cX8_allow 14 = .ok (.iconst 1, 1) := by decide +kernel
theorem dX8_allow_15 : decode cX8_allow 15 = .ok (.if_icmp .ne 14, 3) := by decide +kernel
theorem dX8_allow_18 : decode cX8_allow 18 = .ok (.new 247, 3) := by decide +kernel
theorem dX8_allow_21 : decode cX8_allow 21 = .ok (.dup, 1) := by decide +kernel
theorem dX8_allow_22 : decode cX8_allow 22 = .ok (.ldc_w 388, 3) := by decide +kernel
theorem dX8_allow_25 : decode cX8_allow 25 = .ok (.invokespecial 251, 3) := by decide +kernel
theorem dX8_allow_28 : decode cX8_allow 28 = .ok (.athrow, 1) := by decide +kernel
theorem dX8_allow_29 : decode cX8_allow 29 = .ok (.iload 4, 2) := by decide +kernel
theorem dX8_allow_31 : decode cX8_allow 31 = .ok (.iconst 2, 1) := by decide +kernel
theorem dX8_allow_32 : decode cX8_allow 32 = .ok (.if_icmp .ne 14, 3) := by decide +kernel
theorem dX8_allow_35 : decode cX8_allow 35 = .ok (.new 179, 3) := by decide +kernel
theorem dX8_allow_38 : decode cX8_allow 38 = .ok (.dup, 1) := by decide +kernel
theorem dX8_allow_39 : decode cX8_allow 39 = .ok (.ldc_w 400, 3) := by decide +kernel
theorem dX8_allow_42 : decode cX8_allow 42 = .ok (.invokespecial 183, 3) := by decide +kernel
theorem dX8_allow_45 : decode cX8_allow 45 = .ok (.athrow, 1) := by decide +kernel
theorem dX8_allow_46 : decode cX8_allow 46 = .ok (.iload 4, 2) := by decide +kernel
theorem dX8_allow_48 : decode cX8_allow 48 = .ok (.iconst 3, 1) := by decide +kernel
theorem dX8_allow_49 : decode cX8_allow 49 = .ok (.if_icmp .ne 14, 3) := by decide +kernel
theorem dX8_allow_52 : decode cX8_allow 52 = .ok (.new 375, 3) := by decide +kernel
theorem dX8_allow_55 : decode cX8_allow 55 = .ok (.dup, 1) := by decide +kernel
theorem dX8_allow_56 : decode cX8_allow 56 = .ok (.ldc_w 402, 3) := by decide +kernel
theorem dX8_allow_59 : decode cX8_allow 59 = .ok (.invokespecial 379, 3) := by decide +kernel
theorem dX8_allow_62 : decode cX8_allow 62 = .ok (.athrow, 1) := by decide +kernel
theorem dX8_allow_63 : decode cX8_allow 63 = .ok (.aload_n 0, 1) := by decide +kernel
theorem dX8_allow_64 : decode cX8_allow 64 = .ok (.getfield 44, 3) := by decide +kernel
theorem dX8_allow_67 : decode cX8_allow 67 = .ok (.aload_n 0, 1) := by decide +kernel
theorem dX8_allow_68 : decode cX8_allow 68 = .ok (.getfield 31, 3) := by decide +kernel
theorem dX8_allow_71 : decode cX8_allow 71 = .ok (.invokevirtual 351, 3) := by decide +kernel
theorem dX8_allow_74 : decode cX8_allow 74 = .ok (.return_, 1) := by decide +kernel
theorem dX8_writeNumber_0 : decode cX8_writeNumber 0 = .ok (.iload_n 1, 1) := by decide +kernel
theorem dX8_writeNumber_1 : decode cX8_writeNumber 1 = .ok (.bipush 10, 2) := by decide +kernel
theorem dX8_writeNumber_3 : decode cX8_writeNumber 3 = .ok (.if_icmp .lt 14, 3) := by decide +kernel
theorem dX8_writeNumber_6 : decode cX8_writeNumber 6 = .ok (.aload_n 0, 1) := by decide +kernel
theorem dX8_writeNumber_7 : decode cX8_writeNumber 7 = .ok (.bipush 48, 2) := by decide +kernel
theorem dX8_writeNumber_9 : decode cX8_writeNumber 9 = .ok (.iload_n 1, 1) := by decide +kernel
theorem dX8_writeNumber_10 : decode cX8_writeNumber 10 = .ok (.bipush 10, 2) := by decide +kernel
theorem dX8_writeNumber_12 : decode cX8_writeNumber 12 = .ok (.idiv, 1) := by decide +kernel
theorem dX8_writeNumber_13 : decode cX8_writeNumber 13 = .ok (.iadd, 1) := by decide +kernel
theorem dX8_writeNumber_14 : decode cX8_writeNumber 14 = .ok (.invokevirtual 361, 3) := by decide +kernel
theorem dX8_writeNumber_17 : decode cX8_writeNumber 17 = .ok (.aload_n 0, 1) := by decide +kernel
theorem dX8_writeNumber_18 : decode cX8_writeNumber 18 = .ok (.bipush 48, 2) := by decide +kernel
theorem dX8_writeNumber_20 : decode cX8_writeNumber 20 = .ok (.iload_n 1, 1) := by decide +kernel
theorem dX8_writeNumber_21 : decode cX8_writeNumber 21 = .ok (.bipush 10, 2) := by decide +kernel
theorem dX8_writeNumber_23 : decode cX8_writeNumber 23 = .ok (.irem, 1) := by decide +kernel
theorem dX8_writeNumber_24 : decode cX8_writeNumber 24 = .ok (.iadd, 1) := by decide +kernel
theorem dX8_writeNumber_25 : decode cX8_writeNumber 25 = .ok (.invokevirtual 361, 3) := by decide +kernel
theorem dX8_writeNumber_28 : decode cX8_writeNumber 28 = .ok (.return_, 1) := by decide +kernel
theorem dX8_writeByte_0 : decode cX8_writeByte 0 = .ok (.aload_n 0, 1) := by decide +kernel
theorem dX8_writeByte_1 : decode cX8_writeByte 1 = .ok (.getfield 358, 3) := by decide +kernel
theorem dX8_writeByte_4 : decode cX8_writeByte 4 = .ok (.aload_n 0, 1) := by decide +kernel
theorem dX8_writeByte_5 : decode cX8_writeByte 5 = .ok (.getfield 55, 3) := by decide +kernel
theorem dX8_writeByte_8 : decode cX8_writeByte 8 = .ok (.arraylength, 1) := by decide +kernel
theorem dX8_writeByte_9 : decode cX8_writeByte 9 = .ok (.if_icmp .ge 25, 3) := by decide +kernel
theorem dX8_writeByte_12 : decode cX8_writeByte 12 = .ok (.aload_n 0, 1) := by decide +kernel
theorem dX8_writeByte_13 : decode cX8_writeByte 13 = .ok (.getfield 55, 3) := by decide +kernel
theorem dX8_writeByte_16 : decode cX8_writeByte 16 = .ok (.aload_n 0, 1) := by decide +kernel
theorem dX8_writeByte_17 : decode cX8_writeByte 17 = .ok (.getfield 358, 3) := by decide +kernel
theorem dX8_writeByte_20 : decode cX8_writeByte 20 = .ok (.iload_n 1, 1) := by decide +kernel
theorem dX8_writeByte_21 : decode cX8_writeByte 21 = .ok (.invokestatic 404, 3) := by decide +kernel
theorem dX8_writeByte_24 : decode cX8_writeByte 24 = .ok (.aload_n 0, 1) := by decide +kernel
theorem dX8_writeByte_25 : decode cX8_writeByte 25 = .ok (.dup, 1) := by decide +kernel
theorem dX8_writeByte_26 : decode cX8_writeByte 26 = .ok (.getfield 358, 3) := by decide +kernel
theorem dX8_writeByte_29 : decode cX8_writeByte 29 = .ok (.iconst 1, 1) := by decide +kernel
theorem dX8_writeByte_30 : decode cX8_writeByte 30 = .ok (.iadd, 1) := by decide +kernel
theorem dX8_writeByte_31 : decode cX8_writeByte 31 = .ok (.putfield 358, 3) := by decide +kernel
theorem dX8_writeByte_34 : decode cX8_writeByte 34 = .ok (.return_, 1) := by decide +kernel
theorem dX8_bankOf_0 : decode cX8_bankOf 0 = .ok (.iload_n 0, 1) := by decide +kernel
theorem dX8_bankOf_1 : decode cX8_bankOf 1 = .ok (.ifCond .eq 7, 3) := by decide +kernel
theorem dX8_bankOf_4 : decode cX8_bankOf 4 = .ok (.iconst 1, 1) := by decide +kernel
theorem dX8_bankOf_5 : decode cX8_bankOf 5 = .ok (.goto 4, 3) := by decide +kernel
theorem dX8_bankOf_8 : decode cX8_bankOf 8 = .ok (.iconst 0, 1) := by decide +kernel
theorem dX8_bankOf_9 : decode cX8_bankOf 9 = .ok (.ireturn, 1) := by decide +kernel
theorem dX8_at_0 : decode cX8_at 0 = .ok (.iload_n 1, 1) := by decide +kernel
theorem dX8_at_1 : decode cX8_at 1 = .ok (.ifCond .lt 15, 3) := by decide +kernel
theorem dX8_at_4 : decode cX8_at 4 = .ok (.iload_n 1, 1) := by decide +kernel
theorem dX8_at_5 : decode cX8_at 5 = .ok (.aload_n 0, 1) := by decide +kernel
theorem dX8_at_6 : decode cX8_at 6 = .ok (.arraylength, 1) := by decide +kernel
theorem dX8_at_7 : decode cX8_at 7 = .ok (.if_icmp .ge 9, 3) := by decide +kernel
theorem dX8_at_10 : decode cX8_at 10 = .ok (.aload_n 0, 1) := by decide +kernel
theorem dX8_at_11 : decode cX8_at 11 = .ok (.iload_n 1, 1) := by decide +kernel
theorem dX8_at_12 : decode cX8_at 12 = .ok (.iaload, 1) := by decide +kernel
theorem dX8_at_13 : decode cX8_at 13 = .ok (.goto 4, 3) := by decide +kernel
theorem dX8_at_16 : decode cX8_at 16 = .ok (.iconst 0, 1) := by decide +kernel
theorem dX8_at_17 : decode cX8_at 17 = .ok (.ireturn, 1) := by decide +kernel
theorem dX8_put_0 : decode cX8_put 0 = .ok (.iload_n 1, 1) := by decide +kernel
theorem dX8_put_1 : decode cX8_put 1 = .ok (.ifCond .lt 13, 3) := by decide +kernel
theorem dX8_put_4 : decode cX8_put 4 = .ok (.iload_n 1, 1) := by decide +kernel
theorem dX8_put_5 : decode cX8_put 5 = .ok (.aload_n 0, 1) := by decide +kernel
theorem dX8_put_6 : decode cX8_put 6 = .ok (.arraylength, 1) := by decide +kernel
theorem dX8_put_7 : decode cX8_put 7 = .ok (.if_icmp .ge 7, 3) := by decide +kernel
theorem dX8_put_10 : decode cX8_put 10 = .ok (.aload_n 0, 1) := by decide +kernel
theorem dX8_put_11 : decode cX8_put 11 = .ok (.iload_n 1, 1) := by decide +kernel
theorem dX8_put_12 : decode cX8_put 12 = .ok (.iload_n 2, 1) := by decide +kernel
theorem dX8_put_13 : decode cX8_put 13 = .ok (.iastore, 1) := by decide +kernel
theorem dX8_put_14 : decode cX8_put 14 = .ok (.return_, 1) := by decide +kernel
theorem dX8_add_0 : decode cX8_add 0 = .ok (.aload_n 0, 1) := by decide +kernel
theorem dX8_add_1 : decode cX8_add 1 = .ok (.iload_n 1, 1) := by decide +kernel
theorem dX8_add_2 : decode cX8_add 2 = .ok (.aload_n 0, 1) := by decide +kernel
theorem dX8_add_3 : decode cX8_add 3 = .ok (.iload_n 1, 1) := by decide +kernel
theorem dX8_add_4 : decode cX8_add 4 = .ok (.invokestatic 136, 3) := by decide +kernel
theorem dX8_add_7 : decode cX8_add 7 = .ok (.iload_n 2, 1) := by decide +kernel
theorem dX8_add_8 : decode cX8_add 8 = .ok (.iadd, 1) := by decide +kernel
theorem dX8_add_9 : decode cX8_add 9 = .ok (.invokestatic 404, 3) := by decide +kernel
theorem dX8_add_12 : decode cX8_add 12 = .ok (.return_, 1) := by decide +kernel
theorem dX8_copyRow_0 : decode cX8_copyRow 0 = .ok (.aload_n 0, 1) := by decide +kernel
theorem dX8_copyRow_1 : decode cX8_copyRow 1 = .ok (.iconst 0, 1) := by decide +kernel
theorem dX8_copyRow_2 : decode cX8_copyRow 2 = .ok (.aload_n 1, 1) := by decide +kernel
theorem dX8_copyRow_3 : decode cX8_copyRow 3 = .ok (.iconst 0, 1) := by decide +kernel
theorem dX8_copyRow_4 : decode cX8_copyRow 4 = .ok (.aload_n 0, 1) := by decide +kernel
theorem dX8_copyRow_5 : decode cX8_copyRow 5 = .ok (.arraylength, 1) := by decide +kernel
theorem dX8_copyRow_6 : decode cX8_copyRow 6 = .ok (.aload_n 1, 1) := by decide +kernel
theorem dX8_copyRow_7 : decode cX8_copyRow 7 = .ok (.arraylength, 1) := by decide +kernel
theorem dX8_copyRow_8 : decode cX8_copyRow 8 = .ok (.invokestatic 408, 3) := by decide +kernel
theorem dX8_copyRow_11 : decode cX8_copyRow 11 = .ok (.invokestatic 411, 3) := by decide +kernel
theorem dX8_copyRow_14 : decode cX8_copyRow 14 = .ok (.return_, 1) := by decide +kernel
theorem dX8_readHeader_0 : decode cX8_readHeader 0 = .ok (.aload_n 0, 1) := by decide +kernel
theorem dX8_readHeader_1 : decode cX8_readHeader 1 = .ok (.ldc_w 417, 3) := by decide +kernel
theorem dX8_readHeader_4 : decode cX8_readHeader 4 = .ok (.invokevirtual 419, 3) := by decide +kernel
theorem dX8_readHeader_7 : decode cX8_readHeader 7 = .ok (.aload_n 0, 1) := by decide +kernel
theorem dX8_readHeader_8 : decode cX8_readHeader 8 = .ok (.iconst 0, 1) := by decide +kernel
theorem dX8_readHeader_9 : decode cX8_readHeader 9 = .ok (.bipush 90, 2) := by decide +kernel
theorem dX8_readHeader_11 : decode cX8_readHeader 11 = .ok (.invokevirtual 422, 3) := by decide +kernel
theorem dX8_readHeader_14 : decode cX8_readHeader 14 = .ok (.istore_n 2, 1) := by decide +kernel
theorem dX8_readHeader_15 : decode cX8_readHeader 15 = .ok (.aload_n 0, 1) := by decide +kernel
theorem dX8_readHeader_16 : decode cX8_readHeader 16 = .ok (.iconst 0, 1) := by decide +kernel
theorem dX8_readHeader_17 : decode cX8_readHeader 17 = .ok (.bipush 9, 2) := by decide +kernel
theorem dX8_readHeader_19 : decode cX8_readHeader 19 = .ok (.invokevirtual 422, 3) := by decide +kernel
theorem dX8_readHeader_22 : decode cX8_readHeader 22 = .ok (.istore_n 3, 1) := by decide +kernel
theorem dX8_readHeader_23 : decode cX8_readHeader 23 = .ok (.aload_n 0, 1) := by decide +kernel
theorem dX8_readHeader_24 : decode cX8_readHeader 24 = .ok (.iconst 0, 1) := by decide +kernel
theorem dX8_readHeader_25 : decode cX8_readHeader 25 = .ok (.bipush 99, 2) := by decide +kernel
theorem dX8_readHeader_27 : decode cX8_readHeader 27 = .ok (.invokevirtual 422, 3) := by decide +kernel
theorem dX8_readHeader_30 : decode cX8_readHeader 30 = .ok (.istore 4, 2) := by decide +kernel
theorem dX8_readHeader_32 : decode cX8_readHeader 32 = .ok (.aload_n 0, 1) := by decide +kernel
theorem dX8_readHeader_33 : decode cX8_readHeader 33 = .ok (.iconst 0, 1) := by decide +kernel
theorem dX8_readHeader_34 : decode cX8_readHeader 34 = .ok (.bipush 99, 2) := by decide +kernel
theorem dX8_readHeader_36 : decode cX8_readHeader 36 = .ok (.invokevirtual 422, 3) := by decide +kernel
theorem dX8_readHeader_39 : decode cX8_readHeader 39 = .ok (.istore 5, 2) := by decide +kernel
theorem dX8_readHeader_41 : decode cX8_readHeader 41 = .ok (.aload_n 0, 1) := by decide +kernel
theorem dX8_readHeader_42 : decode cX8_readHeader 42 = .ok (.invokevirtual 425, 3) := by decide +kernel
theorem dX8_readHeader_45 : decode cX8_readHeader 45 = .ok (.aload_n 1, 1) := by decide +kernel
theorem dX8_readHeader_46 : decode cX8_readHeader 46 = .ok (.iload_n 2, 1) := by decide +kernel
theorem dX8_readHeader_47 : decode cX8_readHeader 47 = .ok (.iload_n 3, 1) := by decide +kernel
theorem dX8_readHeader_48 : decode cX8_readHeader 48 = .ok (.iload 4, 2) := by decide +kernel
theorem dX8_readHeader_50 : decode cX8_readHeader 50 = .ok (.iload 5, 2) := by decide +kernel
theorem dX8_readHeader_52 : decode cX8_readHeader 52 = .ok (.invokevirtual 59, 3) := by decide +kernel
theorem dX8_readHeader_55 : decode cX8_readHeader 55 = .ok (.return_, 1) := by decide +kernel
theorem dX8_readPeople_0 : decode cX8_readPeople 0 = .ok (.iconst 0, 1) := by decide +kernel
theorem dX8_readPeople_1 : decode cX8_readPeople 1 = .ok (.istore_n 2, 1) := by decide +kernel
theorem dX8_readPeople_2 : decode cX8_readPeople 2 = .ok (.iload_n 2, 1) := by decide +kernel
theorem dX8_readPeople_3 : decode cX8_readPeople 3 = .ok (.bipush 10, 2) := by decide +kernel
theorem dX8_readPeople_5 : decode cX8_readPeople 5 = .ok (.if_icmp .gt 35, 3) := by decide +kernel
theorem dX8_readPeople_8 : decode cX8_readPeople 8 = .ok (.aload_n 0, 1) := by decide +kernel
theorem dX8_readPeople_9 : decode cX8_readPeople 9 = .ok (.invokestatic 428, 3) := by decide +kernel
theorem dX8_readPeople_12 : decode cX8_readPeople 12 = .ok (.ifCond .eq 28, 3) := by decide +kernel
theorem dX8_readPeople_15 : decode cX8_readPeople 15 = .ok (.iload_n 2, 1) := by decide +kernel
theorem dX8_readPeople_16 : decode cX8_readPeople 16 = .ok (.bipush 10, 2) := by decide +kernel
theorem dX8_readPeople_18 : decode cX8_readPeople 18 = .ok (.if_icmp .ne 11, 3) := by decide +kernel
theorem dX8_readPeople_21 : decode cX8_readPeople 21 = .ok (.aload_n 0, 1) := by decide +kernel
theorem dX8_readPeople_22 : decode cX8_readPeople 22 = .ok (.iconst 3, 1) := by decide +kernel
theorem dX8_readPeople_23 : decode cX8_readPeople 23 = .ok (.invokevirtual 432, 3) := by decide +kernel
theorem dX8_readPeople_26 : decode cX8_readPeople 26 = .ok (.goto 8, 3) := by decide +kernel
theorem dX8_readPeople_29 : decode cX8_readPeople 29 = .ok (.aload_n 0, 1) := by decide +kernel
theorem dX8_readPeople_30 : decode cX8_readPeople 30 = .ok (.aload_n 1, 1) := by decide +kernel
theorem dX8_readPeople_31 : decode cX8_readPeople 31 = .ok (.invokestatic 435, 3) := by decide +kernel
theorem dX8_readPeople_34 : decode cX8_readPeople 34 = .ok (.iinc 2 1, 3) := by decide +kernel
theorem dX8_readPeople_37 : decode cX8_readPeople 37 = .ok (.goto (-35), 3) := by decide +kernel
theorem dX8_readPeople_40 : decode cX8_readPeople 40 = .ok (.aload_n 1, 1) := by decide +kernel
theorem dX8_readPeople_41 : decode cX8_readPeople 41 = .ok (.getfield 111, 3) := by decide +kernel
theorem dX8_readPeople_44 : decode cX8_readPeople 44 = .ok (.iconst 3, 1) := by decide +kernel
theorem dX8_readPeople_45 : decode cX8_readPeople 45 = .ok (.if_icmp .ge 8, 3) := by decide +kernel
theorem dX8_readPeople_48 : decode cX8_readPeople 48 = .ok (.aload_n 0, 1) := by decide +kernel
theorem dX8_readPeople_49 : decode cX8_readPeople 49 = .ok (.iconst 1, 1) := by decide +kernel
theorem dX8_readPeople_50 : decode cX8_readPeople 50 = .ok (.invokevirtual 432, 3) := by decide +kernel
theorem dX8_readPeople_53 : decode cX8_readPeople 53 = .ok (.return_, 1) := by decide +kernel
theorem dX8_isAtPerson_0 : decode cX8_isAtPerson 0 = .ok (.aload_n 0, 1) := by decide +kernel
theorem dX8_isAtPerson_1 : decode cX8_isAtPerson 1 = .ok (.ldc_w 438, 3) := by decide +kernel
theorem dX8_isAtPerson_4 : decode cX8_isAtPerson 4 = .ok (.invokevirtual 440, 3) := by decide +kernel
theorem dX8_isAtPerson_7 : decode cX8_isAtPerson 7 = .ok (.ifCond .ne 13, 3) := by decide +kernel
theorem dX8_isAtPerson_10 : decode cX8_isAtPerson 10 = .ok (.aload_n 0, 1) := by decide +kernel
theorem dX8_isAtPerson_11 : decode cX8_isAtPerson 11 = .ok (.ldc_w 444, 3) := by decide +kernel
theorem dX8_isAtPerson_14 : decode cX8_isAtPerson 14 = .ok (.invokevirtual 440, 3) := by decide +kernel
theorem dX8_isAtPerson_17 : decode cX8_isAtPerson 17 = .ok (.ifCond .eq 7, 3) := by decide +kernel
theorem dX8_isAtPerson_20 : decode cX8_isAtPerson 20 = .ok (.iconst 1, 1) := by decide +kernel
theorem dX8_isAtPerson_21 : decode cX8_isAtPerson 21 = .ok (.goto 4, 3) := by decide +kernel
theorem dX8_isAtPerson_24 : decode cX8_isAtPerson 24 = .ok (.iconst 0, 1) := by decide +kernel
theorem dX8_isAtPerson_25 : decode cX8_isAtPerson 25 = .ok (.ireturn, 1) := by decide +kernel
theorem dX8_readPerson_0 : decode cX8_readPerson 0 = .ok (.aload_n 0, 1) := by decide +kernel
theorem dX8_readPerson_1 : decode cX8_readPerson 1 = .ok (.ldc_w 444, 3) := by decide +kernel
theorem dX8_readPerson_4 : decode cX8_readPerson 4 = .ok (.ldc_w 438, 3) := by decide +kernel
theorem dX8_readPerson_7 : decode cX8_readPerson 7 = .ok (.invokevirtual 446, 3) := by decide +kernel
theorem dX8_readPerson_10 : decode cX8_readPerson 10 = .ok (.istore_n 2, 1) := by decide +kernel
theorem dX8_readPerson_11 : decode cX8_readPerson 11 = .ok (.aload_n 0, 1) := by decide +kernel
theorem dX8_readPerson_12 : decode cX8_readPerson 12 = .ok (.ldc_w 450, 3) := by decide +kernel
theorem dX8_readPerson_15 : decode cX8_readPerson 15 = .ok (.ldc_w 452, 3) := by decide +kernel
theorem dX8_readPerson_18 : decode cX8_readPerson 18 = .ok (.invokevirtual 446, 3) := by decide +kernel
theorem dX8_readPerson_21 : decode cX8_readPerson 21 = .ok (.istore_n 3, 1) := by decide +kernel
theorem dX8_readPerson_22 : decode cX8_readPerson 22 = .ok (.aload_n 0, 1) := by decide +kernel
theorem dX8_readPerson_23 : decode cX8_readPerson 23 = .ok (.iconst 0, 1) := by decide +kernel
theorem dX8_readPerson_24 : decode cX8_readPerson 24 = .ok (.sipush 999, 3) := by decide +kernel
theorem dX8_readPerson_27 : decode cX8_readPerson 27 = .ok (.invokevirtual 422, 3) := by decide +kernel
theorem dX8_readPerson_30 : decode cX8_readPerson 30 = .ok (.istore 4, 2) := by decide +kernel
theorem dX8_readPerson_32 : decode cX8_readPerson 32 = .ok (.aload_n 0, 1) := by decide +kernel
theorem dX8_readPerson_33 : decode cX8_readPerson 33 = .ok (.iconst 0, 1) := by decide +kernel
theorem dX8_readPerson_34 : decode cX8_readPerson 34 = .ok (.bipush 40, 2) := by decide +kernel
theorem dX8_readPerson_36 : decode cX8_readPerson 36 = .ok (.invokevirtual 422, 3) := by decide +kernel
theorem dX8_readPerson_39 : decode cX8_readPerson 39 = .ok (.istore 5, 2) := by decide +kernel
theorem dX8_readPerson_41 : decode cX8_readPerson 41 = .ok (.aload_n 0, 1) := by decide +kernel
theorem dX8_readPerson_42 : decode cX8_readPerson 42 = .ok (.iconst 0, 1) := by decide +kernel
theorem dX8_readPerson_43 : decode cX8_readPerson 43 = .ok (.bipush 50, 2) := by decide +kernel
theorem dX8_readPerson_45 : decode cX8_readPerson 45 = .ok (.invokevirtual 422, 3) := by decide +kernel
theorem dX8_readPerson_48 : decode cX8_readPerson 48 = .ok (.istore 6, 2) := by decide +kernel
theorem dX8_readPerson_50 : decode cX8_readPerson 50 = .ok (.aload_n 0, 1) := by decide +kernel
theorem dX8_readPerson_51 : decode cX8_readPerson 51 = .ok (.invokevirtual 425, 3) := by decide +kernel
theorem dX8_readPerson_54 : decode cX8_readPerson 54 = .ok (.aload_n 1, 1) := by decide +kernel
theorem dX8_readPerson_55 : decode cX8_readPerson 55 = .ok (.iload_n 2, 1) := by decide +kernel
theorem dX8_readPerson_56 : decode cX8_readPerson 56 = .ok (.iload_n 3, 1) := by decide +kernel
theorem dX8_readPerson_57 : decode cX8_readPerson 57 = .ok (.iload 4, 2) := by decide +kernel
theorem dX8_readPerson_59 : decode cX8_readPerson 59 = .ok (.iload 5, 2) := by decide +kernel
theorem dX8_readPerson_61 : decode cX8_readPerson 61 = .ok (.iload 6, 2) := by decide +kernel
theorem dX8_readPerson_63 : decode cX8_readPerson 63 = .ok (.invokevirtual 63, 3) := by decide +kernel
theorem dX8_readPerson_66 : decode cX8_readPerson 66 = .ok (.return_, 1) := by decide +kernel
theorem dX8_readBridges_0 : decode cX8_readBridges 0 = .ok (.iconst 0, 1) := by decide +kernel
theorem dX8_readBridges_1 : decode cX8_readBridges 1 = .ok (.istore_n 2, 1) := by decide +kernel
theorem dX8_readBridges_2 : decode cX8_readBridges 2 = .ok (.iload_n 2, 1) := by decide +kernel
theorem dX8_readBridges_3 : decode cX8_readBridges 3 = .ok (.iconst 4, 1) := by decide +kernel
theorem dX8_readBridges_4 : decode cX8_readBridges 4 = .ok (.if_icmp .gt 37, 3) := by decide +kernel
theorem dX8_readBridges_7 : decode cX8_readBridges 7 = .ok (.aload_n 0, 1) := by decide +kernel
theorem dX8_readBridges_8 : decode cX8_readBridges 8 = .ok (.ldc_w 454, 3) := by decide +kernel
theorem dX8_readBridges_11 : decode cX8_readBridges 11 = .ok (.invokevirtual 440, 3) := by decide +kernel
theorem dX8_readBridges_14 : decode cX8_readBridges 14 = .ok (.ifCond .eq 27, 3) := by decide +kernel
theorem dX8_readBridges_17 : decode cX8_readBridges 17 = .ok (.iload_n 2, 1) := by decide +kernel
theorem dX8_readBridges_18 : decode cX8_readBridges 18 = .ok (.iconst 4, 1) := by decide +kernel
theorem dX8_readBridges_19 : decode cX8_readBridges 19 = .ok (.if_icmp .ne 11, 3) := by decide +kernel
theorem dX8_readBridges_22 : decode cX8_readBridges 22 = .ok (.aload_n 0, 1) := by decide +kernel
theorem dX8_readBridges_23 : decode cX8_readBridges 23 = .ok (.iconst 3, 1) := by decide +kernel
theorem dX8_readBridges_24 : decode cX8_readBridges 24 = .ok (.invokevirtual 432, 3) := by decide +kernel
theorem dX8_readBridges_27 : decode cX8_readBridges 27 = .ok (.goto 8, 3) := by decide +kernel
theorem dX8_readBridges_30 : decode cX8_readBridges 30 = .ok (.aload_n 0, 1) := by decide +kernel
theorem dX8_readBridges_31 : decode cX8_readBridges 31 = .ok (.aload_n 1, 1) := by decide +kernel
theorem dX8_readBridges_32 : decode cX8_readBridges 32 = .ok (.invokestatic 456, 3) := by decide +kernel
theorem dX8_readBridges_35 : decode cX8_readBridges 35 = .ok (.iinc 2 1, 3) := by decide +kernel
theorem dX8_readBridges_38 : decode cX8_readBridges 38 = .ok (.goto (-36), 3) := by decide +kernel
theorem dX8_readBridges_41 : decode cX8_readBridges 41 = .ok (.aload_n 1, 1) := by decide +kernel
theorem dX8_readBridges_42 : decode cX8_readBridges 42 = .ok (.getfield 244, 3) := by decide +kernel
theorem dX8_readBridges_45 : decode cX8_readBridges 45 = .ok (.ifCond .eq 10, 3) := by decide +kernel
theorem dX8_readBridges_48 : decode cX8_readBridges 48 = .ok (.aload_n 0, 1) := by decide +kernel
theorem dX8_readBridges_49 : decode cX8_readBridges 49 = .ok (.invokevirtual 459, 3) := by decide +kernel
theorem dX8_readBridges_52 : decode cX8_readBridges 52 = .ok (.ifCond .ne 8, 3) := by decide +kernel
theorem dX8_readBridges_55 : decode cX8_readBridges 55 = .ok (.aload_n 0, 1) := by decide +kernel
theorem dX8_readBridges_56 : decode cX8_readBridges 56 = .ok (.iconst 1, 1) := by decide +kernel
theorem dX8_readBridges_57 : decode cX8_readBridges 57 = .ok (.invokevirtual 432, 3) := by decide +kernel
theorem dX8_readBridges_60 : decode cX8_readBridges 60 = .ok (.return_, 1) := by decide +kernel
theorem dX8_readBridge_0 : decode cX8_readBridge 0 = .ok (.aload_n 0, 1) := by decide +kernel
theorem dX8_readBridge_1 : decode cX8_readBridge 1 = .ok (.ldc_w 454, 3) := by decide +kernel
theorem dX8_readBridge_4 : decode cX8_readBridge 4 = .ok (.invokevirtual 419, 3) := by decide +kernel
theorem dX8_readBridge_7 : decode cX8_readBridge 7 = .ok (.aload_n 0, 1) := by decide +kernel
theorem dX8_readBridge_8 : decode cX8_readBridge 8 = .ok (.iconst 1, 1) := by decide +kernel
theorem dX8_readBridge_9 : decode cX8_readBridge 9 = .ok (.bipush 9, 2) := by decide +kernel
theorem dX8_readBridge_11 : decode cX8_readBridge 11 = .ok (.invokevirtual 422, 3) := by decide +kernel
theorem dX8_readBridge_14 : decode cX8_readBridge 14 = .ok (.istore_n 2, 1) := by decide +kernel
theorem dX8_readBridge_15 : decode cX8_readBridge 15 = .ok (.aload_n 0, 1) := by decide +kernel
theorem dX8_readBridge_16 : decode cX8_readBridge 16 = .ok (.iconst 0, 1) := by decide +kernel
theorem dX8_readBridge_17 : decode cX8_readBridge 17 = .ok (.iload_n 2, 1) := by decide +kernel
theorem dX8_readBridge_18 : decode cX8_readBridge 18 = .ok (.iconst 1, 1) := by decide +kernel
theorem dX8_readBridge_19 : decode cX8_readBridge 19 = .ok (.isub, 1) := by decide +kernel
theorem dX8_readBridge_20 : decode cX8_readBridge 20 = .ok (.invokevirtual 422, 3) := by decide +kernel
theorem dX8_readBridge_23 : decode cX8_readBridge 23 = .ok (.istore_n 3, 1) := by decide +kernel
theorem dX8_readBridge_24 : decode cX8_readBridge 24 = .ok (.aload_n 0, 1) := by decide +kernel
theorem dX8_readBridge_25 : decode cX8_readBridge 25 = .ok (.iconst 1, 1) := by decide +kernel
theorem dX8_readBridge_26 : decode cX8_readBridge 26 = .ok (.iconst 3, 1) := by decide +kernel
theorem dX8_readBridge_27 : decode cX8_readBridge 27 = .ok (.invokevirtual 422, 3) := by decide +kernel
theorem dX8_readBridge_30 : decode cX8_readBridge 30 = .ok (.istore 4, 2) := by decide +kernel
theorem dX8_readBridge_32 : decode cX8_readBridge 32 = .ok (.aload_n 0, 1) := by decide +kernel
theorem dX8_readBridge_33 : decode cX8_readBridge 33 = .ok (.invokevirtual 425, 3) := by decide +kernel
theorem dX8_readBridge_36 : decode cX8_readBridge 36 = .ok (.aload_n 1, 1) := by decide +kernel
theorem dX8_readBridge_37 : decode cX8_readBridge 37 = .ok (.iload_n 2, 1) := by decide +kernel
theorem dX8_readBridge_38 : decode cX8_readBridge 38 = .ok (.iload_n 3, 1) := by decide +kernel
theorem dX8_readBridge_39 : decode cX8_readBridge 39 = .ok (.iload 4, 2) := by decide +kernel
theorem dX8_readBridge_41 : decode cX8_readBridge 41 = .ok (.invokevirtual 67, 3) := by decide +kernel
theorem dX8_readBridge_44 : decode cX8_readBridge 44 = .ok (.return_, 1) := by decide +kernel
theorem dX9_thrown_0 : decode cX9_thrown 0 = .ok (.aload_n 0, 1) := by decide +kernel
theorem dX9_thrown_1 : decode cX9_thrown 1 = .ok (.getfield 1, 3) := by decide +kernel
theorem dX9_thrown_4 : decode cX9_thrown 4 = .ok (.ireturn, 1) := by decide +kernel
theorem dX9_in_0 : decode cX9_in 0 = .ok (.iload_n 0, 1) := by decide +kernel
theorem dX9_in_1 : decode cX9_in 1 = .ok (.iload_n 1, 1) := by decide +kernel
theorem dX9_in_2 : decode cX9_in 2 = .ok (.if_icmp .lt 12, 3) := by decide +kernel
theorem dX9_in_5 : decode cX9_in 5 = .ok (.iload_n 0, 1) := by decide +kernel
theorem dX9_in_6 : decode cX9_in 6 = .ok (.iload_n 2, 1) := by decide +kernel
theorem dX9_in_7 : decode cX9_in 7 = .ok (.if_icmp .gt 7, 3) := by decide +kernel
theorem dX9_in_10 : decode cX9_in 10 = .ok (.iconst 1, 1) := by decide +kernel
theorem dX9_in_11 : decode cX9_in 11 = .ok (.goto 4, 3) := by decide +kernel
theorem dX9_in_14 : decode cX9_in 14 = .ok (.iconst 0, 1) := by decide +kernel
theorem dX9_in_15 : decode cX9_in 15 = .ok (.ireturn, 1) := by decide +kernel
theorem dX9_fails_0 : decode cX9_fails 0 = .ok (.iload_n 1, 1) := by decide +kernel
theorem dX9_fails_1 : decode cX9_fails 1 = .ok (.ifCond .ne 15, 3) := by decide +kernel
theorem dX9_fails_4 : decode cX9_fails 4 = .ok (.aload_n 0, 1) := by decide +kernel
theorem dX9_fails_5 : decode cX9_fails 5 = .ok (.getfield 1, 3) := by decide +kernel
theorem dX9_fails_8 : decode cX9_fails 8 = .ok (.ifCond .ne 8, 3) := by decide +kernel
theorem dX9_fails_11 : decode cX9_fails 11 = .ok (.aload_n 0, 1) := by decide +kernel
theorem dX9_fails_12 : decode cX9_fails 12 = .ok (.iload_n 2, 1) := by decide +kernel
theorem dX9_fails_13 : decode cX9_fails 13 = .ok (.putfield 1, 3) := by decide +kernel
theorem dX9_fails_16 : decode cX9_fails 16 = .ok (.aload_n 0, 1) := by decide +kernel
theorem dX9_fails_17 : decode cX9_fails 17 = .ok (.getfield 1, 3) := by decide +kernel
theorem dX9_fails_20 : decode cX9_fails 20 = .ok (.ifCond .eq 7, 3) := by decide +kernel
theorem dX9_fails_23 : decode cX9_fails 23 = .ok (.iconst 1, 1) := by decide +kernel
theorem dX9_fails_24 : decode cX9_fails 24 = .ok (.goto 4, 3) := by decide +kernel
theorem dX9_fails_27 : decode cX9_fails 27 = .ok (.iconst 0, 1) := by decide +kernel
theorem dX9_fails_28 : decode cX9_fails 28 = .ok (.ireturn, 1) := by decide +kernel
theorem dX9_truth_0 : decode cX9_truth 0 = .ok (.iload_n 0, 1) := by decide +kernel
theorem dX9_truth_1 : decode cX9_truth 1 = .ok (.ifCond .eq 7, 3) := by decide +kernel
theorem dX9_truth_4 : decode cX9_truth 4 = .ok (.iconst 1, 1) := by decide +kernel
theorem dX9_truth_5 : decode cX9_truth 5 = .ok (.goto 4, 3) := by decide +kernel
theorem dX9_truth_8 : decode cX9_truth 8 = .ok (.iconst 0, 1) := by decide +kernel
theorem dX9_truth_9 : decode cX9_truth 9 = .ok (.ireturn, 1) := by decide +kernel
theorem dX9_plain_0 : decode cX9_plain 0 = .ok (.iload_n 0, 1) := by decide +kernel
theorem dX9_plain_1 : decode cX9_plain 1 = .ok (.ifCond .ge 8, 3) := by decide +kernel
theorem dX9_plain_4 : decode cX9_plain 4 = .ok (.iload_n 0, 1) := by decide +kernel
theorem dX9_plain_5 : decode cX9_plain 5 = .ok (.ineg, 1) := by decide +kernel
theorem dX9_plain_6 : decode cX9_plain 6 = .ok (.goto 4, 3) := by decide +kernel
theorem dX9_plain_9 : decode cX9_plain 9 = .ok (.iload_n 0, 1) := by decide +kernel
theorem dX9_plain_10 : decode cX9_plain 10 = .ok (.ireturn, 1) := by decide +kernel
theorem dX9_init_0 : decode cX9_init 0 = .ok (.aload_n 0, 1) := by decide +kernel
theorem dX9_init_1 : decode cX9_init 1 = .ok (.invokespecial 7, 3) := by decide +kernel
theorem dX9_init_4 : decode cX9_init 4 = .ok (.aload_n 0, 1) := by decide +kernel
theorem dX9_init_5 : decode cX9_init 5 = .ok (.sipush 144, 3) := by decide +kernel
theorem dX9_init_8 : decode cX9_init 8 = .ok (.newarray .int, 2) := by decide +kernel
theorem dX9_init_10 : decode cX9_init 10 = .ok (.putfield 13, 3) := by decide +kernel
theorem dX9_init_13 : decode cX9_init 13 = .ok (.aload_n 0, 1) := by decide +kernel
theorem dX9_init_14 : decode cX9_init 14 = .ok (.sipush 144, 3) := by decide +kernel
theorem dX9_init_17 : decode cX9_init 17 = .ok (.newarray .int, 2) := by decide +kernel
theorem dX9_init_19 : decode cX9_init 19 = .ok (.putfield 17, 3) := by decide +kernel
theorem dX9_init_22 : decode cX9_init 22 = .ok (.aload_n 0, 1) := by decide +kernel
theorem dX9_init_23 : decode cX9_init 23 = .ok (.sipush 144, 3) := by decide +kernel
theorem dX9_init_26 : decode cX9_init 26 = .ok (.newarray .int, 2) := by decide +kernel
theorem dX9_init_28 : decode cX9_init 28 = .ok (.putfield 20, 3) := by decide +kernel
theorem dX9_init_31 : decode cX9_init 31 = .ok (.aload_n 0, 1) := by decide +kernel
theorem dX9_init_32 : decode cX9_init 32 = .ok (.sipush 144, 3) := by decide +kernel
theorem dX9_init_35 : decode cX9_init 35 = .ok (.newarray .int, 2) := by decide +kernel
theorem dX9_init_37 : decode cX9_init 37 = .ok (.putfield 23, 3) := by decide +kernel
theorem dX9_init_40 : decode cX9_init 40 = .ok (.aload_n 0, 1) := by decide +kernel
theorem dX9_init_41 : decode cX9_init 41 = .ok (.sipush 1152, 3) := by decide +kernel
theorem dX9_init_44 : decode cX9_init 44 = .ok (.newarray .int, 2) := by decide +kernel
theorem dX9_init_46 : decode cX9_init 46 = .ok (.putfield 26, 3) := by decide +kernel
theorem dX9_init_49 : decode cX9_init 49 = .ok (.aload_n 0, 1) := by decide +kernel
theorem dX9_init_50 : decode cX9_init 50 = .ok (.sipush 500, 3) := by decide +kernel
theorem dX9_init_53 : decode cX9_init 53 = .ok (.newarray .int, 2) := by decide +kernel
theorem dX9_init_55 : decode cX9_init 55 = .ok (.putfield 29, 3) := by decide +kernel
theorem dX9_init_58 : decode cX9_init 58 = .ok (.aload_n 0, 1) := by decide +kernel
theorem dX9_init_59 : decode cX9_init 59 = .ok (.iconst (-1), 1) := by decide +kernel
theorem dX9_init_60 : decode cX9_init 60 = .ok (.putfield 32, 3) := by decide +kernel
theorem dX9_init_63 : decode cX9_init 63 = .ok (.aload_n 0, 1) := by decide +kernel
theorem dX9_init_64 : decode cX9_init 64 = .ok (.bipush 60, 2) := by decide +kernel
theorem dX9_init_66 : decode cX9_init 66 = .ok (.newarray .int, 2) := by decide +kernel
theorem dX9_init_68 : decode cX9_init 68 = .ok (.putfield 35, 3) := by decide +kernel
theorem dX9_init_71 : decode cX9_init 71 = .ok (.aload_n 0, 1) := by decide +kernel
theorem dX9_init_72 : decode cX9_init 72 = .ok (.bipush 80, 2) := by decide +kernel
theorem dX9_init_74 : decode cX9_init 74 = .ok (.newarray .int, 2) := by decide +kernel
theorem dX9_init_76 : decode cX9_init 76 = .ok (.putfield 38, 3) := by decide +kernel
theorem dX9_init_79 : decode cX9_init 79 = .ok (.ldc 41, 2) := by decide +kernel
theorem dX9_init_81 : decode cX9_init 81 = .ok (.astore_n 1, 1) := by decide +kernel
theorem dX9_init_82 : decode cX9_init 82 = .ok (.iconst 0, 1) := by decide +kernel
theorem dX9_init_83 : decode cX9_init 83 = .ok (.istore_n 2, 1) := by decide +kernel
theorem dX9_init_84 : decode cX9_init 84 = .ok (.iload_n 2, 1) := by decide +kernel
theorem dX9_init_85 : decode cX9_init 85 = .ok (.aload_n 1, 1) := by decide +kernel
theorem dX9_init_86 : decode cX9_init 86 = .ok (.invokevirtual 43, 3) := by decide +kernel
theorem dX9_init_89 : decode cX9_init 89 = .ok (.if_icmp .ge 20, 3) := by decide +kernel
theorem dX9_init_92 : decode cX9_init 92 = .ok (.aload_n 0, 1) := by decide +kernel
theorem dX9_init_93 : decode cX9_init 93 = .ok (.getfield 29, 3) := by decide +kernel
theorem dX9_init_96 : decode cX9_init 96 = .ok (.iload_n 2, 1) := by decide +kernel
theorem dX9_init_97 : decode cX9_init 97 = .ok (.aload_n 1, 1) := by decide +kernel
theorem dX9_init_98 : decode cX9_init 98 = .ok (.iload_n 2, 1) := by decide +kernel
theorem dX9_init_99 : decode cX9_init 99 = .ok (.invokevirtual 49, 3) := by decide +kernel
theorem dX9_init_102 : decode cX9_init 102 = .ok (.iastore, 1) := by decide +kernel
theorem dX9_init_103 : decode cX9_init 103 = .ok (.iinc 2 1, 3) := by decide +kernel
theorem dX9_init_106 : decode cX9_init 106 = .ok (.goto (-22), 3) := by decide +kernel
theorem dX9_init_109 : decode cX9_init 109 = .ok (.aload_n 0, 1) := by decide +kernel
theorem dX9_init_110 : decode cX9_init 110 = .ok (.aload_n 1, 1) := by decide +kernel
theorem dX9_init_111 : decode cX9_init 111 = .ok (.invokevirtual 43, 3) := by decide +kernel
theorem dX9_init_114 : decode cX9_init 114 = .ok (.putfield 53, 3) := by decide +kernel
theorem dX9_init_117 : decode cX9_init 117 = .ok (.aload_n 0, 1) := by decide +kernel
theorem dX9_init_118 : decode cX9_init 118 = .ok (.aload_n 0, 1) := by decide +kernel
theorem dX9_init_119 : decode cX9_init 119 = .ok (.getfield 53, 3) := by decide +kernel
theorem dX9_init_122 : decode cX9_init 122 = .ok (.invokevirtual 56, 3) := by decide +kernel
theorem dX9_init_125 : decode cX9_init 125 = .ok (.istore_n 2, 1) := by decide +kernel
theorem dX9_init_126 : decode cX9_init 126 = .ok (.return_, 1) := by decide +kernel
theorem dX9_copies_0 : decode cX9_copies 0 = .ok (.iconst 0, 1) := by decide +kernel
theorem dX9_copies_1 : decode cX9_copies 1 = .ok (.istore 5, 2) := by decide +kernel
theorem dX9_copies_3 : decode cX9_copies 3 = .ok (.iload 5, 2) := by decide +kernel
theorem dX9_copies_5 : decode cX9_copies 5 = .ok (.iload 4, 2) := by decide +kernel
theorem dX9_copies_7 : decode cX9_copies 7 = .ok (.if_icmp .ge 21, 3) := by decide +kernel
theorem dX9_copies_10 : decode cX9_copies 10 = .ok (.aload_n 2, 1) := by decide +kernel
theorem dX9_copies_11 : decode cX9_copies 11 = .ok (.iload_n 3, 1) := by decide +kernel
theorem dX9_copies_12 : decode cX9_copies 12 = .ok (.iload 5, 2) := by decide +kernel
theorem dX9_copies_14 : decode cX9_copies 14 = .ok (.iadd, 1) := by decide +kernel
theorem dX9_copies_15 : decode cX9_copies 15 = .ok (.aload_n 0, 1) := by decide +kernel
theorem dX9_copies_16 : decode cX9_copies 16 = .ok (.iload_n 1, 1) := by decide +kernel
theorem dX9_copies_17 : decode cX9_copies 17 = .ok (.iload 5, 2) := by decide +kernel
theorem dX9_copies_19 : decode cX9_copies 19 = .ok (.iadd, 1) := by decide +kernel
theorem dX9_copies_20 : decode cX9_copies 20 = .ok (.iaload, 1) := by decide +kernel
theorem dX9_copies_21 : decode cX9_copies 21 = .ok (.iastore, 1) := by decide +kernel
theorem dX9_copies_22 : decode cX9_copies 22 = .ok (.iinc 5 1, 3) := by decide +kernel
theorem dX9_copies_25 : decode cX9_copies 25 = .ok (.goto (-22), 3) := by decide +kernel
theorem dX9_copies_28 : decode cX9_copies 28 = .ok (.return_, 1) := by decide +kernel
theorem dX9_of_0 : decode cX9_of 0 = .ok (.aload_n 0, 1) := by decide +kernel
theorem dX9_of_1 : decode cX9_of 1 = .ok (.getfield 13, 3) := by decide +kernel
theorem dX9_of_4 : decode cX9_of 4 = .ok (.bipush 12, 2) := by decide +kernel
theorem dX9_of_6 : decode cX9_of 6 = .ok (.bipush 8, 2) := by decide +kernel
theorem dX9_of_8 : decode cX9_of 8 = .ok (.iload_n 1, 1) := by decide +kernel
theorem dX9_of_9 : decode cX9_of 9 = .ok (.imul, 1) := by decide +kernel
theorem dX9_of_10 : decode cX9_of 10 = .ok (.iadd, 1) := by decide +kernel
theorem dX9_of_11 : decode cX9_of 11 = .ok (.iload_n 2, 1) := by decide +kernel
theorem dX9_of_12 : decode cX9_of 12 = .ok (.iadd, 1) := by decide +kernel
theorem dX9_of_13 : decode cX9_of 13 = .ok (.iaload, 1) := by decide +kernel
theorem dX9_of_14 : decode cX9_of 14 = .ok (.ireturn, 1) := by decide +kernel
theorem dX9_lays_0 : decode cX9_lays 0 = .ok (.aload_n 0, 1) := by decide +kernel
theorem dX9_lays_1 : decode cX9_lays 1 = .ok (.getfield 13, 3) := by decide +kernel
theorem dX9_lays_4 : decode cX9_lays 4 = .ok (.bipush 12, 2) := by decide +kernel
theorem dX9_lays_6 : decode cX9_lays 6 = .ok (.bipush 8, 2) := by decide +kernel
theorem dX9_lays_8 : decode cX9_lays 8 = .ok (.iload_n 1, 1) := by decide +kernel
theorem dX9_lays_9 : decode cX9_lays 9 = .ok (.imul, 1) := by decide +kernel
theorem dX9_lays_10 : decode cX9_lays 10 = .ok (.iadd, 1) := by decide +kernel
theorem dX9_lays_11 : decode cX9_lays 11 = .ok (.iload_n 2, 1) := by decide +kernel
theorem dX9_lays_12 : decode cX9_lays 12 = .ok (.iadd, 1) := by decide +kernel
theorem dX9_lays_13 : decode cX9_lays 13 = .ok (.iload_n 3, 1) := by decide +kernel
theorem dX9_lays_14 : decode cX9_lays 14 = .ok (.iastore, 1) := by decide +kernel
theorem dX9_lays_15 : decode cX9_lays 15 = .ok (.return_, 1) := by decide +kernel
theorem dX9_ofRoyal_0 : decode cX9_ofRoyal 0 = .ok (.aload_n 0, 1) := by decide +kernel
theorem dX9_ofRoyal_1 : decode cX9_ofRoyal 1 = .ok (.getfield 13, 3) := by decide +kernel
theorem dX9_ofRoyal_4 : decode cX9_ofRoyal 4 = .ok (.bipush 102, 2) := by decide +kernel
theorem dX9_ofRoyal_6 : decode cX9_ofRoyal 6 = .ok (.iconst 3, 1) := by decide +kernel
theorem dX9_ofRoyal_7 : decode cX9_ofRoyal 7 = .ok (.iload_n 1, 1) := by decide +kernel
theorem dX9_ofRoyal_8 : decode cX9_ofRoyal 8 = .ok (.imul, 1) := by decide +kernel
theorem dX9_ofRoyal_9 : decode cX9_ofRoyal 9 = .ok (.iadd, 1) := by decide +kernel
theorem dX9_ofRoyal_10 : decode cX9_ofRoyal 10 = .ok (.iload_n 2, 1) := by decide +kernel
theorem dX9_ofRoyal_11 : decode cX9_ofRoyal 11 = .ok (.iadd, 1) := by decide +kernel
theorem dX9_ofRoyal_12 : decode cX9_ofRoyal 12 = .ok (.iaload, 1) := by decide +kernel
theorem dX9_ofRoyal_13 : decode cX9_ofRoyal 13 = .ok (.ireturn, 1) := by decide +kernel
theorem dX9_laysRoyal_0 : decode cX9_laysRoyal 0 = .ok (.aload_n 0, 1) := by decide +kernel
theorem dX9_laysRoyal_1 : decode cX9_laysRoyal 1 = .ok (.getfield 13, 3) := by decide +kernel
theorem dX9_laysRoyal_4 : decode cX9_laysRoyal 4 = .ok (.bipush 102, 2) := by decide +kernel
theorem dX9_laysRoyal_6 : decode cX9_laysRoyal 6 = .ok (.iconst 3, 1) := by decide +kernel
theorem dX9_laysRoyal_7 : decode cX9_laysRoyal 7 = .ok (.iload_n 1, 1) := by decide +kernel
theorem dX9_laysRoyal_8 : decode cX9_laysRoyal 8 = .ok (.imul, 1) := by decide +kernel
theorem dX9_laysRoyal_9 : decode cX9_laysRoyal 9 = .ok (.iadd, 1) := by decide +kernel
theorem dX9_laysRoyal_10 : decode cX9_laysRoyal 10 = .ok (.iload_n 2, 1) := by decide +kernel
theorem dX9_laysRoyal_11 : decode cX9_laysRoyal 11 = .ok (.iadd, 1) := by decide +kernel
theorem dX9_laysRoyal_12 : decode cX9_laysRoyal 12 = .ok (.iload_n 3, 1) := by decide +kernel
theorem dX9_laysRoyal_13 : decode cX9_laysRoyal 13 = .ok (.iastore, 1) := by decide +kernel
theorem dX9_laysRoyal_14 : decode cX9_laysRoyal 14 = .ok (.return_, 1) := by decide +kernel
theorem dX9_ofBridge_0 : decode cX9_ofBridge 0 = .ok (.aload_n 0, 1) := by decide +kernel
theorem dX9_ofBridge_1 : decode cX9_ofBridge 1 = .ok (.getfield 13, 3) := by decide +kernel
theorem dX9_ofBridge_4 : decode cX9_ofBridge 4 = .ok (.sipush 132, 3) := by decide +kernel
theorem dX9_ofBridge_7 : decode cX9_ofBridge 7 = .ok (.iconst 3, 1) := by decide +kernel
theorem dX9_ofBridge_8 : decode cX9_ofBridge 8 = .ok (.iload_n 1, 1) := by decide +kernel
theorem dX9_ofBridge_9 : decode cX9_ofBridge 9 = .ok (.imul, 1) := by decide +kernel
theorem dX9_ofBridge_10 : decode cX9_ofBridge 10 = .ok (.iadd, 1) := by decide +kernel
theorem dX9_ofBridge_11 : decode cX9_ofBridge 11 = .ok (.iload_n 2, 1) := by decide +kernel
theorem dX9_ofBridge_12 : decode cX9_ofBridge 12 = .ok (.iadd, 1) := by decide +kernel
theorem dX9_ofBridge_13 : decode cX9_ofBridge 13 = .ok (.iaload, 1) := by decide +kernel
theorem dX9_ofBridge_14 : decode cX9_ofBridge 14 = .ok (.ireturn, 1) := by decide +kernel
theorem dX9_isKingNow_0 : decode cX9_isKingNow 0 = .ok (.aload_n 0, 1) := by decide +kernel
theorem dX9_isKingNow_1 : decode cX9_isKingNow 1 = .ok (.iload_n 1, 1) := by decide +kernel
theorem dX9_isKingNow_2 : decode cX9_isKingNow 2 = .ok (.iconst 0, 1) := by decide +kernel
theorem dX9_isKingNow_3 : decode cX9_isKingNow 3 = .ok (.invokevirtual 60, 3) := by decide +kernel
theorem dX9_isKingNow_6 : decode cX9_isKingNow 6 = .ok (.iconst 1, 1) := by decide +kernel
theorem dX9_isKingNow_7 : decode cX9_isKingNow 7 = .ok (.if_icmp .ne 7, 3) := by decide +kernel
theorem dX9_isKingNow_10 : decode cX9_isKingNow 10 = .ok (.iconst 1, 1) := by decide +kernel
theorem dX9_isKingNow_11 : decode cX9_isKingNow 11 = .ok (.goto 4, 3) := by decide +kernel
theorem dX9_isKingNow_14 : decode cX9_isKingNow 14 = .ok (.iconst 0, 1) := by decide +kernel
theorem dX9_isKingNow_15 : decode cX9_isKingNow 15 = .ok (.ireturn, 1) := by decide +kernel
theorem dX9_bow_0 : decode cX9_bow 0 = .ok (.iload_n 0, 1) := by decide +kernel
theorem dX9_bow_1 : decode cX9_bow 1 = .ok (.ifCond .ge 7, 3) := by decide +kernel
theorem dX9_bow_4 : decode cX9_bow 4 = .ok (.iconst 0, 1) := by decide +kernel
theorem dX9_bow_5 : decode cX9_bow 5 = .ok (.goto 15, 3) := by decide +kernel
theorem dX9_bow_8 : decode cX9_bow 8 = .ok (.iload_n 0, 1) := by decide +kernel
theorem dX9_bow_9 : decode cX9_bow 9 = .ok (.bipush 90, 2) := by decide +kernel
theorem dX9_bow_11 : decode cX9_bow 11 = .ok (.if_icmp .le 8, 3) := by decide +kernel
theorem dX9_bow_14 : decode cX9_bow 14 = .ok (.bipush 90, 2) := by decide +kernel
theorem dX9_bow_16 : decode cX9_bow 16 = .ok (.goto 4, 3) := by decide +kernel
theorem dX9_bow_19 : decode cX9_bow 19 = .ok (.iload_n 0, 1) := by decide +kernel
theorem dX9_bow_20 : decode cX9_bow 20 = .ok (.istore_n 2, 1) := by decide +kernel
theorem dX9_bow_21 : decode cX9_bow 21 = .ok (.iload_n 1, 1) := by decide +kernel
theorem dX9_bow_22 : decode cX9_bow 22 = .ok (.ifCond .eq 9, 3) := by decide +kernel
theorem dX9_bow_25 : decode cX9_bow 25 = .ok (.iload_n 2, 1) := by decide +kernel
theorem dX9_bow_26 : decode cX9_bow 26 = .ok (.iconst 2, 1) := by decide +kernel
theorem dX9_bow_27 : decode cX9_bow 27 = .ok (.idiv, 1) := by decide +kernel
theorem dX9_bow_28 : decode cX9_bow 28 = .ok (.goto 4, 3) := by decide +kernel
theorem dX9_bow_31 : decode cX9_bow 31 = .ok (.iload_n 2, 1) := by decide +kernel
theorem dX9_bow_32 : decode cX9_bow 32 = .ok (.ireturn, 1) := by decide +kernel
theorem dX9_rankOf_0 : decode cX9_rankOf 0 = .ok (.aload_n 0, 1) := by decide +kernel
theorem dX9_rankOf_1 : decode cX9_rankOf 1 = .ok (.getfield 13, 3) := by decide +kernel
theorem dX9_rankOf_4 : decode cX9_rankOf 4 = .ok (.bipush 92, 2) := by decide +kernel
theorem dX9_rankOf_6 : decode cX9_rankOf 6 = .ok (.aload_n 0, 1) := by decide +kernel
theorem dX9_rankOf_7 : decode cX9_rankOf 7 = .ok (.iload_n 1, 1) := by decide +kernel
theorem dX9_rankOf_8 : decode cX9_rankOf 8 = .ok (.iconst 4, 1) := by decide +kernel
theorem dX9_rankOf_9 : decode cX9_rankOf 9 = .ok (.invokevirtual 60, 3) := by decide +kernel
theorem dX9_rankOf_12 : decode cX9_rankOf 12 = .ok (.iadd, 1) := by decide +kernel
theorem dX9_rankOf_13 : decode cX9_rankOf 13 = .ok (.iaload, 1) := by decide +kernel
theorem dX9_rankOf_14 : decode cX9_rankOf 14 = .ok (.ireturn, 1) := by decide +kernel
theorem dX9_keeperBow_0 : decode cX9_keeperBow 0 = .ok (.bipush 80, 2) := by decide +kernel
theorem dX9_keeperBow_2 : decode cX9_keeperBow 2 = .ok (.iload_n 2, 1) := by decide +kernel
theorem dX9_keeperBow_3 : decode cX9_keeperBow 3 = .ok (.isub, 1) := by decide +kernel
theorem dX9_keeperBow_4 : decode cX9_keeperBow 4 = .ok (.aload_n 0, 1) := by decide +kernel
theorem dX9_keeperBow_5 : decode cX9_keeperBow 5 = .ok (.iload_n 1, 1) := by decide +kernel
theorem dX9_keeperBow_6 : decode cX9_keeperBow 6 = .ok (.iconst 3, 1) := by decide +kernel
theorem dX9_keeperBow_7 : decode cX9_keeperBow 7 = .ok (.invokevirtual 60, 3) := by decide +kernel
theorem dX9_keeperBow_10 : decode cX9_keeperBow 10 = .ok (.isub, 1) := by decide +kernel
theorem dX9_keeperBow_11 : decode cX9_keeperBow 11 = .ok (.aload_n 0, 1) := by decide +kernel
theorem dX9_keeperBow_12 : decode cX9_keeperBow 12 = .ok (.iload_n 1, 1) := by decide +kernel
theorem dX9_keeperBow_13 : decode cX9_keeperBow 13 = .ok (.invokevirtual 64, 3) := by decide +kernel
theorem dX9_keeperBow_16 : decode cX9_keeperBow 16 = .ok (.invokestatic 68, 3) := by decide +kernel
theorem dX9_keeperBow_19 : decode cX9_keeperBow 19 = .ok (.ireturn, 1) := by decide +kernel
theorem dX9_isTaken_0 : decode cX9_isTaken 0 = .ok (.aload_n 0, 1) := by decide +kernel
theorem dX9_isTaken_1 : decode cX9_isTaken 1 = .ok (.iload_n 1, 1) := by decide +kernel
theorem dX9_isTaken_2 : decode cX9_isTaken 2 = .ok (.iload_n 2, 1) := by decide +kernel
theorem dX9_isTaken_3 : decode cX9_isTaken 3 = .ok (.invokevirtual 72, 3) := by decide +kernel
theorem dX9_isTaken_6 : decode cX9_isTaken 6 = .ok (.aload_n 0, 1) := by decide +kernel
theorem dX9_isTaken_7 : decode cX9_isTaken 7 = .ok (.getfield 13, 3) := by decide +kernel
theorem dX9_isTaken_10 : decode cX9_isTaken 10 = .ok (.iconst 1, 1) := by decide +kernel
theorem dX9_isTaken_11 : decode cX9_isTaken 11 = .ok (.iaload, 1) := by decide +kernel
theorem dX9_isTaken_12 : decode cX9_isTaken 12 = .ok (.if_icmp .ge 7, 3) := by decide +kernel
theorem dX9_isTaken_15 : decode cX9_isTaken 15 = .ok (.iconst 1, 1) := by decide +kernel
theorem dX9_isTaken_16 : decode cX9_isTaken 16 = .ok (.goto 4, 3) := by decide +kernel
theorem dX9_isTaken_19 : decode cX9_isTaken 19 = .ok (.iconst 0, 1) := by decide +kernel
theorem dX9_isTaken_20 : decode cX9_isTaken 20 = .ok (.ireturn, 1) := by decide +kernel
theorem dX9_tollWith_0 : decode cX9_tollWith 0 = .ok (.aload_n 0, 1) := by decide +kernel
theorem dX9_tollWith_1 : decode cX9_tollWith 1 = .ok (.getfield 13, 3) := by decide +kernel
theorem dX9_tollWith_4 : decode cX9_tollWith 4 = .ok (.aload_n 0, 1) := by decide +kernel
theorem dX9_tollWith_5 : decode cX9_tollWith 5 = .ok (.iload_n 1, 1) := by decide +kernel
theorem dX9_tollWith_6 : decode cX9_tollWith 6 = .ok (.iload_n 2, 1) := by decide +kernel
theorem dX9_tollWith_7 : decode cX9_tollWith 7 = .ok (.invokevirtual 75, 3) := by decide +kernel
theorem dX9_tollWith_10 : decode cX9_tollWith 10 = .ok (.ifCond .eq 7, 3) := by decide +kernel
theorem dX9_tollWith_13 : decode cX9_tollWith 13 = .ok (.iconst 3, 1) := by decide +kernel
theorem dX9_tollWith_14 : decode cX9_tollWith 14 = .ok (.goto 4, 3) := by decide +kernel
theorem dX9_tollWith_17 : decode cX9_tollWith 17 = .ok (.iconst 4, 1) := by decide +kernel
theorem dX9_tollWith_18 : decode cX9_tollWith 18 = .ok (.iaload, 1) := by decide +kernel
theorem dX9_tollWith_19 : decode cX9_tollWith 19 = .ok (.ireturn, 1) := by decide +kernel
theorem dX9_isQueued_0 : decode cX9_isQueued 0 = .ok (.aload_n 0, 1) := by decide +kernel
theorem dX9_isQueued_1 : decode cX9_isQueued 1 = .ok (.iload_n 1, 1) := by decide +kernel
theorem dX9_isQueued_2 : decode cX9_isQueued 2 = .ok (.bipush 6, 2) := by decide +kernel
theorem dX9_isQueued_4 : decode cX9_isQueued 4 = .ok (.invokevirtual 60, 3) := by decide +kernel
theorem dX9_isQueued_7 : decode cX9_isQueued 7 = .ok (.ifCond .le 7, 3) := by decide +kernel
theorem dX9_isQueued_10 : decode cX9_isQueued 10 = .ok (.iconst 1, 1) := by decide +kernel
theorem dX9_isQueued_11 : decode cX9_isQueued 11 = .ok (.goto 4, 3) := by decide +kernel
theorem dX9_isQueued_14 : decode cX9_isQueued 14 = .ok (.iconst 0, 1) := by decide +kernel
theorem dX9_isQueued_15 : decode cX9_isQueued 15 = .ok (.ireturn, 1) := by decide +kernel
theorem dX9_isAhead_0 : decode cX9_isAhead 0 = .ok (.aload_n 0, 1) := by decide +kernel
theorem dX9_isAhead_1 : decode cX9_isAhead 1 = .ok (.iload_n 1, 1) := by decide +kernel
theorem dX9_isAhead_2 : decode cX9_isAhead 2 = .ok (.bipush 6, 2) := by decide +kernel
theorem dX9_isAhead_4 : decode cX9_isAhead 4 = .ok (.invokevirtual 60, 3) := by decide +kernel
theorem dX9_isAhead_7 : decode cX9_isAhead 7 = .ok (.aload_n 0, 1) := by decide +kernel
theorem dX9_isAhead_8 : decode cX9_isAhead 8 = .ok (.iload_n 2, 1) := by decide +kernel
theorem dX9_isAhead_9 : decode cX9_isAhead 9 = .ok (.bipush 6, 2) := by decide +kernel
theorem dX9_isAhead_11 : decode cX9_isAhead 11 = .ok (.invokevirtual 60, 3) := by decide +kernel
theorem dX9_isAhead_14 : decode cX9_isAhead 14 = .ok (.if_icmp .gt 37, 3) := by decide +kernel
theorem dX9_isAhead_17 : decode cX9_isAhead 17 = .ok (.aload_n 0, 1) := by decide +kernel
theorem dX9_isAhead_18 : decode cX9_isAhead 18 = .ok (.iload_n 1, 1) := by decide +kernel
theorem dX9_isAhead_19 : decode cX9_isAhead 19 = .ok (.bipush 6, 2) := by decide +kernel
theorem dX9_isAhead_21 : decode cX9_isAhead 21 = .ok (.invokevirtual 60, 3) := by decide +kernel
theorem dX9_isAhead_24 : decode cX9_isAhead 24 = .ok (.aload_n 0, 1) := by decide +kernel
theorem dX9_isAhead_25 : decode cX9_isAhead 25 = .ok (.iload_n 2, 1) := by decide +kernel
theorem dX9_isAhead_26 : decode cX9_isAhead 26 = .ok (.bipush 6, 2) := by decide +kernel
theorem dX9_isAhead_28 : decode cX9_isAhead 28 = .ok (.invokevirtual 60, 3) := by decide +kernel
theorem dX9_isAhead_31 : decode cX9_isAhead 31 = .ok (.if_icmp .ne 24, 3) := by decide +kernel
theorem dX9_isAhead_34 : decode cX9_isAhead 34 = .ok (.aload_n 0, 1) := by decide +kernel
theorem dX9_isAhead_35 : decode cX9_isAhead 35 = .ok (.iload_n 1, 1) := by decide +kernel
theorem dX9_isAhead_36 : decode cX9_isAhead 36 = .ok (.bipush 7, 2) := by decide +kernel
theorem dX9_isAhead_38 : decode cX9_isAhead 38 = .ok (.invokevirtual 60, 3) := by decide +kernel
theorem dX9_isAhead_41 : decode cX9_isAhead 41 = .ok (.aload_n 0, 1) := by decide +kernel
theorem dX9_isAhead_42 : decode cX9_isAhead 42 = .ok (.iload_n 2, 1) := by decide +kernel
theorem dX9_isAhead_43 : decode cX9_isAhead 43 = .ok (.bipush 7, 2) := by decide +kernel
theorem dX9_isAhead_45 : decode cX9_isAhead 45 = .ok (.invokevirtual 60, 3) := by decide +kernel
theorem dX9_isAhead_48 : decode cX9_isAhead 48 = .ok (.if_icmp .ge 7, 3) := by decide +kernel
theorem dX9_isAhead_51 : decode cX9_isAhead 51 = .ok (.iconst 1, 1) := by decide +kernel
theorem dX9_isAhead_52 : decode cX9_isAhead 52 = .ok (.goto 4, 3) := by decide +kernel
theorem dX9_isAhead_55 : decode cX9_isAhead 55 = .ok (.iconst 0, 1) := by decide +kernel
theorem dX9_isAhead_56 : decode cX9_isAhead 56 = .ok (.ireturn, 1) := by decide +kernel
theorem dX9_placeOf_0 : decode cX9_placeOf 0 = .ok (.iconst 0, 1) := by decide +kernel
theorem dX9_placeOf_1 : decode cX9_placeOf 1 = .ok (.istore_n 2, 1) := by decide +kernel
theorem dX9_placeOf_2 : decode cX9_placeOf 2 = .ok (.iconst 0, 1) := by decide +kernel
theorem dX9_placeOf_3 : decode cX9_placeOf 3 = .ok (.istore_n 3, 1) := by decide +kernel
theorem dX9_placeOf_4 : decode cX9_placeOf 4 = .ok (.iload_n 3, 1) := by decide +kernel
theorem dX9_placeOf_5 : decode cX9_placeOf 5 = .ok (.aload_n 0, 1) := by decide +kernel
theorem dX9_placeOf_6 : decode cX9_placeOf 6 = .ok (.getfield 13, 3) := by decide +kernel
theorem dX9_placeOf_9 : decode cX9_placeOf 9 = .ok (.bipush 8, 2) := by decide +kernel
theorem dX9_placeOf_11 : decode cX9_placeOf 11 = .ok (.iaload, 1) := by decide +kernel
theorem dX9_placeOf_12 : decode cX9_placeOf 12 = .ok (.if_icmp .ge 57, 3) := by decide +kernel
theorem dX9_placeOf_15 : decode cX9_placeOf 15 = .ok (.iload_n 2, 1) := by decide +kernel
theorem dX9_placeOf_16 : decode cX9_placeOf 16 = .ok (.iload_n 3, 1) := by decide +kernel
theorem dX9_placeOf_17 : decode cX9_placeOf 17 = .ok (.iload_n 1, 1) := by decide +kernel
theorem dX9_placeOf_18 : decode cX9_placeOf 18 = .ok (.if_icmp .eq 39, 3) := by decide +kernel
theorem dX9_placeOf_21 : decode cX9_placeOf 21 = .ok (.aload_n 0, 1) := by decide +kernel
theorem dX9_placeOf_22 : decode cX9_placeOf 22 = .ok (.iload_n 3, 1) := by decide +kernel
theorem dX9_placeOf_23 : decode cX9_placeOf 23 = .ok (.invokevirtual 79, 3) := by decide +kernel
theorem dX9_placeOf_26 : decode cX9_placeOf 26 = .ok (.ifCond .eq 31, 3) := by decide +kernel
theorem dX9_placeOf_29 : decode cX9_placeOf 29 = .ok (.aload_n 0, 1) := by decide +kernel
theorem dX9_placeOf_30 : decode cX9_placeOf 30 = .ok (.iload_n 3, 1) := by decide +kernel
theorem dX9_placeOf_31 : decode cX9_placeOf 31 = .ok (.iconst 1, 1) := by decide +kernel
theorem dX9_placeOf_32 : decode cX9_placeOf 32 = .ok (.invokevirtual 60, 3) := by decide +kernel
theorem dX9_placeOf_35 : decode cX9_placeOf 35 = .ok (.aload_n 0, 1) := by decide +kernel
theorem dX9_placeOf_36 : decode cX9_placeOf 36 = .ok (.iload_n 1, 1) := by decide +kernel
theorem dX9_placeOf_37 : decode cX9_placeOf 37 = .ok (.iconst 1, 1) := by decide +kernel
theorem dX9_placeOf_38 : decode cX9_placeOf 38 = .ok (.invokevirtual 60, 3) := by decide +kernel
theorem dX9_placeOf_41 : decode cX9_placeOf 41 = .ok (.if_icmp .ne 16, 3) := by decide +kernel
theorem dX9_placeOf_44 : decode cX9_placeOf 44 = .ok (.aload_n 0, 1) := by decide +kernel
theorem dX9_placeOf_45 : decode cX9_placeOf 45 = .ok (.iload_n 3, 1) := by decide +kernel
theorem dX9_placeOf_46 : decode cX9_placeOf 46 = .ok (.iload_n 1, 1) := by decide +kernel
theorem dX9_placeOf_47 : decode cX9_placeOf 47 = .ok (.invokevirtual 82, 3) := by decide +kernel
theorem dX9_placeOf_50 : decode cX9_placeOf 50 = .ok (.ifCond .eq 7, 3) := by decide +kernel
theorem dX9_placeOf_53 : decode cX9_placeOf 53 = .ok (.iconst 1, 1) := by decide +kernel
theorem dX9_placeOf_54 : decode cX9_placeOf 54 = .ok (.goto 4, 3) := by decide +kernel
theorem dX9_placeOf_57 : decode cX9_placeOf 57 = .ok (.iconst 0, 1) := by decide +kernel
theorem dX9_placeOf_58 : decode cX9_placeOf 58 = .ok (.invokestatic 85, 3) := by decide +kernel
theorem dX9_placeOf_61 : decode cX9_placeOf 61 = .ok (.iadd, 1) := by decide +kernel
theorem dX9_placeOf_62 : decode cX9_placeOf 62 = .ok (.istore_n 2, 1) := by decide +kernel
theorem dX9_placeOf_63 : decode cX9_placeOf 63 = .ok (.iinc 3 1, 3) := by decide +kernel
theorem dX9_placeOf_66 : decode cX9_placeOf 66 = .ok (.goto (-62), 3) := by decide +kernel
theorem dX9_placeOf_69 : decode cX9_placeOf 69 = .ok (.iload_n 2, 1) := by decide +kernel
theorem dX9_placeOf_70 : decode cX9_placeOf 70 = .ok (.ireturn, 1) := by decide +kernel
theorem dX9_at_0 : decode cX9_at 0 = .ok (.iconst 0, 1) := by decide +kernel
theorem dX9_at_1 : decode cX9_at 1 = .ok (.istore_n 3, 1) := by decide +kernel
theorem dX9_at_2 : decode cX9_at 2 = .ok (.iload_n 3, 1) := by decide +kernel
theorem dX9_at_3 : decode cX9_at 3 = .ok (.aload_n 0, 1) := by decide +kernel
theorem dX9_at_4 : decode cX9_at 4 = .ok (.getfield 13, 3) := by decide +kernel
theorem dX9_at_7 : decode cX9_at 7 = .ok (.bipush 8, 2) := by decide +kernel
theorem dX9_at_9 : decode cX9_at 9 = .ok (.iaload, 1) := by decide +kernel
theorem dX9_at_10 : decode cX9_at 10 = .ok (.if_icmp .ge 38, 3) := by decide +kernel
theorem dX9_at_13 : decode cX9_at 13 = .ok (.aload_n 0, 1) := by decide +kernel
theorem dX9_at_14 : decode cX9_at 14 = .ok (.iload_n 3, 1) := by decide +kernel
theorem dX9_at_15 : decode cX9_at 15 = .ok (.invokevirtual 79, 3) := by decide +kernel
theorem dX9_at_18 : decode cX9_at 18 = .ok (.ifCond .eq 24, 3) := by decide +kernel
theorem dX9_at_21 : decode cX9_at 21 = .ok (.aload_n 0, 1) := by decide +kernel
theorem dX9_at_22 : decode cX9_at 22 = .ok (.iload_n 3, 1) := by decide +kernel
theorem dX9_at_23 : decode cX9_at 23 = .ok (.iconst 1, 1) := by decide +kernel
theorem dX9_at_24 : decode cX9_at 24 = .ok (.invokevirtual 60, 3) := by decide +kernel
theorem dX9_at_27 : decode cX9_at 27 = .ok (.iload_n 1, 1) := by decide +kernel
theorem dX9_at_28 : decode cX9_at 28 = .ok (.if_icmp .ne 14, 3) := by decide +kernel
theorem dX9_at_31 : decode cX9_at 31 = .ok (.aload_n 0, 1) := by decide +kernel
theorem dX9_at_32 : decode cX9_at 32 = .ok (.iload_n 3, 1) := by decide +kernel
theorem dX9_at_33 : decode cX9_at 33 = .ok (.invokevirtual 89, 3) := by decide +kernel
theorem dX9_at_36 : decode cX9_at 36 = .ok (.iload_n 2, 1) := by decide +kernel
theorem dX9_at_37 : decode cX9_at 37 = .ok (.if_icmp .ne 5, 3) := by decide +kernel
theorem dX9_at_40 : decode cX9_at 40 = .ok (.iload_n 3, 1) := by decide +kernel
theorem dX9_at_41 : decode cX9_at 41 = .ok (.ireturn, 1) := by decide +kernel
theorem dX9_at_42 : decode cX9_at 42 = .ok (.iinc 3 1, 3) := by decide +kernel
theorem dX9_at_45 : decode cX9_at 45 = .ok (.goto (-43), 3) := by decide +kernel
theorem dX9_at_48 : decode cX9_at 48 = .ok (.iconst (-1), 1) := by decide +kernel
theorem dX9_at_49 : decode cX9_at 49 = .ok (.ireturn, 1) := by decide +kernel
theorem dX9_lengthOf_0 : decode cX9_lengthOf 0 = .ok (.iconst 0, 1) := by decide +kernel
theorem dX9_lengthOf_1 : decode cX9_lengthOf 1 = .ok (.istore_n 2, 1) := by decide +kernel
theorem dX9_lengthOf_2 : decode cX9_lengthOf 2 = .ok (.iconst 0, 1) := by decide +kernel
theorem dX9_lengthOf_3 : decode cX9_lengthOf 3 = .ok (.istore_n 3, 1) := by decide +kernel
theorem dX9_lengthOf_4 : decode cX9_lengthOf 4 = .ok (.iload_n 3, 1) := by decide +kernel
theorem dX9_lengthOf_5 : decode cX9_lengthOf 5 = .ok (.aload_n 0, 1) := by decide +kernel
theorem dX9_lengthOf_6 : decode cX9_lengthOf 6 = .ok (.getfield 13, 3) := by decide +kernel
theorem dX9_lengthOf_9 : decode cX9_lengthOf 9 = .ok (.bipush 8, 2) := by decide +kernel
theorem dX9_lengthOf_11 : decode cX9_lengthOf 11 = .ok (.iaload, 1) := by decide +kernel
theorem dX9_lengthOf_12 : decode cX9_lengthOf 12 = .ok (.if_icmp .ge 38, 3) := by decide +kernel
theorem dX9_lengthOf_15 : decode cX9_lengthOf 15 = .ok (.iload_n 2, 1) := by decide +kernel
theorem dX9_lengthOf_16 : decode cX9_lengthOf 16 = .ok (.aload_n 0, 1) := by decide +kernel
theorem dX9_lengthOf_17 : decode cX9_lengthOf 17 = .ok (.iload_n 3, 1) := by decide +kernel
theorem dX9_lengthOf_18 : decode cX9_lengthOf 18 = .ok (.invokevirtual 79, 3) := by decide +kernel
theorem dX9_lengthOf_21 : decode cX9_lengthOf 21 = .ok (.ifCond .eq 17, 3) := by decide +kernel
theorem dX9_lengthOf_24 : decode cX9_lengthOf 24 = .ok (.aload_n 0, 1) := by decide +kernel
theorem dX9_lengthOf_25 : decode cX9_lengthOf 25 = .ok (.iload_n 3, 1) := by decide +kernel
theorem dX9_lengthOf_26 : decode cX9_lengthOf 26 = .ok (.iconst 1, 1) := by decide +kernel
theorem dX9_lengthOf_27 : decode cX9_lengthOf 27 = .ok (.invokevirtual 60, 3) := by decide +kernel
theorem dX9_lengthOf_30 : decode cX9_lengthOf 30 = .ok (.iload_n 1, 1) := by decide +kernel
theorem dX9_lengthOf_31 : decode cX9_lengthOf 31 = .ok (.if_icmp .ne 7, 3) := by decide +kernel
theorem dX9_lengthOf_34 : decode cX9_lengthOf 34 = .ok (.iconst 1, 1) := by decide +kernel
theorem dX9_lengthOf_35 : decode cX9_lengthOf 35 = .ok (.goto 4, 3) := by decide +kernel
theorem dX9_lengthOf_38 : decode cX9_lengthOf 38 = .ok (.iconst 0, 1) := by decide +kernel
theorem dX9_lengthOf_39 : decode cX9_lengthOf 39 = .ok (.invokestatic 85, 3) := by decide +kernel
theorem dX9_lengthOf_42 : decode cX9_lengthOf 42 = .ok (.iadd, 1) := by decide +kernel
theorem dX9_lengthOf_43 : decode cX9_lengthOf 43 = .ok (.istore_n 2, 1) := by decide +kernel
theorem dX9_lengthOf_44 : decode cX9_lengthOf 44 = .ok (.iinc 3 1, 3) := by decide +kernel
theorem dX9_lengthOf_47 : decode cX9_lengthOf 47 = .ok (.goto (-43), 3) := by decide +kernel
theorem dX9_lengthOf_50 : decode cX9_lengthOf 50 = .ok (.iload_n 2, 1) := by decide +kernel
theorem dX9_lengthOf_51 : decode cX9_lengthOf 51 = .ok (.ireturn, 1) := by decide +kernel
theorem dX9_isOpenNow_0 : decode cX9_isOpenNow 0 = .ok (.aload_n 0, 1) := by decide +kernel
theorem dX9_isOpenNow_1 : decode cX9_isOpenNow 1 = .ok (.getfield 13, 3) := by decide +kernel
theorem dX9_isOpenNow_4 : decode cX9_isOpenNow 4 = .ok (.iconst 0, 1) := by decide +kernel
theorem dX9_isOpenNow_5 : decode cX9_isOpenNow 5 = .ok (.iaload, 1) := by decide +kernel
theorem dX9_isOpenNow_6 : decode cX9_isOpenNow 6 = .ok (.aload_n 0, 1) := by decide +kernel
theorem dX9_isOpenNow_7 : decode cX9_isOpenNow 7 = .ok (.iload_n 1, 1) := by decide +kernel
theorem dX9_isOpenNow_8 : decode cX9_isOpenNow 8 = .ok (.iconst 0, 1) := by decide +kernel
theorem dX9_isOpenNow_9 : decode cX9_isOpenNow 9 = .ok (.invokevirtual 92, 3) := by decide +kernel
theorem dX9_isOpenNow_12 : decode cX9_isOpenNow 12 = .ok (.irem, 1) := by decide +kernel
theorem dX9_isOpenNow_13 : decode cX9_isOpenNow 13 = .ok (.aload_n 0, 1) := by decide +kernel
theorem dX9_isOpenNow_14 : decode cX9_isOpenNow 14 = .ok (.iload_n 1, 1) := by decide +kernel
theorem dX9_isOpenNow_15 : decode cX9_isOpenNow 15 = .ok (.iconst 1, 1) := by decide +kernel
theorem dX9_isOpenNow_16 : decode cX9_isOpenNow 16 = .ok (.invokevirtual 92, 3) := by decide +kernel
theorem dX9_isOpenNow_19 : decode cX9_isOpenNow 19 = .ok (.if_icmp .ne 7, 3) := by decide +kernel
theorem dX9_isOpenNow_22 : decode cX9_isOpenNow 22 = .ok (.iconst 1, 1) := by decide +kernel
theorem dX9_isOpenNow_23 : decode cX9_isOpenNow 23 = .ok (.goto 4, 3) := by decide +kernel
theorem dX9_isOpenNow_26 : decode cX9_isOpenNow 26 = .ok (.iconst 0, 1) := by decide +kernel
theorem dX9_isOpenNow_27 : decode cX9_isOpenNow 27 = .ok (.ireturn, 1) := by decide +kernel
theorem dX9_bounds_0 : decode cX9_bounds 0 = .ok (.aload_n 0, 1) := by decide +kernel
theorem dX9_bounds_1 : decode cX9_bounds 1 = .ok (.getfield 13, 3) := by decide +kernel
theorem dX9_bounds_4 : decode cX9_bounds 4 = .ok (.iconst 1, 1) := by decide +kernel
theorem dX9_bounds_5 : decode cX9_bounds 5 = .ok (.iload_n 1, 1) := by decide +kernel
theorem dX9_bounds_6 : decode cX9_bounds 6 = .ok (.ifCond .ge 7, 3) := by decide +kernel
theorem dX9_bounds_9 : decode cX9_bounds 9 = .ok (.iconst 0, 1) := by decide +kernel
theorem dX9_bounds_10 : decode cX9_bounds 10 = .ok (.goto 15, 3) := by decide +kernel
theorem dX9_bounds_13 : decode cX9_bounds 13 = .ok (.iload_n 1, 1) := by decide +kernel
theorem dX9_bounds_14 : decode cX9_bounds 14 = .ok (.bipush 90, 2) := by decide +kernel
theorem dX9_bounds_16 : decode cX9_bounds 16 = .ok (.if_icmp .le 8, 3) := by decide +kernel
theorem dX9_bounds_19 : decode cX9_bounds 19 = .ok (.bipush 90, 2) := by decide +kernel
theorem dX9_bounds_21 : decode cX9_bounds 21 = .ok (.goto 4, 3) := by decide +kernel
theorem dX9_bounds_24 : decode cX9_bounds 24 = .ok (.iload_n 1, 1) := by decide +kernel
theorem dX9_bounds_25 : decode cX9_bounds 25 = .ok (.iastore, 1) := by decide +kernel
theorem dX9_bounds_26 : decode cX9_bounds 26 = .ok (.return_, 1) := by decide +kernel
theorem dX9_countsCoins_0 : decode cX9_countsCoins 0 = .ok (.iconst 0, 1) := by decide +kernel
theorem dX9_countsCoins_1 : decode cX9_countsCoins 1 = .ok (.istore_n 2, 1) := by decide +kernel
theorem dX9_countsCoins_2 : decode cX9_countsCoins 2 = .ok (.iload_n 2, 1) := by decide +kernel
theorem dX9_countsCoins_3 : decode cX9_countsCoins 3 = .ok (.aload_n 0, 1) := by decide +kernel
theorem dX9_countsCoins_4 : decode cX9_countsCoins 4 = .ok (.getfield 13, 3) := by decide +kernel
theorem dX9_countsCoins_7 : decode cX9_countsCoins 7 = .ok (.bipush 8, 2) := by decide +kernel
theorem dX9_countsCoins_9 : decode cX9_countsCoins 9 = .ok (.iaload, 1) := by decide +kernel
theorem dX9_countsCoins_10 : decode cX9_countsCoins 10 = .ok (.if_icmp .ge 34, 3) := by decide +kernel
theorem dX9_countsCoins_13 : decode cX9_countsCoins 13 = .ok (.aload_n 0, 1) := by decide +kernel
theorem dX9_countsCoins_14 : decode cX9_countsCoins 14 = .ok (.iload_n 2, 1) := by decide +kernel
theorem dX9_countsCoins_15 : decode cX9_countsCoins 15 = .ok (.invokevirtual 64, 3) := by decide +kernel
theorem dX9_countsCoins_18 : decode cX9_countsCoins 18 = .ok (.ifCond .eq 20, 3) := by decide +kernel
theorem dX9_countsCoins_21 : decode cX9_countsCoins 21 = .ok (.aload_n 0, 1) := by decide +kernel
theorem dX9_countsCoins_22 : decode cX9_countsCoins 22 = .ok (.iload_n 2, 1) := by decide +kernel
theorem dX9_countsCoins_23 : decode cX9_countsCoins 23 = .ok (.iconst 0, 1) := by decide +kernel
theorem dX9_countsCoins_24 : decode cX9_countsCoins 24 = .ok (.invokevirtual 95, 3) := by decide +kernel
theorem dX9_countsCoins_27 : decode cX9_countsCoins 27 = .ok (.iload_n 1, 1) := by decide +kernel
theorem dX9_countsCoins_28 : decode cX9_countsCoins 28 = .ok (.if_icmp .ne 10, 3) := by decide +kernel
theorem dX9_countsCoins_31 : decode cX9_countsCoins 31 = .ok (.aload_n 0, 1) := by decide +kernel
theorem dX9_countsCoins_32 : decode cX9_countsCoins 32 = .ok (.iload_n 2, 1) := by decide +kernel
theorem dX9_countsCoins_33 : decode cX9_countsCoins 33 = .ok (.iconst 2, 1) := by decide +kernel
theorem dX9_countsCoins_34 : decode cX9_countsCoins 34 = .ok (.iconst 1, 1) := by decide +kernel
theorem dX9_countsCoins_35 : decode cX9_countsCoins 35 = .ok (.invokevirtual 98, 3) := by decide +kernel
theorem dX9_countsCoins_38 : decode cX9_countsCoins 38 = .ok (.iinc 2 1, 3) := by decide +kernel
theorem dX9_countsCoins_41 : decode cX9_countsCoins 41 = .ok (.goto (-39), 3) := by decide +kernel
theorem dX9_countsCoins_44 : decode cX9_countsCoins 44 = .ok (.return_, 1) := by decide +kernel
theorem dX9_crosses_0 : decode cX9_crosses 0 = .ok (.aload_n 0, 1) := by decide +kernel
theorem dX9_crosses_1 : decode cX9_crosses 1 = .ok (.iload_n 1, 1) := by decide +kernel
theorem dX9_crosses_2 : decode cX9_crosses 2 = .ok (.aload_n 0, 1) := by decide +kernel
theorem dX9_crosses_3 : decode cX9_crosses 3 = .ok (.iload_n 1, 1) := by decide +kernel
theorem dX9_crosses_4 : decode cX9_crosses 4 = .ok (.invokevirtual 102, 3) := by decide +kernel
theorem dX9_crosses_7 : decode cX9_crosses 7 = .ok (.invokevirtual 75, 3) := by decide +kernel
theorem dX9_crosses_10 : decode cX9_crosses 10 = .ok (.istore_n 2, 1) := by decide +kernel
theorem dX9_crosses_11 : decode cX9_crosses 11 = .ok (.aload_n 0, 1) := by decide +kernel
theorem dX9_crosses_12 : decode cX9_crosses 12 = .ok (.getfield 13, 3) := by decide +kernel
theorem dX9_crosses_15 : decode cX9_crosses 15 = .ok (.iload_n 2, 1) := by decide +kernel
theorem dX9_crosses_16 : decode cX9_crosses 16 = .ok (.ifCond .eq 7, 3) := by decide +kernel
theorem dX9_crosses_19 : decode cX9_crosses 19 = .ok (.iconst 3, 1) := by decide +kernel
theorem dX9_crosses_20 : decode cX9_crosses 20 = .ok (.goto 4, 3) := by decide +kernel
theorem dX9_crosses_23 : decode cX9_crosses 23 = .ok (.iconst 4, 1) := by decide +kernel
theorem dX9_crosses_24 : decode cX9_crosses 24 = .ok (.iaload, 1) := by decide +kernel
theorem dX9_crosses_25 : decode cX9_crosses 25 = .ok (.aload_n 0, 1) := by decide +kernel
theorem dX9_crosses_26 : decode cX9_crosses 26 = .ok (.iload_n 1, 1) := by decide +kernel
theorem dX9_crosses_27 : decode cX9_crosses 27 = .ok (.bipush 6, 2) := by decide +kernel
theorem dX9_crosses_29 : decode cX9_crosses 29 = .ok (.invokevirtual 60, 3) := by decide +kernel
theorem dX9_crosses_32 : decode cX9_crosses 32 = .ok (.iadd, 1) := by decide +kernel
theorem dX9_crosses_33 : decode cX9_crosses 33 = .ok (.iconst 1, 1) := by decide +kernel
theorem dX9_crosses_34 : decode cX9_crosses 34 = .ok (.isub, 1) := by decide +kernel
theorem dX9_crosses_35 : decode cX9_crosses 35 = .ok (.istore_n 3, 1) := by decide +kernel
theorem dX9_crosses_36 : decode cX9_crosses 36 = .ok (.aload_n 0, 1) := by decide +kernel
theorem dX9_crosses_37 : decode cX9_crosses 37 = .ok (.iload_n 1, 1) := by decide +kernel
theorem dX9_crosses_38 : decode cX9_crosses 38 = .ok (.bipush 6, 2) := by decide +kernel
theorem dX9_crosses_40 : decode cX9_crosses 40 = .ok (.iconst 0, 1) := by decide +kernel
theorem dX9_crosses_41 : decode cX9_crosses 41 = .ok (.invokevirtual 105, 3) := by decide +kernel
theorem dX9_crosses_44 : decode cX9_crosses 44 = .ok (.aload_n 0, 1) := by decide +kernel
theorem dX9_crosses_45 : decode cX9_crosses 45 = .ok (.iload_n 1, 1) := by decide +kernel
theorem dX9_crosses_46 : decode cX9_crosses 46 = .ok (.iconst 2, 1) := by decide +kernel
theorem dX9_crosses_47 : decode cX9_crosses 47 = .ok (.invokevirtual 60, 3) := by decide +kernel
theorem dX9_crosses_50 : decode cX9_crosses 50 = .ok (.iload_n 3, 1) := by decide +kernel
theorem dX9_crosses_51 : decode cX9_crosses 51 = .ok (.if_icmp .ge 5, 3) := by decide +kernel
theorem dX9_crosses_54 : decode cX9_crosses 54 = .ok (.iconst 0, 1) := by decide +kernel
theorem dX9_crosses_55 : decode cX9_crosses 55 = .ok (.ireturn, 1) := by decide +kernel
theorem dX9_crosses_56 : decode cX9_crosses 56 = .ok (.aload_n 0, 1) := by decide +kernel
theorem dX9_crosses_57 : decode cX9_crosses 57 = .ok (.iload_n 1, 1) := by decide +kernel
theorem dX9_crosses_58 : decode cX9_crosses 58 = .ok (.iconst 2, 1) := by decide +kernel
theorem dX9_crosses_59 : decode cX9_crosses 59 = .ok (.aload_n 0, 1) := by decide +kernel
theorem dX9_crosses_60 : decode cX9_crosses 60 = .ok (.iload_n 1, 1) := by decide +kernel
theorem dX9_crosses_61 : decode cX9_crosses 61 = .ok (.iconst 2, 1) := by decide +kernel
theorem dX9_crosses_62 : decode cX9_crosses 62 = .ok (.invokevirtual 60, 3) := by decide +kernel
theorem dX9_crosses_65 : decode cX9_crosses 65 = .ok (.iload_n 3, 1) := by decide +kernel
theorem dX9_crosses_66 : decode cX9_crosses 66 = .ok (.isub, 1) := by decide +kernel
theorem dX9_crosses_67 : decode cX9_crosses 67 = .ok (.invokevirtual 105, 3) := by decide +kernel
theorem dX9_crosses_70 : decode cX9_crosses 70 = .ok (.aload_n 0, 1) := by decide +kernel
theorem dX9_crosses_71 : decode cX9_crosses 71 = .ok (.getfield 13, 3) := by decide +kernel
theorem dX9_crosses_74 : decode cX9_crosses 74 = .ok (.iconst 5, 1) := by decide +kernel
theorem dX9_crosses_75 : decode cX9_crosses 75 = .ok (.dup2, 1) := by decide +kernel
theorem dX9_crosses_76 : decode cX9_crosses 76 = .ok (.iaload, 1) := by decide +kernel
theorem dX9_crosses_77 : decode cX9_crosses 77 = .ok (.iload_n 3, 1) := by decide +kernel
theorem dX9_crosses_78 : decode cX9_crosses 78 = .ok (.iadd, 1) := by decide +kernel
theorem dX9_crosses_79 : decode cX9_crosses 79 = .ok (.iastore, 1) := by decide +kernel
theorem dX9_crosses_80 : decode cX9_crosses 80 = .ok (.aload_n 0, 1) := by decide +kernel
theorem dX9_crosses_81 : decode cX9_crosses 81 = .ok (.iload_n 1, 1) := by decide +kernel
theorem dX9_crosses_82 : decode cX9_crosses 82 = .ok (.iconst 1, 1) := by decide +kernel
theorem dX9_crosses_83 : decode cX9_crosses 83 = .ok (.iconst 1, 1) := by decide +kernel
theorem dX9_crosses_84 : decode cX9_crosses 84 = .ok (.aload_n 0, 1) := by decide +kernel
theorem dX9_crosses_85 : decode cX9_crosses 85 = .ok (.iload_n 1, 1) := by decide +kernel
theorem dX9_crosses_86 : decode cX9_crosses 86 = .ok (.iconst 1, 1) := by decide +kernel
theorem dX9_crosses_87 : decode cX9_crosses 87 = .ok (.invokevirtual 60, 3) := by decide +kernel
theorem dX9_crosses_90 : decode cX9_crosses 90 = .ok (.isub, 1) := by decide +kernel
theorem dX9_crosses_91 : decode cX9_crosses 91 = .ok (.invokevirtual 105, 3) := by decide +kernel
theorem dX9_crosses_94 : decode cX9_crosses 94 = .ok (.aload_n 0, 1) := by decide +kernel
theorem dX9_crosses_95 : decode cX9_crosses 95 = .ok (.iload_n 1, 1) := by decide +kernel
theorem dX9_crosses_96 : decode cX9_crosses 96 = .ok (.iconst 5, 1) := by decide +kernel
theorem dX9_crosses_97 : decode cX9_crosses 97 = .ok (.aload_n 0, 1) := by decide +kernel
theorem dX9_crosses_98 : decode cX9_crosses 98 = .ok (.iload_n 1, 1) := by decide +kernel
theorem dX9_crosses_99 : decode cX9_crosses 99 = .ok (.iconst 5, 1) := by decide +kernel
theorem dX9_crosses_100 : decode cX9_crosses 100 = .ok (.invokevirtual 60, 3) := by decide +kernel
theorem dX9_crosses_103 : decode cX9_crosses 103 = .ok (.iconst 1, 1) := by decide +kernel
theorem dX9_crosses_104 : decode cX9_crosses 104 = .ok (.iadd, 1) := by decide +kernel
theorem dX9_crosses_105 : decode cX9_crosses 105 = .ok (.invokevirtual 105, 3) := by decide +kernel
theorem dX9_crosses_108 : decode cX9_crosses 108 = .ok (.aload_n 0, 1) := by decide +kernel
theorem dX9_crosses_109 : decode cX9_crosses 109 = .ok (.iload_n 1, 1) := by decide +kernel
theorem dX9_crosses_110 : decode cX9_crosses 110 = .ok (.invokevirtual 108, 3) := by decide +kernel
theorem dX9_crosses_113 : decode cX9_crosses 113 = .ok (.iload_n 2, 1) := by decide +kernel
theorem dX9_crosses_114 : decode cX9_crosses 114 = .ok (.ifCond .eq 28, 3) := by decide +kernel
theorem dX9_crosses_117 : decode cX9_crosses 117 = .ok (.aload_n 0, 1) := by decide +kernel
theorem dX9_crosses_118 : decode cX9_crosses 118 = .ok (.iload_n 1, 1) := by decide +kernel
theorem dX9_crosses_119 : decode cX9_crosses 119 = .ok (.invokevirtual 64, 3) := by decide +kernel
theorem dX9_crosses_122 : decode cX9_crosses 122 = .ok (.ifCond .ne 20, 3) := by decide +kernel
theorem dX9_crosses_125 : decode cX9_crosses 125 = .ok (.aload_n 0, 1) := by decide +kernel
theorem dX9_crosses_126 : decode cX9_crosses 126 = .ok (.aload_n 0, 1) := by decide +kernel
theorem dX9_crosses_127 : decode cX9_crosses 127 = .ok (.getfield 13, 3) := by decide +kernel
theorem dX9_crosses_130 : decode cX9_crosses 130 = .ok (.iconst 1, 1) := by decide +kernel
theorem dX9_crosses_131 : decode cX9_crosses 131 = .ok (.iaload, 1) := by decide +kernel
theorem dX9_crosses_132 : decode cX9_crosses 132 = .ok (.aload_n 0, 1) := by decide +kernel
theorem dX9_crosses_133 : decode cX9_crosses 133 = .ok (.getfield 13, 3) := by decide +kernel
theorem dX9_crosses_136 : decode cX9_crosses 136 = .ok (.iconst 2, 1) := by decide +kernel
theorem dX9_crosses_137 : decode cX9_crosses 137 = .ok (.iaload, 1) := by decide +kernel
theorem dX9_crosses_138 : decode cX9_crosses 138 = .ok (.isub, 1) := by decide +kernel
theorem dX9_crosses_139 : decode cX9_crosses 139 = .ok (.invokevirtual 112, 3) := by decide +kernel
theorem dX9_crosses_142 : decode cX9_crosses 142 = .ok (.iload_n 2, 1) := by decide +kernel
theorem dX9_crosses_143 : decode cX9_crosses 143 = .ok (.ifCond .ne 28, 3) := by decide +kernel
theorem dX9_crosses_146 : decode cX9_crosses 146 = .ok (.aload_n 0, 1) := by decide +kernel
theorem dX9_crosses_147 : decode cX9_crosses 147 = .ok (.iload_n 1, 1) := by decide +kernel
theorem dX9_crosses_148 : decode cX9_crosses 148 = .ok (.invokevirtual 64, 3) := by decide +kernel
theorem dX9_crosses_151 : decode cX9_crosses 151 = .ok (.ifCond .eq 20, 3) := by decide +kernel
theorem dX9_crosses_154 : decode cX9_crosses 154 = .ok (.aload_n 0, 1) := by decide +kernel
theorem dX9_crosses_155 : decode cX9_crosses 155 = .ok (.aload_n 0, 1) := by decide +kernel
theorem dX9_crosses_156 : decode cX9_crosses 156 = .ok (.getfield 13, 3) := by decide +kernel
theorem dX9_crosses_159 : decode cX9_crosses 159 = .ok (.iconst 1, 1) := by decide +kernel
theorem dX9_crosses_160 : decode cX9_crosses 160 = .ok (.iaload, 1) := by decide +kernel
theorem dX9_crosses_161 : decode cX9_crosses 161 = .ok (.aload_n 0, 1) := by decide +kernel
theorem dX9_crosses_162 : decode cX9_crosses 162 = .ok (.getfield 13, 3) := by decide +kernel
theorem dX9_crosses_165 : decode cX9_crosses 165 = .ok (.iconst 2, 1) := by decide +kernel
theorem dX9_crosses_166 : decode cX9_crosses 166 = .ok (.iaload, 1) := by decide +kernel
theorem dX9_crosses_167 : decode cX9_crosses 167 = .ok (.iadd, 1) := by decide +kernel
theorem dX9_crosses_168 : decode cX9_crosses 168 = .ok (.invokevirtual 112, 3) := by decide +kernel
theorem dX9_crosses_171 : decode cX9_crosses 171 = .ok (.iconst 1, 1) := by decide +kernel
theorem dX9_crosses_172 : decode cX9_crosses 172 = .ok (.ireturn, 1) := by decide +kernel
theorem dX9_passOne_0 : decode cX9_passOne 0 = .ok (.aload_n 0, 1) := by decide +kernel
theorem dX9_passOne_1 : decode cX9_passOne 1 = .ok (.getfield 13, 3) := by decide +kernel
theorem dX9_passOne_4 : decode cX9_passOne 4 = .ok (.iconst 0, 1) := by decide +kernel
theorem dX9_passOne_5 : decode cX9_passOne 5 = .ok (.iaload, 1) := by decide +kernel
theorem dX9_passOne_6 : decode cX9_passOne 6 = .ok (.iconst 2, 1) := by decide +kernel
theorem dX9_passOne_7 : decode cX9_passOne 7 = .ok (.irem, 1) := by decide +kernel
theorem dX9_passOne_8 : decode cX9_passOne 8 = .ok (.istore_n 1, 1) := by decide +kernel
theorem dX9_passOne_9 : decode cX9_passOne 9 = .ok (.iconst 0, 1) := by decide +kernel
theorem dX9_passOne_10 : decode cX9_passOne 10 = .ok (.istore_n 2, 1) := by decide +kernel
theorem dX9_passOne_11 : decode cX9_passOne 11 = .ok (.iconst 0, 1) := by decide +kernel
theorem dX9_passOne_12 : decode cX9_passOne 12 = .ok (.istore_n 3, 1) := by decide +kernel
theorem dX9_passOne_13 : decode cX9_passOne 13 = .ok (.iload_n 3, 1) := by decide +kernel
theorem dX9_passOne_14 : decode cX9_passOne 14 = .ok (.aload_n 0, 1) := by decide +kernel
theorem dX9_passOne_15 : decode cX9_passOne 15 = .ok (.getfield 13, 3) := by decide +kernel
theorem dX9_passOne_18 : decode cX9_passOne 18 = .ok (.bipush 9, 2) := by decide +kernel
theorem dX9_passOne_20 : decode cX9_passOne 20 = .ok (.iaload, 1) := by decide +kernel
theorem dX9_passOne_21 : decode cX9_passOne 21 = .ok (.if_icmp .ge 81, 3) := by decide +kernel
theorem dX9_passOne_24 : decode cX9_passOne 24 = .ok (.aload_n 0, 1) := by decide +kernel
theorem dX9_passOne_25 : decode cX9_passOne 25 = .ok (.iload_n 3, 1) := by decide +kernel
theorem dX9_passOne_26 : decode cX9_passOne 26 = .ok (.invokevirtual 115, 3) := by decide +kernel
theorem dX9_passOne_29 : decode cX9_passOne 29 = .ok (.ifCond .ne 6, 3) := by decide +kernel
theorem dX9_passOne_32 : decode cX9_passOne 32 = .ok (.goto 64, 3) := by decide +kernel
theorem dX9_passOne_35 : decode cX9_passOne 35 = .ok (.aload_n 0, 1) := by decide +kernel
theorem dX9_passOne_36 : decode cX9_passOne 36 = .ok (.iload_n 3, 1) := by decide +kernel
theorem dX9_passOne_37 : decode cX9_passOne 37 = .ok (.iconst 2, 1) := by decide +kernel
theorem dX9_passOne_38 : decode cX9_passOne 38 = .ok (.invokevirtual 92, 3) := by decide +kernel
theorem dX9_passOne_41 : decode cX9_passOne 41 = .ok (.istore 4, 2) := by decide +kernel
theorem dX9_passOne_43 : decode cX9_passOne 43 = .ok (.aload_n 0, 1) := by decide +kernel
theorem dX9_passOne_44 : decode cX9_passOne 44 = .ok (.iload_n 1, 1) := by decide +kernel
theorem dX9_passOne_45 : decode cX9_passOne 45 = .ok (.iconst 0, 1) := by decide +kernel
theorem dX9_passOne_46 : decode cX9_passOne 46 = .ok (.invokevirtual 118, 3) := by decide +kernel
theorem dX9_passOne_49 : decode cX9_passOne 49 = .ok (.istore 5, 2) := by decide +kernel
theorem dX9_passOne_51 : decode cX9_passOne 51 = .ok (.iload 4, 2) := by decide +kernel
theorem dX9_passOne_53 : decode cX9_passOne 53 = .ok (.ifCond .le 43, 3) := by decide +kernel
theorem dX9_passOne_56 : decode cX9_passOne 56 = .ok (.iload 5, 2) := by decide +kernel
theorem dX9_passOne_58 : decode cX9_passOne 58 = .ok (.iconst (-1), 1) := by decide +kernel
theorem dX9_passOne_59 : decode cX9_passOne 59 = .ok (.if_icmp .eq 37, 3) := by decide +kernel
theorem dX9_passOne_62 : decode cX9_passOne 62 = .ok (.aload_n 0, 1) := by decide +kernel
theorem dX9_passOne_63 : decode cX9_passOne 63 = .ok (.iload 5, 2) := by decide +kernel
theorem dX9_passOne_65 : decode cX9_passOne 65 = .ok (.invokevirtual 121, 3) := by decide +kernel
theorem dX9_passOne_68 : decode cX9_passOne 68 = .ok (.invokestatic 85, 3) := by decide +kernel
theorem dX9_passOne_71 : decode cX9_passOne 71 = .ok (.istore 6, 2) := by decide +kernel
theorem dX9_passOne_73 : decode cX9_passOne 73 = .ok (.iload 4, 2) := by decide +kernel
theorem dX9_passOne_75 : decode cX9_passOne 75 = .ok (.iload 6, 2) := by decide +kernel
theorem dX9_passOne_77 : decode cX9_passOne 77 = .ok (.isub, 1) := by decide +kernel
theorem dX9_passOne_78 : decode cX9_passOne 78 = .ok (.istore 4, 2) := by decide +kernel
theorem dX9_passOne_80 : decode cX9_passOne 80 = .ok (.iload_n 2, 1) := by decide +kernel
theorem dX9_passOne_81 : decode cX9_passOne 81 = .ok (.iload 6, 2) := by decide +kernel
theorem dX9_passOne_83 : decode cX9_passOne 83 = .ok (.iadd, 1) := by decide +kernel
theorem dX9_passOne_84 : decode cX9_passOne 84 = .ok (.istore_n 2, 1) := by decide +kernel
theorem dX9_passOne_85 : decode cX9_passOne 85 = .ok (.aload_n 0, 1) := by decide +kernel
theorem dX9_passOne_86 : decode cX9_passOne 86 = .ok (.iload_n 1, 1) := by decide +kernel
theorem dX9_passOne_87 : decode cX9_passOne 87 = .ok (.iconst 0, 1) := by decide +kernel
theorem dX9_passOne_88 : decode cX9_passOne 88 = .ok (.invokevirtual 118, 3) := by decide +kernel
theorem dX9_passOne_91 : decode cX9_passOne 91 = .ok (.istore 5, 2) := by decide +kernel
theorem dX9_passOne_93 : decode cX9_passOne 93 = .ok (.goto (-42), 3) := by decide +kernel
theorem dX9_passOne_96 : decode cX9_passOne 96 = .ok (.iinc 3 1, 3) := by decide +kernel
theorem dX9_passOne_99 : decode cX9_passOne 99 = .ok (.goto (-86), 3) := by decide +kernel
theorem dX9_passOne_102 : decode cX9_passOne 102 = .ok (.aload_n 0, 1) := by decide +kernel
theorem dX9_passOne_103 : decode cX9_passOne 103 = .ok (.getfield 13, 3) := by decide +kernel
theorem dX9_passOne_106 : decode cX9_passOne 106 = .ok (.iconst 0, 1) := by decide +kernel
theorem dX9_passOne_107 : decode cX9_passOne 107 = .ok (.dup2, 1) := by decide +kernel
theorem dX9_passOne_108 : decode cX9_passOne 108 = .ok (.iaload, 1) := by decide +kernel
theorem dX9_passOne_109 : decode cX9_passOne 109 = .ok (.iconst 1, 1) := by decide +kernel
theorem dX9_passOne_110 : decode cX9_passOne 110 = .ok (.iadd, 1) := by decide +kernel
theorem dX9_passOne_111 : decode cX9_passOne 111 = .ok (.iastore, 1) := by decide +kernel
theorem dX9_passOne_112 : decode cX9_passOne 112 = .ok (.iload_n 2, 1) := by decide +kernel
theorem dX9_passOne_113 : decode cX9_passOne 113 = .ok (.ireturn, 1) := by decide +kernel
theorem dX9_passes_0 : decode cX9_passes 0 = .ok (.iconst 0, 1) := by decide +kernel
theorem dX9_passes_1 : decode cX9_passes 1 = .ok (.istore_n 2, 1) := by decide +kernel
theorem dX9_passes_2 : decode cX9_passes 2 = .ok (.iconst 0, 1) := by decide +kernel
theorem dX9_passes_3 : decode cX9_passes 3 = .ok (.istore_n 3, 1) := by decide +kernel
theorem dX9_passes_4 : decode cX9_passes 4 = .ok (.iload_n 3, 1) := by decide +kernel
theorem dX9_passes_5 : decode cX9_passes 5 = .ok (.iload_n 1, 1) := by decide +kernel
theorem dX9_passes_6 : decode cX9_passes 6 = .ok (.if_icmp .ge 16, 3) := by decide +kernel
theorem dX9_passes_9 : decode cX9_passes 9 = .ok (.iload_n 2, 1) := by decide +kernel
theorem dX9_passes_10 : decode cX9_passes 10 = .ok (.aload_n 0, 1) := by decide +kernel
theorem dX9_passes_11 : decode cX9_passes 11 = .ok (.invokevirtual 124, 3) := by decide +kernel
theorem dX9_passes_14 : decode cX9_passes 14 = .ok (.iadd, 1) := by decide +kernel
theorem dX9_passes_15 : decode cX9_passes 15 = .ok (.istore_n 2, 1) := by decide +kernel
theorem dX9_passes_16 : decode cX9_passes 16 = .ok (.iinc 3 1, 3) := by decide +kernel
theorem dX9_passes_19 : decode cX9_passes 19 = .ok (.goto (-15), 3) := by decide +kernel
theorem dX9_passes_22 : decode cX9_passes 22 = .ok (.iload_n 2, 1) := by decide +kernel
theorem dX9_passes_23 : decode cX9_passes 23 = .ok (.ireturn, 1) := by decide +kernel
theorem dX9_passesUpTo_0 : decode cX9_passesUpTo 0 = .ok (.iconst 0, 1) := by decide +kernel
theorem dX9_passesUpTo_1 : decode cX9_passesUpTo 1 = .ok (.istore_n 2, 1) := by decide +kernel
theorem dX9_passesUpTo_2 : decode cX9_passesUpTo 2 = .ok (.iload_n 2, 1) := by decide +kernel
theorem dX9_passesUpTo_3 : decode cX9_passesUpTo 3 = .ok (.iload_n 1, 1) := by decide +kernel
theorem dX9_passesUpTo_4 : decode cX9_passesUpTo 4 = .ok (.if_icmp .ge 26, 3) := by decide +kernel
theorem dX9_passesUpTo_7 : decode cX9_passesUpTo 7 = .ok (.aload_n 0, 1) := by decide +kernel
theorem dX9_passesUpTo_8 : decode cX9_passesUpTo 8 = .ok (.getfield 13, 3) := by decide +kernel
theorem dX9_passesUpTo_11 : decode cX9_passesUpTo 11 = .ok (.iconst 0, 1) := by decide +kernel
theorem dX9_passesUpTo_12 : decode cX9_passesUpTo 12 = .ok (.iaload, 1) := by decide +kernel
theorem dX9_passesUpTo_13 : decode cX9_passesUpTo 13 = .ok (.sipush 10000, 3) := by decide +kernel
theorem dX9_passesUpTo_16 : decode cX9_passesUpTo 16 = .ok (.if_icmp .ge 14, 3) := by decide +kernel
theorem dX9_passesUpTo_19 : decode cX9_passesUpTo 19 = .ok (.aload_n 0, 1) := by decide +kernel
theorem dX9_passesUpTo_20 : decode cX9_passesUpTo 20 = .ok (.invokevirtual 124, 3) := by decide +kernel
theorem dX9_passesUpTo_23 : decode cX9_passesUpTo 23 = .ok (.istore_n 3, 1) := by decide +kernel
theorem dX9_passesUpTo_24 : decode cX9_passesUpTo 24 = .ok (.iinc 2 1, 3) := by decide +kernel
theorem dX9_passesUpTo_27 : decode cX9_passesUpTo 27 = .ok (.goto (-25), 3) := by decide +kernel
theorem dX9_passesUpTo_30 : decode cX9_passesUpTo 30 = .ok (.return_, 1) := by decide +kernel
theorem dX9_royalsOf_0 : decode cX9_royalsOf 0 = .ok (.iconst 0, 1) := by decide +kernel
theorem dX9_royalsOf_1 : decode cX9_royalsOf 1 = .ok (.istore_n 2, 1) := by decide +kernel
theorem dX9_royalsOf_2 : decode cX9_royalsOf 2 = .ok (.iconst 0, 1) := by decide +kernel
theorem dX9_royalsOf_3 : decode cX9_royalsOf 3 = .ok (.istore_n 3, 1) := by decide +kernel
theorem dX9_royalsOf_4 : decode cX9_royalsOf 4 = .ok (.iload_n 3, 1) := by decide +kernel
theorem dX9_royalsOf_5 : decode cX9_royalsOf 5 = .ok (.aload_n 0, 1) := by decide +kernel
theorem dX9_royalsOf_6 : decode cX9_royalsOf 6 = .ok (.getfield 13, 3) := by decide +kernel
theorem dX9_royalsOf_9 : decode cX9_royalsOf 9 = .ok (.bipush 8, 2) := by decide +kernel
theorem dX9_royalsOf_11 : decode cX9_royalsOf 11 = .ok (.iaload, 1) := by decide +kernel
theorem dX9_royalsOf_12 : decode cX9_royalsOf 12 = .ok (.if_icmp .ge 38, 3) := by decide +kernel
theorem dX9_royalsOf_15 : decode cX9_royalsOf 15 = .ok (.iload_n 2, 1) := by decide +kernel
theorem dX9_royalsOf_16 : decode cX9_royalsOf 16 = .ok (.aload_n 0, 1) := by decide +kernel
theorem dX9_royalsOf_17 : decode cX9_royalsOf 17 = .ok (.iload_n 3, 1) := by decide +kernel
theorem dX9_royalsOf_18 : decode cX9_royalsOf 18 = .ok (.invokevirtual 64, 3) := by decide +kernel
theorem dX9_royalsOf_21 : decode cX9_royalsOf 21 = .ok (.ifCond .eq 17, 3) := by decide +kernel
theorem dX9_royalsOf_24 : decode cX9_royalsOf 24 = .ok (.aload_n 0, 1) := by decide +kernel
theorem dX9_royalsOf_25 : decode cX9_royalsOf 25 = .ok (.iload_n 3, 1) := by decide +kernel
theorem dX9_royalsOf_26 : decode cX9_royalsOf 26 = .ok (.iconst 0, 1) := by decide +kernel
theorem dX9_royalsOf_27 : decode cX9_royalsOf 27 = .ok (.invokevirtual 95, 3) := by decide +kernel
theorem dX9_royalsOf_30 : decode cX9_royalsOf 30 = .ok (.iload_n 1, 1) := by decide +kernel
theorem dX9_royalsOf_31 : decode cX9_royalsOf 31 = .ok (.if_icmp .ne 7, 3) := by decide +kernel
theorem dX9_royalsOf_34 : decode cX9_royalsOf 34 = .ok (.iconst 1, 1) := by decide +kernel
theorem dX9_royalsOf_35 : decode cX9_royalsOf 35 = .ok (.goto 4, 3) := by decide +kernel
theorem dX9_royalsOf_38 : decode cX9_royalsOf 38 = .ok (.iconst 0, 1) := by decide +kernel
theorem dX9_royalsOf_39 : decode cX9_royalsOf 39 = .ok (.invokestatic 85, 3) := by decide +kernel
theorem dX9_royalsOf_42 : decode cX9_royalsOf 42 = .ok (.iadd, 1) := by decide +kernel
theorem dX9_royalsOf_43 : decode cX9_royalsOf 43 = .ok (.istore_n 2, 1) := by decide +kernel
theorem dX9_royalsOf_44 : decode cX9_royalsOf 44 = .ok (.iinc 3 1, 3) := by decide +kernel
theorem dX9_royalsOf_47 : decode cX9_royalsOf 47 = .ok (.goto (-43), 3) := by decide +kernel
theorem dX9_royalsOf_50 : decode cX9_royalsOf 50 = .ok (.iload_n 2, 1) := by decide +kernel
theorem dX9_royalsOf_51 : decode cX9_royalsOf 51 = .ok (.ireturn, 1) := by decide +kernel
theorem dX9_liesBefore_0 : decode cX9_liesBefore 0 = .ok (.aload_n 0, 1) := by decide +kernel
theorem dX9_liesBefore_1 : decode cX9_liesBefore 1 = .ok (.iload_n 2, 1) := by decide +kernel
theorem dX9_liesBefore_2 : decode cX9_liesBefore 2 = .ok (.iconst 0, 1) := by decide +kernel
theorem dX9_liesBefore_3 : decode cX9_liesBefore 3 = .ok (.invokevirtual 95, 3) := by decide +kernel
theorem dX9_liesBefore_6 : decode cX9_liesBefore 6 = .ok (.iconst (-1), 1) := by decide +kernel
theorem dX9_liesBefore_7 : decode cX9_liesBefore 7 = .ok (.if_icmp .ne 22, 3) := by decide +kernel
theorem dX9_liesBefore_10 : decode cX9_liesBefore 10 = .ok (.aload_n 0, 1) := by decide +kernel
theorem dX9_liesBefore_11 : decode cX9_liesBefore 11 = .ok (.iload_n 2, 1) := by decide +kernel
theorem dX9_liesBefore_12 : decode cX9_liesBefore 12 = .ok (.iconst 1, 1) := by decide +kernel
theorem dX9_liesBefore_13 : decode cX9_liesBefore 13 = .ok (.invokevirtual 95, 3) := by decide +kernel
theorem dX9_liesBefore_16 : decode cX9_liesBefore 16 = .ok (.aload_n 0, 1) := by decide +kernel
theorem dX9_liesBefore_17 : decode cX9_liesBefore 17 = .ok (.iload_n 1, 1) := by decide +kernel
theorem dX9_liesBefore_18 : decode cX9_liesBefore 18 = .ok (.iconst 1, 1) := by decide +kernel
theorem dX9_liesBefore_19 : decode cX9_liesBefore 19 = .ok (.invokevirtual 60, 3) := by decide +kernel
theorem dX9_liesBefore_22 : decode cX9_liesBefore 22 = .ok (.if_icmp .ne 7, 3) := by decide +kernel
theorem dX9_liesBefore_25 : decode cX9_liesBefore 25 = .ok (.iconst 1, 1) := by decide +kernel
theorem dX9_liesBefore_26 : decode cX9_liesBefore 26 = .ok (.goto 4, 3) := by decide +kernel
theorem dX9_liesBefore_29 : decode cX9_liesBefore 29 = .ok (.iconst 0, 1) := by decide +kernel
theorem dX9_liesBefore_30 : decode cX9_liesBefore 30 = .ok (.ireturn, 1) := by decide +kernel
theorem dX9_can_0 : decode cX9_can 0 = .ok (.iload_n 1, 1) := by decide +kernel
theorem dX9_can_1 : decode cX9_can 1 = .ok (.tableswitch 175 0 8 #[51, 67, 91, 107, 114, 135, 149, 175, 155], 51) := by decide +kernel
theorem dX9_can_52 : decode cX9_can 52 = .ok (.aload_n 0, 1) := by decide +kernel
theorem dX9_can_53 : decode cX9_can 53 = .ok (.iload_n 2, 1) := by decide +kernel
theorem dX9_can_54 : decode cX9_can 54 = .ok (.iconst 2, 1) := by decide +kernel
theorem dX9_can_55 : decode cX9_can 55 = .ok (.invokevirtual 60, 3) := by decide +kernel
theorem dX9_can_58 : decode cX9_can 58 = .ok (.iload_n 3, 1) := by decide +kernel
theorem dX9_can_59 : decode cX9_can 59 = .ok (.if_icmp .lt 7, 3) := by decide +kernel
theorem dX9_can_62 : decode cX9_can 62 = .ok (.iconst 1, 1) := by decide +kernel
theorem dX9_can_63 : decode cX9_can 63 = .ok (.goto 4, 3) := by decide +kernel
theorem dX9_can_66 : decode cX9_can 66 = .ok (.iconst 0, 1) := by decide +kernel
theorem dX9_can_67 : decode cX9_can 67 = .ok (.ireturn, 1) := by decide +kernel
theorem dX9_can_68 : decode cX9_can 68 = .ok (.aload_n 0, 1) := by decide +kernel
theorem dX9_can_69 : decode cX9_can 69 = .ok (.getfield 13, 3) := by decide +kernel
theorem dX9_can_72 : decode cX9_can 72 = .ok (.bipush 6, 2) := by decide +kernel
theorem dX9_can_74 : decode cX9_can 74 = .ok (.aload_n 0, 1) := by decide +kernel
theorem dX9_can_75 : decode cX9_can 75 = .ok (.iload_n 2, 1) := by decide +kernel
theorem dX9_can_76 : decode cX9_can 76 = .ok (.iconst 1, 1) := by decide +kernel
theorem dX9_can_77 : decode cX9_can 77 = .ok (.invokevirtual 60, 3) := by decide +kernel
theorem dX9_can_80 : decode cX9_can 80 = .ok (.iadd, 1) := by decide +kernel
theorem dX9_can_81 : decode cX9_can 81 = .ok (.iaload, 1) := by decide +kernel
theorem dX9_can_82 : decode cX9_can 82 = .ok (.iload_n 3, 1) := by decide +kernel
theorem dX9_can_83 : decode cX9_can 83 = .ok (.if_icmp .lt 7, 3) := by decide +kernel
theorem dX9_can_86 : decode cX9_can 86 = .ok (.iconst 1, 1) := by decide +kernel
theorem dX9_can_87 : decode cX9_can 87 = .ok (.goto 4, 3) := by decide +kernel
theorem dX9_can_90 : decode cX9_can 90 = .ok (.iconst 0, 1) := by decide +kernel
theorem dX9_can_91 : decode cX9_can 91 = .ok (.ireturn, 1) := by decide +kernel
theorem dX9_can_92 : decode cX9_can 92 = .ok (.aload_n 0, 1) := by decide +kernel
theorem dX9_can_93 : decode cX9_can 93 = .ok (.iload_n 3, 1) := by decide +kernel
theorem dX9_can_94 : decode cX9_can 94 = .ok (.iconst 0, 1) := by decide +kernel
theorem dX9_can_95 : decode cX9_can 95 = .ok (.invokevirtual 95, 3) := by decide +kernel
theorem dX9_can_98 : decode cX9_can 98 = .ok (.iload_n 2, 1) := by decide +kernel
theorem dX9_can_99 : decode cX9_can 99 = .ok (.if_icmp .ne 7, 3) := by decide +kernel
theorem dX9_can_102 : decode cX9_can 102 = .ok (.iconst 1, 1) := by decide +kernel
theorem dX9_can_103 : decode cX9_can 103 = .ok (.goto 4, 3) := by decide +kernel
theorem dX9_can_106 : decode cX9_can 106 = .ok (.iconst 0, 1) := by decide +kernel
theorem dX9_can_107 : decode cX9_can 107 = .ok (.ireturn, 1) := by decide +kernel
theorem dX9_can_108 : decode cX9_can 108 = .ok (.aload_n 0, 1) := by decide +kernel
theorem dX9_can_109 : decode cX9_can 109 = .ok (.iload_n 2, 1) := by decide +kernel
theorem dX9_can_110 : decode cX9_can 110 = .ok (.iload_n 3, 1) := by decide +kernel
theorem dX9_can_111 : decode cX9_can 111 = .ok (.invokevirtual 127, 3) := by decide +kernel
theorem dX9_can_114 : decode cX9_can 114 = .ok (.ireturn, 1) := by decide +kernel
theorem dX9_can_115 : decode cX9_can 115 = .ok (.aload_n 0, 1) := by decide +kernel
theorem dX9_can_116 : decode cX9_can 116 = .ok (.iload_n 2, 1) := by decide +kernel
theorem dX9_can_117 : decode cX9_can 117 = .ok (.iconst 1, 1) := by decide +kernel
theorem dX9_can_118 : decode cX9_can 118 = .ok (.invokevirtual 60, 3) := by decide +kernel
theorem dX9_can_121 : decode cX9_can 121 = .ok (.aload_n 0, 1) := by decide +kernel
theorem dX9_can_122 : decode cX9_can 122 = .ok (.iload_n 3, 1) := by decide +kernel
theorem dX9_can_123 : decode cX9_can 123 = .ok (.iconst 1, 1) := by decide +kernel
theorem dX9_can_124 : decode cX9_can 124 = .ok (.invokevirtual 60, 3) := by decide +kernel
theorem dX9_can_127 : decode cX9_can 127 = .ok (.if_icmp .ne 7, 3) := by decide +kernel
theorem dX9_can_130 : decode cX9_can 130 = .ok (.iconst 1, 1) := by decide +kernel
theorem dX9_can_131 : decode cX9_can 131 = .ok (.goto 4, 3) := by decide +kernel
theorem dX9_can_134 : decode cX9_can 134 = .ok (.iconst 0, 1) := by decide +kernel
theorem dX9_can_135 : decode cX9_can 135 = .ok (.ireturn, 1) := by decide +kernel
theorem dX9_can_136 : decode cX9_can 136 = .ok (.aload_n 0, 1) := by decide +kernel
theorem dX9_can_137 : decode cX9_can 137 = .ok (.iload_n 2, 1) := by decide +kernel
theorem dX9_can_138 : decode cX9_can 138 = .ok (.invokevirtual 79, 3) := by decide +kernel
theorem dX9_can_141 : decode cX9_can 141 = .ok (.ifCond .ne 7, 3) := by decide +kernel
theorem dX9_can_144 : decode cX9_can 144 = .ok (.iconst 1, 1) := by decide +kernel
theorem dX9_can_145 : decode cX9_can 145 = .ok (.goto 4, 3) := by decide +kernel
theorem dX9_can_148 : decode cX9_can 148 = .ok (.iconst 0, 1) := by decide +kernel
theorem dX9_can_149 : decode cX9_can 149 = .ok (.ireturn, 1) := by decide +kernel
theorem dX9_can_150 : decode cX9_can 150 = .ok (.aload_n 0, 1) := by decide +kernel
theorem dX9_can_151 : decode cX9_can 151 = .ok (.iload_n 2, 1) := by decide +kernel
theorem dX9_can_152 : decode cX9_can 152 = .ok (.invokevirtual 79, 3) := by decide +kernel
theorem dX9_can_155 : decode cX9_can 155 = .ok (.ireturn, 1) := by decide +kernel
theorem dX9_can_156 : decode cX9_can 156 = .ok (.aload_n 0, 1) := by decide +kernel
theorem dX9_can_157 : decode cX9_can 157 = .ok (.getfield 13, 3) := by decide +kernel
theorem dX9_can_160 : decode cX9_can 160 = .ok (.iconst 0, 1) := by decide +kernel
theorem dX9_can_161 : decode cX9_can 161 = .ok (.iaload, 1) := by decide +kernel
theorem dX9_can_162 : decode cX9_can 162 = .ok (.iload_n 2, 1) := by decide +kernel
theorem dX9_can_163 : decode cX9_can 163 = .ok (.iadd, 1) := by decide +kernel
theorem dX9_can_164 : decode cX9_can 164 = .ok (.sipush 10000, 3) := by decide +kernel
theorem dX9_can_167 : decode cX9_can 167 = .ok (.if_icmp .gt 7, 3) := by decide +kernel
theorem dX9_can_170 : decode cX9_can 170 = .ok (.iconst 1, 1) := by decide +kernel
theorem dX9_can_171 : decode cX9_can 171 = .ok (.goto 4, 3) := by decide +kernel
theorem dX9_can_174 : decode cX9_can 174 = .ok (.iconst 0, 1) := by decide +kernel
theorem dX9_can_175 : decode cX9_can 175 = .ok (.ireturn, 1) := by decide +kernel
theorem dX9_can_176 : decode cX9_can 176 = .ok (.iconst 1, 1) := by decide +kernel
theorem dX9_can_177 : decode cX9_can 177 = .ok (.ireturn, 1) := by decide +kernel
theorem dX9_moves_0 : decode cX9_moves 0 = .ok (.aload_n 0, 1) := by decide +kernel
theorem dX9_moves_1 : decode cX9_moves 1 = .ok (.iload_n 1, 1) := by decide +kernel
theorem dX9_moves_2 : decode cX9_moves 2 = .ok (.iconst 2, 1) := by decide +kernel
theorem dX9_moves_3 : decode cX9_moves 3 = .ok (.aload_n 0, 1) := by decide +kernel
theorem dX9_moves_4 : decode cX9_moves 4 = .ok (.iload_n 1, 1) := by decide +kernel
theorem dX9_moves_5 : decode cX9_moves 5 = .ok (.iconst 2, 1) := by decide +kernel
theorem dX9_moves_6 : decode cX9_moves 6 = .ok (.invokevirtual 60, 3) := by decide +kernel
theorem dX9_moves_9 : decode cX9_moves 9 = .ok (.iload_n 2, 1) := by decide +kernel
theorem dX9_moves_10 : decode cX9_moves 10 = .ok (.isub, 1) := by decide +kernel
theorem dX9_moves_11 : decode cX9_moves 11 = .ok (.invokevirtual 105, 3) := by decide +kernel
theorem dX9_moves_14 : decode cX9_moves 14 = .ok (.aload_n 0, 1) := by decide +kernel
theorem dX9_moves_15 : decode cX9_moves 15 = .ok (.getfield 13, 3) := by decide +kernel
theorem dX9_moves_18 : decode cX9_moves 18 = .ok (.bipush 6, 2) := by decide +kernel
theorem dX9_moves_20 : decode cX9_moves 20 = .ok (.aload_n 0, 1) := by decide +kernel
theorem dX9_moves_21 : decode cX9_moves 21 = .ok (.iload_n 1, 1) := by decide +kernel
theorem dX9_moves_22 : decode cX9_moves 22 = .ok (.iconst 1, 1) := by decide +kernel
theorem dX9_moves_23 : decode cX9_moves 23 = .ok (.invokevirtual 60, 3) := by decide +kernel
theorem dX9_moves_26 : decode cX9_moves 26 = .ok (.iadd, 1) := by decide +kernel
theorem dX9_moves_27 : decode cX9_moves 27 = .ok (.dup2, 1) := by decide +kernel
theorem dX9_moves_28 : decode cX9_moves 28 = .ok (.iaload, 1) := by decide +kernel
theorem dX9_moves_29 : decode cX9_moves 29 = .ok (.iload_n 2, 1) := by decide +kernel
theorem dX9_moves_30 : decode cX9_moves 30 = .ok (.iadd, 1) := by decide +kernel
theorem dX9_moves_31 : decode cX9_moves 31 = .ok (.iastore, 1) := by decide +kernel
theorem dX9_moves_32 : decode cX9_moves 32 = .ok (.aload_n 0, 1) := by decide +kernel
theorem dX9_moves_33 : decode cX9_moves 33 = .ok (.getfield 13, 3) := by decide +kernel
theorem dX9_moves_36 : decode cX9_moves 36 = .ok (.bipush 6, 2) := by decide +kernel
theorem dX9_moves_38 : decode cX9_moves 38 = .ok (.aload_n 0, 1) := by decide +kernel
theorem dX9_moves_39 : decode cX9_moves 39 = .ok (.iload_n 1, 1) := by decide +kernel
theorem dX9_moves_40 : decode cX9_moves 40 = .ok (.iconst 1, 1) := by decide +kernel
theorem dX9_moves_41 : decode cX9_moves 41 = .ok (.invokevirtual 60, 3) := by decide +kernel
theorem dX9_moves_44 : decode cX9_moves 44 = .ok (.iadd, 1) := by decide +kernel
theorem dX9_moves_45 : decode cX9_moves 45 = .ok (.iaload, 1) := by decide +kernel
theorem dX9_moves_46 : decode cX9_moves 46 = .ok (.ireturn, 1) := by decide +kernel
theorem dX9_laysDown_0 : decode cX9_laysDown 0 = .ok (.aload_n 0, 1) := by decide +kernel
theorem dX9_laysDown_1 : decode cX9_laysDown 1 = .ok (.iload_n 2, 1) := by decide +kernel
theorem dX9_laysDown_2 : decode cX9_laysDown 2 = .ok (.iconst 0, 1) := by decide +kernel
theorem dX9_laysDown_3 : decode cX9_laysDown 3 = .ok (.iconst (-1), 1) := by decide +kernel
theorem dX9_laysDown_4 : decode cX9_laysDown 4 = .ok (.invokevirtual 98, 3) := by decide +kernel
theorem dX9_laysDown_7 : decode cX9_laysDown 7 = .ok (.aload_n 0, 1) := by decide +kernel
theorem dX9_laysDown_8 : decode cX9_laysDown 8 = .ok (.iload_n 2, 1) := by decide +kernel
theorem dX9_laysDown_9 : decode cX9_laysDown 9 = .ok (.iconst 1, 1) := by decide +kernel
theorem dX9_laysDown_10 : decode cX9_laysDown 10 = .ok (.aload_n 0, 1) := by decide +kernel
theorem dX9_laysDown_11 : decode cX9_laysDown 11 = .ok (.iload_n 1, 1) := by decide +kernel
theorem dX9_laysDown_12 : decode cX9_laysDown 12 = .ok (.iconst 1, 1) := by decide +kernel
theorem dX9_laysDown_13 : decode cX9_laysDown 13 = .ok (.invokevirtual 60, 3) := by decide +kernel
theorem dX9_laysDown_16 : decode cX9_laysDown 16 = .ok (.invokevirtual 98, 3) := by decide +kernel
theorem dX9_laysDown_19 : decode cX9_laysDown 19 = .ok (.aload_n 0, 1) := by decide +kernel
theorem dX9_laysDown_20 : decode cX9_laysDown 20 = .ok (.iload_n 1, 1) := by decide +kernel
theorem dX9_laysDown_21 : decode cX9_laysDown 21 = .ok (.invokevirtual 130, 3) := by decide +kernel
theorem dX9_laysDown_24 : decode cX9_laysDown 24 = .ok (.ireturn, 1) := by decide +kernel
theorem dX9_lifts_0 : decode cX9_lifts 0 = .ok (.aload_n 0, 1) := by decide +kernel
theorem dX9_lifts_1 : decode cX9_lifts 1 = .ok (.iload_n 2, 1) := by decide +kernel
theorem dX9_lifts_2 : decode cX9_lifts 2 = .ok (.iconst 0, 1) := by decide +kernel
theorem dX9_lifts_3 : decode cX9_lifts 3 = .ok (.iload_n 1, 1) := by decide +kernel
theorem dX9_lifts_4 : decode cX9_lifts 4 = .ok (.invokevirtual 98, 3) := by decide +kernel
theorem dX9_lifts_7 : decode cX9_lifts 7 = .ok (.aload_n 0, 1) := by decide +kernel
theorem dX9_lifts_8 : decode cX9_lifts 8 = .ok (.iload_n 1, 1) := by decide +kernel
theorem dX9_lifts_9 : decode cX9_lifts 9 = .ok (.invokevirtual 130, 3) := by decide +kernel
theorem dX9_lifts_12 : decode cX9_lifts 12 = .ok (.ireturn, 1) := by decide +kernel
theorem dX9_swaps_0 : decode cX9_swaps 0 = .ok (.aload_n 0, 1) := by decide +kernel
theorem dX9_swaps_1 : decode cX9_swaps 1 = .ok (.iload_n 1, 1) := by decide +kernel
theorem dX9_swaps_2 : decode cX9_swaps 2 = .ok (.iconst 4, 1) := by decide +kernel
theorem dX9_swaps_3 : decode cX9_swaps 3 = .ok (.invokevirtual 60, 3) := by decide +kernel
theorem dX9_swaps_6 : decode cX9_swaps 6 = .ok (.istore_n 3, 1) := by decide +kernel
theorem dX9_swaps_7 : decode cX9_swaps 7 = .ok (.aload_n 0, 1) := by decide +kernel
theorem dX9_swaps_8 : decode cX9_swaps 8 = .ok (.iload_n 1, 1) := by decide +kernel
theorem dX9_swaps_9 : decode cX9_swaps 9 = .ok (.iconst 4, 1) := by decide +kernel
theorem dX9_swaps_10 : decode cX9_swaps 10 = .ok (.aload_n 0, 1) := by decide +kernel
theorem dX9_swaps_11 : decode cX9_swaps 11 = .ok (.iload_n 2, 1) := by decide +kernel
theorem dX9_swaps_12 : decode cX9_swaps 12 = .ok (.iconst 4, 1) := by decide +kernel
theorem dX9_swaps_13 : decode cX9_swaps 13 = .ok (.invokevirtual 60, 3) := by decide +kernel
theorem dX9_swaps_16 : decode cX9_swaps 16 = .ok (.invokevirtual 105, 3) := by decide +kernel
theorem dX9_swaps_19 : decode cX9_swaps 19 = .ok (.aload_n 0, 1) := by decide +kernel
theorem dX9_swaps_20 : decode cX9_swaps 20 = .ok (.iload_n 2, 1) := by decide +kernel
theorem dX9_swaps_21 : decode cX9_swaps 21 = .ok (.iconst 4, 1) := by decide +kernel
theorem dX9_swaps_22 : decode cX9_swaps 22 = .ok (.iload_n 3, 1) := by decide +kernel
theorem dX9_swaps_23 : decode cX9_swaps 23 = .ok (.invokevirtual 105, 3) := by decide +kernel
theorem dX9_swaps_26 : decode cX9_swaps 26 = .ok (.aload_n 0, 1) := by decide +kernel
theorem dX9_swaps_27 : decode cX9_swaps 27 = .ok (.iload_n 1, 1) := by decide +kernel
theorem dX9_swaps_28 : decode cX9_swaps 28 = .ok (.iconst 4, 1) := by decide +kernel
theorem dX9_swaps_29 : decode cX9_swaps 29 = .ok (.invokevirtual 60, 3) := by decide +kernel
theorem dX9_swaps_32 : decode cX9_swaps 32 = .ok (.ireturn, 1) := by decide +kernel
theorem dX9_joins_0 : decode cX9_joins 0 = .ok (.aload_n 0, 1) := by decide +kernel
theorem dX9_joins_1 : decode cX9_joins 1 = .ok (.iload_n 1, 1) := by decide +kernel
theorem dX9_joins_2 : decode cX9_joins 2 = .ok (.bipush 6, 2) := by decide +kernel
theorem dX9_joins_4 : decode cX9_joins 4 = .ok (.iload_n 2, 1) := by decide +kernel
theorem dX9_joins_5 : decode cX9_joins 5 = .ok (.iconst 1, 1) := by decide +kernel
theorem dX9_joins_6 : decode cX9_joins 6 = .ok (.iadd, 1) := by decide +kernel
theorem dX9_joins_7 : decode cX9_joins 7 = .ok (.invokevirtual 105, 3) := by decide +kernel
theorem dX9_joins_10 : decode cX9_joins 10 = .ok (.aload_n 0, 1) := by decide +kernel
theorem dX9_joins_11 : decode cX9_joins 11 = .ok (.iload_n 1, 1) := by decide +kernel
theorem dX9_joins_12 : decode cX9_joins 12 = .ok (.bipush 7, 2) := by decide +kernel
theorem dX9_joins_14 : decode cX9_joins 14 = .ok (.aload_n 0, 1) := by decide +kernel
theorem dX9_joins_15 : decode cX9_joins 15 = .ok (.getfield 13, 3) := by decide +kernel
theorem dX9_joins_18 : decode cX9_joins 18 = .ok (.bipush 11, 2) := by decide +kernel
theorem dX9_joins_20 : decode cX9_joins 20 = .ok (.iaload, 1) := by decide +kernel
theorem dX9_joins_21 : decode cX9_joins 21 = .ok (.invokevirtual 105, 3) := by decide +kernel
theorem dX9_joins_24 : decode cX9_joins 24 = .ok (.aload_n 0, 1) := by decide +kernel
theorem dX9_joins_25 : decode cX9_joins 25 = .ok (.getfield 13, 3) := by decide +kernel
theorem dX9_joins_28 : decode cX9_joins 28 = .ok (.bipush 11, 2) := by decide +kernel
theorem dX9_joins_30 : decode cX9_joins 30 = .ok (.dup2, 1) := by decide +kernel
theorem dX9_joins_31 : decode cX9_joins 31 = .ok (.iaload, 1) := by decide +kernel
theorem dX9_joins_32 : decode cX9_joins 32 = .ok (.iconst 1, 1) := by decide +kernel
theorem dX9_joins_33 : decode cX9_joins 33 = .ok (.iadd, 1) := by decide +kernel
theorem dX9_joins_34 : decode cX9_joins 34 = .ok (.iastore, 1) := by decide +kernel
theorem dX9_joins_35 : decode cX9_joins 35 = .ok (.aload_n 0, 1) := by decide +kernel
theorem dX9_joins_36 : decode cX9_joins 36 = .ok (.iload_n 1, 1) := by decide +kernel
theorem dX9_joins_37 : decode cX9_joins 37 = .ok (.invokevirtual 89, 3) := by decide +kernel
theorem dX9_joins_40 : decode cX9_joins 40 = .ok (.ireturn, 1) := by decide +kernel
theorem dX9_quits_0 : decode cX9_quits 0 = .ok (.aload_n 0, 1) := by decide +kernel
theorem dX9_quits_1 : decode cX9_quits 1 = .ok (.iload_n 1, 1) := by decide +kernel
theorem dX9_quits_2 : decode cX9_quits 2 = .ok (.bipush 6, 2) := by decide +kernel
theorem dX9_quits_4 : decode cX9_quits 4 = .ok (.invokevirtual 60, 3) := by decide +kernel
theorem dX9_quits_7 : decode cX9_quits 7 = .ok (.iconst 1, 1) := by decide +kernel
theorem dX9_quits_8 : decode cX9_quits 8 = .ok (.isub, 1) := by decide +kernel
theorem dX9_quits_9 : decode cX9_quits 9 = .ok (.istore_n 2, 1) := by decide +kernel
theorem dX9_quits_10 : decode cX9_quits 10 = .ok (.aload_n 0, 1) := by decide +kernel
theorem dX9_quits_11 : decode cX9_quits 11 = .ok (.iload_n 1, 1) := by decide +kernel
theorem dX9_quits_12 : decode cX9_quits 12 = .ok (.bipush 6, 2) := by decide +kernel
theorem dX9_quits_14 : decode cX9_quits 14 = .ok (.iconst 0, 1) := by decide +kernel
theorem dX9_quits_15 : decode cX9_quits 15 = .ok (.invokevirtual 105, 3) := by decide +kernel
theorem dX9_quits_18 : decode cX9_quits 18 = .ok (.iload_n 2, 1) := by decide +kernel
theorem dX9_quits_19 : decode cX9_quits 19 = .ok (.ireturn, 1) := by decide +kernel
theorem dX9_becomesProud_0 : decode cX9_becomesProud 0 = .ok (.aload_n 0, 1) := by decide +kernel
theorem dX9_becomesProud_1 : decode cX9_becomesProud 1 = .ok (.iload_n 1, 1) := by decide +kernel
theorem dX9_becomesProud_2 : decode cX9_becomesProud 2 = .ok (.iconst 3, 1) := by decide +kernel
theorem dX9_becomesProud_3 : decode cX9_becomesProud 3 = .ok (.invokevirtual 60, 3) := by decide +kernel
theorem dX9_becomesProud_6 : decode cX9_becomesProud 6 = .ok (.istore_n 3, 1) := by decide +kernel
theorem dX9_becomesProud_7 : decode cX9_becomesProud 7 = .ok (.aload_n 0, 1) := by decide +kernel
theorem dX9_becomesProud_8 : decode cX9_becomesProud 8 = .ok (.iload_n 1, 1) := by decide +kernel
theorem dX9_becomesProud_9 : decode cX9_becomesProud 9 = .ok (.iconst 3, 1) := by decide +kernel
theorem dX9_becomesProud_10 : decode cX9_becomesProud 10 = .ok (.iload_n 2, 1) := by decide +kernel
theorem dX9_becomesProud_11 : decode cX9_becomesProud 11 = .ok (.invokevirtual 105, 3) := by decide +kernel
theorem dX9_becomesProud_14 : decode cX9_becomesProud 14 = .ok (.iload_n 3, 1) := by decide +kernel
theorem dX9_becomesProud_15 : decode cX9_becomesProud 15 = .ok (.ireturn, 1) := by decide +kernel
theorem dX9_does_0 : decode cX9_does 0 = .ok (.iload_n 1, 1) := by decide +kernel
theorem dX9_does_1 : decode cX9_does 1 = .ok (.tableswitch 111 0 7 #[47, 54, 70, 77, 84, 91, 98, 104], 47) := by decide +kernel
theorem dX9_does_48 : decode cX9_does 48 = .ok (.aload_n 0, 1) := by decide +kernel
theorem dX9_does_49 : decode cX9_does 49 = .ok (.iload_n 2, 1) := by decide +kernel
theorem dX9_does_50 : decode cX9_does 50 = .ok (.iload_n 3, 1) := by decide +kernel
theorem dX9_does_51 : decode cX9_does 51 = .ok (.invokevirtual 133, 3) := by decide +kernel
theorem dX9_does_54 : decode cX9_does 54 = .ok (.ireturn, 1) := by decide +kernel
theorem dX9_does_55 : decode cX9_does 55 = .ok (.aload_n 0, 1) := by decide +kernel
theorem dX9_does_56 : decode cX9_does 56 = .ok (.iload_n 2, 1) := by decide +kernel
theorem dX9_does_57 : decode cX9_does 57 = .ok (.iload_n 3, 1) := by decide +kernel
theorem dX9_does_58 : decode cX9_does 58 = .ok (.ineg, 1) := by decide +kernel
theorem dX9_does_59 : decode cX9_does 59 = .ok (.invokevirtual 133, 3) := by decide +kernel
theorem dX9_does_62 : decode cX9_does 62 = .ok (.istore 4, 2) := by decide +kernel
theorem dX9_does_64 : decode cX9_does 64 = .ok (.aload_n 0, 1) := by decide +kernel
theorem dX9_does_65 : decode cX9_does 65 = .ok (.iload_n 2, 1) := by decide +kernel
theorem dX9_does_66 : decode cX9_does 66 = .ok (.iconst 2, 1) := by decide +kernel
theorem dX9_does_67 : decode cX9_does 67 = .ok (.invokevirtual 60, 3) := by decide +kernel
theorem dX9_does_70 : decode cX9_does 70 = .ok (.ireturn, 1) := by decide +kernel
theorem dX9_does_71 : decode cX9_does 71 = .ok (.aload_n 0, 1) := by decide +kernel
theorem dX9_does_72 : decode cX9_does 72 = .ok (.iload_n 2, 1) := by decide +kernel
theorem dX9_does_73 : decode cX9_does 73 = .ok (.iload_n 3, 1) := by decide +kernel
theorem dX9_does_74 : decode cX9_does 74 = .ok (.invokevirtual 136, 3) := by decide +kernel
theorem dX9_does_77 : decode cX9_does 77 = .ok (.ireturn, 1) := by decide +kernel
theorem dX9_does_78 : decode cX9_does 78 = .ok (.aload_n 0, 1) := by decide +kernel
theorem dX9_does_79 : decode cX9_does 79 = .ok (.iload_n 2, 1) := by decide +kernel
theorem dX9_does_80 : decode cX9_does 80 = .ok (.iload_n 3, 1) := by decide +kernel
theorem dX9_does_81 : decode cX9_does 81 = .ok (.invokevirtual 139, 3) := by decide +kernel
theorem dX9_does_84 : decode cX9_does 84 = .ok (.ireturn, 1) := by decide +kernel
theorem dX9_does_85 : decode cX9_does 85 = .ok (.aload_n 0, 1) := by decide +kernel
theorem dX9_does_86 : decode cX9_does 86 = .ok (.iload_n 2, 1) := by decide +kernel
theorem dX9_does_87 : decode cX9_does 87 = .ok (.iload_n 3, 1) := by decide +kernel
theorem dX9_does_88 : decode cX9_does 88 = .ok (.invokevirtual 142, 3) := by decide +kernel
theorem dX9_does_91 : decode cX9_does 91 = .ok (.ireturn, 1) := by decide +kernel
theorem dX9_does_92 : decode cX9_does 92 = .ok (.aload_n 0, 1) := by decide +kernel
theorem dX9_does_93 : decode cX9_does 93 = .ok (.iload_n 2, 1) := by decide +kernel
theorem dX9_does_94 : decode cX9_does 94 = .ok (.iload_n 3, 1) := by decide +kernel
theorem dX9_does_95 : decode cX9_does 95 = .ok (.invokevirtual 145, 3) := by decide +kernel
theorem dX9_does_98 : decode cX9_does 98 = .ok (.ireturn, 1) := by decide +kernel
theorem dX9_does_99 : decode cX9_does 99 = .ok (.aload_n 0, 1) := by decide +kernel
theorem dX9_does_100 : decode cX9_does 100 = .ok (.iload_n 2, 1) := by decide +kernel
theorem dX9_does_101 : decode cX9_does 101 = .ok (.invokevirtual 148, 3) := by decide +kernel
theorem dX9_does_104 : decode cX9_does 104 = .ok (.ireturn, 1) := by decide +kernel
theorem dX9_does_105 : decode cX9_does 105 = .ok (.aload_n 0, 1) := by decide +kernel
theorem dX9_does_106 : decode cX9_does 106 = .ok (.iload_n 2, 1) := by decide +kernel
theorem dX9_does_107 : decode cX9_does 107 = .ok (.iload_n 3, 1) := by decide +kernel
theorem dX9_does_108 : decode cX9_does 108 = .ok (.invokevirtual 151, 3) := by decide +kernel
theorem dX9_does_111 : decode cX9_does 111 = .ok (.ireturn, 1) := by decide +kernel
theorem dX9_does_112 : decode cX9_does 112 = .ok (.aload_n 0, 1) := by decide +kernel
theorem dX9_does_113 : decode cX9_does 113 = .ok (.iload_n 2, 1) := by decide +kernel
theorem dX9_does_114 : decode cX9_does 114 = .ok (.invokevirtual 154, 3) := by decide +kernel
theorem dX9_does_117 : decode cX9_does 117 = .ok (.ireturn, 1) := by decide +kernel
theorem dX9_bytes_0 : decode cX9_bytes 0 = .ok (.bipush 24, 2) := by decide +kernel
theorem dX9_bytes_2 : decode cX9_bytes 2 = .ok (.istore_n 2, 1) := by decide +kernel
theorem dX9_bytes_3 : decode cX9_bytes 3 = .ok (.iload_n 2, 1) := by decide +kernel
theorem dX9_bytes_4 : decode cX9_bytes 4 = .ok (.ifCond .lt 35, 3) := by decide +kernel
theorem dX9_bytes_7 : decode cX9_bytes 7 = .ok (.aload_n 0, 1) := by decide +kernel
theorem dX9_bytes_8 : decode cX9_bytes 8 = .ok (.getfield 29, 3) := by decide +kernel
theorem dX9_bytes_11 : decode cX9_bytes 11 = .ok (.aload_n 0, 1) := by decide +kernel
theorem dX9_bytes_12 : decode cX9_bytes 12 = .ok (.getfield 53, 3) := by decide +kernel
theorem dX9_bytes_15 : decode cX9_bytes 15 = .ok (.iload_n 1, 1) := by decide +kernel
theorem dX9_bytes_16 : decode cX9_bytes 16 = .ok (.iload_n 2, 1) := by decide +kernel
theorem dX9_bytes_17 : decode cX9_bytes 17 = .ok (.ishr, 1) := by decide +kernel
theorem dX9_bytes_18 : decode cX9_bytes 18 = .ok (.sipush 255, 3) := by decide +kernel
theorem dX9_bytes_21 : decode cX9_bytes 21 = .ok (.iand, 1) := by decide +kernel
theorem dX9_bytes_22 : decode cX9_bytes 22 = .ok (.iastore, 1) := by decide +kernel
theorem dX9_bytes_23 : decode cX9_bytes 23 = .ok (.aload_n 0, 1) := by decide +kernel
theorem dX9_bytes_24 : decode cX9_bytes 24 = .ok (.dup, 1) := by decide +kernel
theorem dX9_bytes_25 : decode cX9_bytes 25 = .ok (.getfield 53, 3) := by decide +kernel
theorem dX9_bytes_28 : decode cX9_bytes 28 = .ok (.iconst 1, 1) := by decide +kernel
theorem dX9_bytes_29 : decode cX9_bytes 29 = .ok (.iadd, 1) := by decide +kernel
theorem dX9_bytes_30 : decode cX9_bytes 30 = .ok (.putfield 53, 3) := by decide +kernel
theorem dX9_bytes_33 : decode cX9_bytes 33 = .ok (.iinc 2 (-8), 3) := by decide +kernel
theorem dX9_bytes_36 : decode cX9_bytes 36 = .ok (.goto (-33), 3) := by decide +kernel
theorem dX9_bytes_39 : decode cX9_bytes 39 = .ok (.return_, 1) := by decide +kernel
theorem dX9_appendText_0 : decode cX9_appendText 0 = .ok (.aload_n 0, 1) := by decide +kernel
theorem dX9_appendText_1 : decode cX9_appendText 1 = .ok (.iconst 0, 1) := by decide +kernel
theorem dX9_appendText_2 : decode cX9_appendText 2 = .ok (.putfield 1, 3) := by decide +kernel
theorem dX9_appendText_5 : decode cX9_appendText 5 = .ok (.aload_n 0, 1) := by decide +kernel
theorem dX9_appendText_6 : decode cX9_appendText 6 = .ok (.getfield 53, 3) := by decide +kernel
theorem dX9_appendText_9 : decode cX9_appendText 9 = .ok (.bipush 20, 2) := by decide +kernel
theorem dX9_appendText_11 : decode cX9_appendText 11 = .ok (.iadd, 1) := by decide +kernel
theorem dX9_appendText_12 : decode cX9_appendText 12 = .ok (.sipush 500, 3) := by decide +kernel
theorem dX9_appendText_15 : decode cX9_appendText 15 = .ok (.if_icmp .le 5, 3) := by decide +kernel
theorem dX9_appendText_18 : decode cX9_appendText 18 = .ok (.iconst (-1), 1) := by decide +kernel
theorem dX9_appendText_19 : decode cX9_appendText 19 = .ok (.ireturn, 1) := by decide +kernel
theorem dX9_appendText_20 : decode cX9_appendText 20 = .ok (.aload_n 0, 1) := by decide +kernel
theorem dX9_appendText_21 : decode cX9_appendText 21 = .ok (.iload_n 1, 1) := by decide +kernel
theorem dX9_appendText_22 : decode cX9_appendText 22 = .ok (.invokevirtual 157, 3) := by decide +kernel
theorem dX9_appendText_25 : decode cX9_appendText 25 = .ok (.aload_n 0, 1) := by decide +kernel
theorem dX9_appendText_26 : decode cX9_appendText 26 = .ok (.iload_n 2, 1) := by decide +kernel
theorem dX9_appendText_27 : decode cX9_appendText 27 = .ok (.invokevirtual 157, 3) := by decide +kernel
theorem dX9_appendText_30 : decode cX9_appendText 30 = .ok (.aload_n 0, 1) := by decide +kernel
theorem dX9_appendText_31 : decode cX9_appendText 31 = .ok (.iload_n 3, 1) := by decide +kernel
theorem dX9_appendText_32 : decode cX9_appendText 32 = .ok (.invokevirtual 157, 3) := by decide +kernel
theorem dX9_appendText_35 : decode cX9_appendText 35 = .ok (.aload_n 0, 1) := by decide +kernel
theorem dX9_appendText_36 : decode cX9_appendText 36 = .ok (.iload 4, 2) := by decide +kernel
theorem dX9_appendText_38 : decode cX9_appendText 38 = .ok (.invokevirtual 157, 3) := by decide +kernel
theorem dX9_appendText_41 : decode cX9_appendText 41 = .ok (.aload_n 0, 1) := by decide +kernel
theorem dX9_appendText_42 : decode cX9_appendText 42 = .ok (.iload 5, 2) := by decide +kernel
theorem dX9_appendText_44 : decode cX9_appendText 44 = .ok (.invokevirtual 157, 3) := by decide +kernel
theorem dX9_appendText_47 : decode cX9_appendText 47 = .ok (.aload_n 0, 1) := by decide +kernel
theorem dX9_appendText_48 : decode cX9_appendText 48 = .ok (.getfield 53, 3) := by decide +kernel
theorem dX9_appendText_51 : decode cX9_appendText 51 = .ok (.ireturn, 1) := by decide +kernel
theorem dX9_errorCode_0 : decode cX9_errorCode 0 = .ok (.aload_n 0, 1) := by decide +kernel
theorem dX9_errorCode_1 : decode cX9_errorCode 1 = .ok (.iconst 0, 1) := by decide +kernel
theorem dX9_errorCode_2 : decode cX9_errorCode 2 = .ok (.putfield 1, 3) := by decide +kernel
theorem dX9_errorCode_5 : decode cX9_errorCode 5 = .ok (.aload_n 0, 1) := by decide +kernel
theorem dX9_errorCode_6 : decode cX9_errorCode 6 = .ok (.getfield 160, 3) := by decide +kernel
theorem dX9_errorCode_9 : decode cX9_errorCode 9 = .ok (.ireturn, 1) := by decide +kernel
theorem dX9_errorOffset_0 : decode cX9_errorOffset 0 = .ok (.aload_n 0, 1) := by decide +kernel
theorem dX9_errorOffset_1 : decode cX9_errorOffset 1 = .ok (.iconst 0, 1) := by decide +kernel
theorem dX9_errorOffset_2 : decode cX9_errorOffset 2 = .ok (.putfield 1, 3) := by decide +kernel
theorem dX9_errorOffset_5 : decode cX9_errorOffset 5 = .ok (.aload_n 0, 1) := by decide +kernel
theorem dX9_errorOffset_6 : decode cX9_errorOffset 6 = .ok (.getfield 32, 3) := by decide +kernel
theorem dX9_errorOffset_9 : decode cX9_errorOffset 9 = .ok (.ireturn, 1) := by decide +kernel
theorem dX9_byteAt_0 : decode cX9_byteAt 0 = .ok (.iload_n 1, 1) := by decide +kernel
theorem dX9_byteAt_1 : decode cX9_byteAt 1 = .ok (.aload_n 0, 1) := by decide +kernel
theorem dX9_byteAt_2 : decode cX9_byteAt 2 = .ok (.getfield 163, 3) := by decide +kernel
theorem dX9_byteAt_5 : decode cX9_byteAt 5 = .ok (.if_icmp .ge 12, 3) := by decide +kernel
theorem dX9_byteAt_8 : decode cX9_byteAt 8 = .ok (.aload_n 0, 1) := by decide +kernel
theorem dX9_byteAt_9 : decode cX9_byteAt 9 = .ok (.getfield 29, 3) := by decide +kernel
theorem dX9_byteAt_12 : decode cX9_byteAt 12 = .ok (.iload_n 1, 1) := by decide +kernel
theorem dX9_byteAt_13 : decode cX9_byteAt 13 = .ok (.iaload, 1) := by decide +kernel
theorem dX9_byteAt_14 : decode cX9_byteAt 14 = .ok (.goto 4, 3) := by decide +kernel
theorem dX9_byteAt_17 : decode cX9_byteAt 17 = .ok (.iconst (-1), 1) := by decide +kernel
theorem dX9_byteAt_18 : decode cX9_byteAt 18 = .ok (.ireturn, 1) := by decide +kernel
theorem dX9_isLetter_0 : decode cX9_isLetter 0 = .ok (.iload_n 0, 1) := by decide +kernel
theorem dX9_isLetter_1 : decode cX9_isLetter 1 = .ok (.bipush 97, 2) := by decide +kernel
theorem dX9_isLetter_3 : decode cX9_isLetter 3 = .ok (.if_icmp .lt 13, 3) := by decide +kernel
theorem dX9_isLetter_6 : decode cX9_isLetter 6 = .ok (.iload_n 0, 1) := by decide +kernel
theorem dX9_isLetter_7 : decode cX9_isLetter 7 = .ok (.bipush 122, 2) := by decide +kernel
theorem dX9_isLetter_9 : decode cX9_isLetter 9 = .ok (.if_icmp .gt 7, 3) := by decide +kernel
theorem dX9_isLetter_12 : decode cX9_isLetter 12 = .ok (.iconst 1, 1) := by decide +kernel
theorem dX9_isLetter_13 : decode cX9_isLetter 13 = .ok (.goto 4, 3) := by decide +kernel
theorem dX9_isLetter_16 : decode cX9_isLetter 16 = .ok (.iconst 0, 1) := by decide +kernel
theorem dX9_isLetter_17 : decode cX9_isLetter 17 = .ok (.ireturn, 1) := by decide +kernel
theorem dX9_isFigure_0 : decode cX9_isFigure 0 = .ok (.iload_n 0, 1) := by decide +kernel
theorem dX9_isFigure_1 : decode cX9_isFigure 1 = .ok (.bipush 48, 2) := by decide +kernel
theorem dX9_isFigure_3 : decode cX9_isFigure 3 = .ok (.if_icmp .lt 13, 3) := by decide +kernel
theorem dX9_isFigure_6 : decode cX9_isFigure 6 = .ok (.iload_n 0, 1) := by decide +kernel
theorem dX9_isFigure_7 : decode cX9_isFigure 7 = .ok (.bipush 57, 2) := by decide +kernel
theorem dX9_isFigure_9 : decode cX9_isFigure 9 = .ok (.if_icmp .gt 7, 3) := by decide +kernel
theorem dX9_isFigure_12 : decode cX9_isFigure 12 = .ok (.iconst 1, 1) := by decide +kernel
theorem dX9_isFigure_13 : decode cX9_isFigure 13 = .ok (.goto 4, 3) := by decide +kernel
theorem dX9_isFigure_16 : decode cX9_isFigure 16 = .ok (.iconst 0, 1) := by decide +kernel
theorem dX9_isFigure_17 : decode cX9_isFigure 17 = .ok (.ireturn, 1) := by decide +kernel
theorem dX9_readsNumber_0 : decode cX9_readsNumber 0 = .ok (.aload_n 0, 1) := by decide +kernel
theorem dX9_readsNumber_1 : decode cX9_readsNumber 1 = .ok (.iconst 0, 1) := by decide +kernel
theorem dX9_readsNumber_2 : decode cX9_readsNumber 2 = .ok (.putfield 166, 3) := by decide +kernel
theorem dX9_readsNumber_5 : decode cX9_readsNumber 5 = .ok (.aload_n 0, 1) := by decide +kernel
theorem dX9_readsNumber_6 : decode cX9_readsNumber 6 = .ok (.aload_n 0, 1) := by decide +kernel
theorem dX9_readsNumber_7 : decode cX9_readsNumber 7 = .ok (.getfield 169, 3) := by decide +kernel
theorem dX9_readsNumber_10 : decode cX9_readsNumber 10 = .ok (.invokevirtual 171, 3) := by decide +kernel
theorem dX9_readsNumber_13 : decode cX9_readsNumber 13 = .ok (.invokestatic 174, 3) := by decide +kernel
theorem dX9_readsNumber_16 : decode cX9_readsNumber 16 = .ok (.ifCond .eq 56, 3) := by decide +kernel
theorem dX9_readsNumber_19 : decode cX9_readsNumber 19 = .ok (.aload_n 0, 1) := by decide +kernel
theorem dX9_readsNumber_20 : decode cX9_readsNumber 20 = .ok (.aload_n 0, 1) := by decide +kernel
theorem dX9_readsNumber_21 : decode cX9_readsNumber 21 = .ok (.getfield 166, 3) := by decide +kernel
theorem dX9_readsNumber_24 : decode cX9_readsNumber 24 = .ok (.ldc 177, 2) := by decide +kernel
theorem dX9_readsNumber_26 : decode cX9_readsNumber 26 = .ok (.if_icmp .le 10, 3) := by decide +kernel
theorem dX9_readsNumber_29 : decode cX9_readsNumber 29 = .ok (.aload_n 0, 1) := by decide +kernel
theorem dX9_readsNumber_30 : decode cX9_readsNumber 30 = .ok (.getfield 166, 3) := by decide +kernel
theorem dX9_readsNumber_33 : decode cX9_readsNumber 33 = .ok (.goto 23, 3) := by decide +kernel
theorem dX9_readsNumber_36 : decode cX9_readsNumber 36 = .ok (.bipush 10, 2) := by decide +kernel
theorem dX9_readsNumber_38 : decode cX9_readsNumber 38 = .ok (.aload_n 0, 1) := by decide +kernel
theorem dX9_readsNumber_39 : decode cX9_readsNumber 39 = .ok (.getfield 166, 3) := by decide +kernel
theorem dX9_readsNumber_42 : decode cX9_readsNumber 42 = .ok (.imul, 1) := by decide +kernel
theorem dX9_readsNumber_43 : decode cX9_readsNumber 43 = .ok (.aload_n 0, 1) := by decide +kernel
theorem dX9_readsNumber_44 : decode cX9_readsNumber 44 = .ok (.getfield 29, 3) := by decide +kernel
theorem dX9_readsNumber_47 : decode cX9_readsNumber 47 = .ok (.aload_n 0, 1) := by decide +kernel
theorem dX9_readsNumber_48 : decode cX9_readsNumber 48 = .ok (.getfield 169, 3) := by decide +kernel
theorem dX9_readsNumber_51 : decode cX9_readsNumber 51 = .ok (.iaload, 1) := by decide +kernel
theorem dX9_readsNumber_52 : decode cX9_readsNumber 52 = .ok (.iadd, 1) := by decide +kernel
theorem dX9_readsNumber_53 : decode cX9_readsNumber 53 = .ok (.bipush 48, 2) := by decide +kernel
theorem dX9_readsNumber_55 : decode cX9_readsNumber 55 = .ok (.isub, 1) := by decide +kernel
theorem dX9_readsNumber_56 : decode cX9_readsNumber 56 = .ok (.putfield 166, 3) := by decide +kernel
theorem dX9_readsNumber_59 : decode cX9_readsNumber 59 = .ok (.aload_n 0, 1) := by decide +kernel
theorem dX9_readsNumber_60 : decode cX9_readsNumber 60 = .ok (.dup, 1) := by decide +kernel
theorem dX9_readsNumber_61 : decode cX9_readsNumber 61 = .ok (.getfield 169, 3) := by decide +kernel
theorem dX9_readsNumber_64 : decode cX9_readsNumber 64 = .ok (.iconst 1, 1) := by decide +kernel
theorem dX9_readsNumber_65 : decode cX9_readsNumber 65 = .ok (.iadd, 1) := by decide +kernel
theorem dX9_readsNumber_66 : decode cX9_readsNumber 66 = .ok (.putfield 169, 3) := by decide +kernel
theorem dX9_readsNumber_69 : decode cX9_readsNumber 69 = .ok (.goto (-64), 3) := by decide +kernel
theorem dX9_readsNumber_72 : decode cX9_readsNumber 72 = .ok (.aload_n 0, 1) := by decide +kernel
theorem dX9_readsNumber_73 : decode cX9_readsNumber 73 = .ok (.iconst 2, 1) := by decide +kernel
theorem dX9_readsNumber_74 : decode cX9_readsNumber 74 = .ok (.putfield 178, 3) := by decide +kernel
theorem dX9_readsNumber_77 : decode cX9_readsNumber 77 = .ok (.return_, 1) := by decide +kernel
theorem dX9_next_0 : decode cX9_next 0 = .ok (.aload_n 0, 1) := by decide +kernel
theorem dX9_next_1 : decode cX9_next 1 = .ok (.aload_n 0, 1) := by decide +kernel
theorem dX9_next_2 : decode cX9_next 2 = .ok (.getfield 169, 3) := by decide +kernel
theorem dX9_next_5 : decode cX9_next 5 = .ok (.invokevirtual 171, 3) := by decide +kernel
theorem dX9_next_8 : decode cX9_next 8 = .ok (.bipush 32, 2) := by decide +kernel
theorem dX9_next_10 : decode cX9_next 10 = .ok (.if_icmp .eq 16, 3) := by decide +kernel
theorem dX9_next_13 : decode cX9_next 13 = .ok (.aload_n 0, 1) := by decide +kernel
theorem dX9_next_14 : decode cX9_next 14 = .ok (.aload_n 0, 1) := by decide +kernel
theorem dX9_next_15 : decode cX9_next 15 = .ok (.getfield 169, 3) := by decide +kernel
theorem dX9_next_18 : decode cX9_next 18 = .ok (.invokevirtual 171, 3) := by decide +kernel
theorem dX9_next_21 : decode cX9_next 21 = .ok (.bipush 10, 2) := by decide +kernel
theorem dX9_next_23 : decode cX9_next 23 = .ok (.if_icmp .ne 16, 3) := by decide +kernel
theorem dX9_next_26 : decode cX9_next 26 = .ok (.aload_n 0, 1) := by decide +kernel
theorem dX9_next_27 : decode cX9_next 27 = .ok (.dup, 1) := by decide +kernel
theorem dX9_next_28 : decode cX9_next 28 = .ok (.getfield 169, 3) := by decide +kernel
theorem dX9_next_31 : decode cX9_next 31 = .ok (.iconst 1, 1) := by decide +kernel
theorem dX9_next_32 : decode cX9_next 32 = .ok (.iadd, 1) := by decide +kernel
theorem dX9_next_33 : decode cX9_next 33 = .ok (.putfield 169, 3) := by decide +kernel
theorem dX9_next_36 : decode cX9_next 36 = .ok (.goto (-36), 3) := by decide +kernel
theorem dX9_next_39 : decode cX9_next 39 = .ok (.aload_n 0, 1) := by decide +kernel
theorem dX9_next_40 : decode cX9_next 40 = .ok (.aload_n 0, 1) := by decide +kernel
theorem dX9_next_41 : decode cX9_next 41 = .ok (.getfield 169, 3) := by decide +kernel
theorem dX9_next_44 : decode cX9_next 44 = .ok (.putfield 181, 3) := by decide +kernel
theorem dX9_next_47 : decode cX9_next 47 = .ok (.aload_n 0, 1) := by decide +kernel
theorem dX9_next_48 : decode cX9_next 48 = .ok (.getfield 169, 3) := by decide +kernel
theorem dX9_next_51 : decode cX9_next 51 = .ok (.aload_n 0, 1) := by decide +kernel
theorem dX9_next_52 : decode cX9_next 52 = .ok (.getfield 163, 3) := by decide +kernel
theorem dX9_next_55 : decode cX9_next 55 = .ok (.if_icmp .lt 11, 3) := by decide +kernel
theorem dX9_next_58 : decode cX9_next 58 = .ok (.aload_n 0, 1) := by decide +kernel
theorem dX9_next_59 : decode cX9_next 59 = .ok (.iconst 0, 1) := by decide +kernel
theorem dX9_next_60 : decode cX9_next 60 = .ok (.putfield 178, 3) := by decide +kernel
theorem dX9_next_63 : decode cX9_next 63 = .ok (.goto 90, 3) := by decide +kernel
theorem dX9_next_66 : decode cX9_next 66 = .ok (.aload_n 0, 1) := by decide +kernel
theorem dX9_next_67 : decode cX9_next 67 = .ok (.getfield 29, 3) := by decide +kernel
theorem dX9_next_70 : decode cX9_next 70 = .ok (.aload_n 0, 1) := by decide +kernel
theorem dX9_next_71 : decode cX9_next 71 = .ok (.getfield 169, 3) := by decide +kernel
theorem dX9_next_74 : decode cX9_next 74 = .ok (.iaload, 1) := by decide +kernel
theorem dX9_next_75 : decode cX9_next 75 = .ok (.invokestatic 184, 3) := by decide +kernel
theorem dX9_next_78 : decode cX9_next 78 = .ok (.ifCond .eq 38, 3) := by decide +kernel
theorem dX9_next_81 : decode cX9_next 81 = .ok (.aload_n 0, 1) := by decide +kernel
theorem dX9_next_82 : decode cX9_next 82 = .ok (.aload_n 0, 1) := by decide +kernel
theorem dX9_next_83 : decode cX9_next 83 = .ok (.getfield 169, 3) := by decide +kernel
theorem dX9_next_86 : decode cX9_next 86 = .ok (.invokevirtual 171, 3) := by decide +kernel
theorem dX9_next_89 : decode cX9_next 89 = .ok (.invokestatic 184, 3) := by decide +kernel
theorem dX9_next_92 : decode cX9_next 92 = .ok (.ifCond .eq 16, 3) := by decide +kernel
theorem dX9_next_95 : decode cX9_next 95 = .ok (.aload_n 0, 1) := by decide +kernel
theorem dX9_next_96 : decode cX9_next 96 = .ok (.dup, 1) := by decide +kernel
theorem dX9_next_97 : decode cX9_next 97 = .ok (.getfield 169, 3) := by decide +kernel
theorem dX9_next_100 : decode cX9_next 100 = .ok (.iconst 1, 1) := by decide +kernel
theorem dX9_next_101 : decode cX9_next 101 = .ok (.iadd, 1) := by decide +kernel
theorem dX9_next_102 : decode cX9_next 102 = .ok (.putfield 169, 3) := by decide +kernel
theorem dX9_next_105 : decode cX9_next 105 = .ok (.goto (-24), 3) := by decide +kernel
theorem dX9_next_108 : decode cX9_next 108 = .ok (.aload_n 0, 1) := by decide +kernel
theorem dX9_next_109 : decode cX9_next 109 = .ok (.iconst 1, 1) := by decide +kernel
theorem dX9_next_110 : decode cX9_next 110 = .ok (.putfield 178, 3) := by decide +kernel
theorem dX9_next_113 : decode cX9_next 113 = .ok (.goto 40, 3) := by decide +kernel
theorem dX9_next_116 : decode cX9_next 116 = .ok (.aload_n 0, 1) := by decide +kernel
theorem dX9_next_117 : decode cX9_next 117 = .ok (.getfield 29, 3) := by decide +kernel
theorem dX9_next_120 : decode cX9_next 120 = .ok (.aload_n 0, 1) := by decide +kernel
theorem dX9_next_121 : decode cX9_next 121 = .ok (.getfield 169, 3) := by decide +kernel
theorem dX9_next_124 : decode cX9_next 124 = .ok (.iaload, 1) := by decide +kernel
theorem dX9_next_125 : decode cX9_next 125 = .ok (.invokestatic 174, 3) := by decide +kernel
theorem dX9_next_128 : decode cX9_next 128 = .ok (.ifCond .eq 10, 3) := by decide +kernel
theorem dX9_next_131 : decode cX9_next 131 = .ok (.aload_n 0, 1) := by decide +kernel
theorem dX9_next_132 : decode cX9_next 132 = .ok (.invokevirtual 187, 3) := by decide +kernel
theorem dX9_next_135 : decode cX9_next 135 = .ok (.goto 18, 3) := by decide +kernel
theorem dX9_next_138 : decode cX9_next 138 = .ok (.aload_n 0, 1) := by decide +kernel
theorem dX9_next_139 : decode cX9_next 139 = .ok (.iconst 3, 1) := by decide +kernel
theorem dX9_next_140 : decode cX9_next 140 = .ok (.putfield 178, 3) := by decide +kernel
theorem dX9_next_143 : decode cX9_next 143 = .ok (.aload_n 0, 1) := by decide +kernel
theorem dX9_next_144 : decode cX9_next 144 = .ok (.dup, 1) := by decide +kernel
theorem dX9_next_145 : decode cX9_next 145 = .ok (.getfield 169, 3) := by decide +kernel
theorem dX9_next_148 : decode cX9_next 148 = .ok (.iconst 1, 1) := by decide +kernel
theorem dX9_next_149 : decode cX9_next 149 = .ok (.iadd, 1) := by decide +kernel
theorem dX9_next_150 : decode cX9_next 150 = .ok (.putfield 169, 3) := by decide +kernel
theorem dX9_next_153 : decode cX9_next 153 = .ok (.return_, 1) := by decide +kernel
theorem dX9_starts_0 : decode cX9_starts 0 = .ok (.aload_n 0, 1) := by decide +kernel
theorem dX9_starts_1 : decode cX9_starts 1 = .ok (.iload_n 1, 1) := by decide +kernel
theorem dX9_starts_2 : decode cX9_starts 2 = .ok (.putfield 163, 3) := by decide +kernel
theorem dX9_starts_5 : decode cX9_starts 5 = .ok (.aload_n 0, 1) := by decide +kernel
theorem dX9_starts_6 : decode cX9_starts 6 = .ok (.iconst 0, 1) := by decide +kernel
theorem dX9_starts_7 : decode cX9_starts 7 = .ok (.putfield 53, 3) := by decide +kernel
theorem dX9_starts_10 : decode cX9_starts 10 = .ok (.aload_n 0, 1) := by decide +kernel
theorem dX9_starts_11 : decode cX9_starts 11 = .ok (.iconst 0, 1) := by decide +kernel
theorem dX9_starts_12 : decode cX9_starts 12 = .ok (.putfield 169, 3) := by decide +kernel
theorem dX9_starts_15 : decode cX9_starts 15 = .ok (.aload_n 0, 1) := by decide +kernel
theorem dX9_starts_16 : decode cX9_starts 16 = .ok (.iconst 0, 1) := by decide +kernel
theorem dX9_starts_17 : decode cX9_starts 17 = .ok (.putfield 160, 3) := by decide +kernel
theorem dX9_starts_20 : decode cX9_starts 20 = .ok (.aload_n 0, 1) := by decide +kernel
theorem dX9_starts_21 : decode cX9_starts 21 = .ok (.iconst (-1), 1) := by decide +kernel
theorem dX9_starts_22 : decode cX9_starts 22 = .ok (.putfield 32, 3) := by decide +kernel
theorem dX9_starts_25 : decode cX9_starts 25 = .ok (.aload_n 0, 1) := by decide +kernel
theorem dX9_starts_26 : decode cX9_starts 26 = .ok (.invokevirtual 190, 3) := by decide +kernel
theorem dX9_starts_29 : decode cX9_starts 29 = .ok (.return_, 1) := by decide +kernel
theorem dX9_errs_0 : decode cX9_errs 0 = .ok (.aload_n 0, 1) := by decide +kernel
theorem dX9_errs_1 : decode cX9_errs 1 = .ok (.getfield 160, 3) := by decide +kernel
theorem dX9_errs_4 : decode cX9_errs 4 = .ok (.ifCond .eq 4, 3) := by decide +kernel
theorem dX9_errs_7 : decode cX9_errs 7 = .ok (.return_, 1) := by decide +kernel
theorem dX9_errs_8 : decode cX9_errs 8 = .ok (.aload_n 0, 1) := by decide +kernel
theorem dX9_errs_9 : decode cX9_errs 9 = .ok (.iload_n 1, 1) := by decide +kernel
theorem dX9_errs_10 : decode cX9_errs 10 = .ok (.putfield 160, 3) := by decide +kernel
theorem dX9_errs_13 : decode cX9_errs 13 = .ok (.aload_n 0, 1) := by decide +kernel
theorem dX9_errs_14 : decode cX9_errs 14 = .ok (.aload_n 0, 1) := by decide +kernel
theorem dX9_errs_15 : decode cX9_errs 15 = .ok (.getfield 181, 3) := by decide +kernel
theorem dX9_errs_18 : decode cX9_errs 18 = .ok (.putfield 32, 3) := by decide +kernel
theorem dX9_errs_21 : decode cX9_errs 21 = .ok (.return_, 1) := by decide +kernel
theorem dX9_isWord_0 : decode cX9_isWord 0 = .ok (.aload_n 0, 1) := by decide +kernel
theorem dX9_isWord_1 : decode cX9_isWord 1 = .ok (.getfield 160, 3) := by decide +kernel
theorem dX9_isWord_4 : decode cX9_isWord 4 = .ok (.ifCond .ne 27, 3) := by decide +kernel
theorem dX9_isWord_7 : decode cX9_isWord 7 = .ok (.aload_n 0, 1) := by decide +kernel
theorem dX9_isWord_8 : decode cX9_isWord 8 = .ok (.getfield 178, 3) := by decide +kernel
theorem dX9_isWord_11 : decode cX9_isWord 11 = .ok (.iconst 1, 1) := by decide +kernel
theorem dX9_isWord_12 : decode cX9_isWord 12 = .ok (.if_icmp .ne 19, 3) := by decide +kernel
theorem dX9_isWord_15 : decode cX9_isWord 15 = .ok (.aload_n 0, 1) := by decide +kernel
theorem dX9_isWord_16 : decode cX9_isWord 16 = .ok (.getfield 169, 3) := by decide +kernel
theorem dX9_isWord_19 : decode cX9_isWord 19 = .ok (.aload_n 0, 1) := by decide +kernel
theorem dX9_isWord_20 : decode cX9_isWord 20 = .ok (.getfield 181, 3) := by decide +kernel
theorem dX9_isWord_23 : decode cX9_isWord 23 = .ok (.isub, 1) := by decide +kernel
theorem dX9_isWord_24 : decode cX9_isWord 24 = .ok (.aload_n 1, 1) := by decide +kernel
theorem dX9_isWord_25 : decode cX9_isWord 25 = .ok (.invokevirtual 43, 3) := by decide +kernel
theorem dX9_isWord_28 : decode cX9_isWord 28 = .ok (.if_icmp .eq 5, 3) := by decide +kernel
theorem dX9_isWord_31 : decode cX9_isWord 31 = .ok (.iconst 0, 1) := by decide +kernel
theorem dX9_isWord_32 : decode cX9_isWord 32 = .ok (.ireturn, 1) := by decide +kernel
theorem dX9_isWord_33 : decode cX9_isWord 33 = .ok (.iconst 0, 1) := by decide +kernel
theorem dX9_isWord_34 : decode cX9_isWord 34 = .ok (.istore_n 2, 1) := by decide +kernel
theorem dX9_isWord_35 : decode cX9_isWord 35 = .ok (.iload_n 2, 1) := by decide +kernel
theorem dX9_isWord_36 : decode cX9_isWord 36 = .ok (.aload_n 1, 1) := by decide +kernel
theorem dX9_isWord_37 : decode cX9_isWord 37 = .ok (.invokevirtual 43, 3) := by decide +kernel
theorem dX9_isWord_40 : decode cX9_isWord 40 = .ok (.if_icmp .ge 30, 3) := by decide +kernel
theorem dX9_isWord_43 : decode cX9_isWord 43 = .ok (.aload_n 0, 1) := by decide +kernel
theorem dX9_isWord_44 : decode cX9_isWord 44 = .ok (.getfield 29, 3) := by decide +kernel
theorem dX9_isWord_47 : decode cX9_isWord 47 = .ok (.aload_n 0, 1) := by decide +kernel
theorem dX9_isWord_48 : decode cX9_isWord 48 = .ok (.getfield 181, 3) := by decide +kernel
theorem dX9_isWord_51 : decode cX9_isWord 51 = .ok (.iload_n 2, 1) := by decide +kernel
theorem dX9_isWord_52 : decode cX9_isWord 52 = .ok (.iadd, 1) := by decide +kernel
theorem dX9_isWord_53 : decode cX9_isWord 53 = .ok (.iaload, 1) := by decide +kernel
theorem dX9_isWord_54 : decode cX9_isWord 54 = .ok (.aload_n 1, 1) := by decide +kernel
theorem dX9_isWord_55 : decode cX9_isWord 55 = .ok (.iload_n 2, 1) := by decide +kernel
theorem dX9_isWord_56 : decode cX9_isWord 56 = .ok (.invokevirtual 49, 3) := by decide +kernel
theorem dX9_isWord_59 : decode cX9_isWord 59 = .ok (.if_icmp .eq 5, 3) := by decide +kernel
theorem dX9_isWord_62 : decode cX9_isWord 62 = .ok (.iconst 0, 1) := by decide +kernel
theorem dX9_isWord_63 : decode cX9_isWord 63 = .ok (.ireturn, 1) := by decide +kernel
theorem dX9_isWord_64 : decode cX9_isWord 64 = .ok (.iinc 2 1, 3) := by decide +kernel
theorem dX9_isWord_67 : decode cX9_isWord 67 = .ok (.goto (-32), 3) := by decide +kernel
theorem dX9_isWord_70 : decode cX9_isWord 70 = .ok (.iconst 1, 1) := by decide +kernel
theorem dX9_isWord_71 : decode cX9_isWord 71 = .ok (.ireturn, 1) := by decide +kernel
theorem dX9_mustWord_0 : decode cX9_mustWord 0 = .ok (.aload_n 0, 1) := by decide +kernel
theorem dX9_mustWord_1 : decode cX9_mustWord 1 = .ok (.aload_n 1, 1) := by decide +kernel
theorem dX9_mustWord_2 : decode cX9_mustWord 2 = .ok (.invokevirtual 193, 3) := by decide +kernel
theorem dX9_mustWord_5 : decode cX9_mustWord 5 = .ok (.ifCond .ne 8, 3) := by decide +kernel
theorem dX9_mustWord_8 : decode cX9_mustWord 8 = .ok (.aload_n 0, 1) := by decide +kernel
theorem dX9_mustWord_9 : decode cX9_mustWord 9 = .ok (.iconst 1, 1) := by decide +kernel
theorem dX9_mustWord_10 : decode cX9_mustWord 10 = .ok (.invokevirtual 197, 3) := by decide +kernel
theorem dX9_mustWord_13 : decode cX9_mustWord 13 = .ok (.aload_n 0, 1) := by decide +kernel
theorem dX9_mustWord_14 : decode cX9_mustWord 14 = .ok (.getfield 160, 3) := by decide +kernel
theorem dX9_mustWord_17 : decode cX9_mustWord 17 = .ok (.ifCond .ne 7, 3) := by decide +kernel
theorem dX9_mustWord_20 : decode cX9_mustWord 20 = .ok (.aload_n 0, 1) := by decide +kernel
theorem dX9_mustWord_21 : decode cX9_mustWord 21 = .ok (.invokevirtual 190, 3) := by decide +kernel
theorem dX9_mustWord_24 : decode cX9_mustWord 24 = .ok (.return_, 1) := by decide +kernel
theorem dX9_semicolon_0 : decode cX9_semicolon 0 = .ok (.aload_n 0, 1) := by decide +kernel
theorem dX9_semicolon_1 : decode cX9_semicolon 1 = .ok (.getfield 178, 3) := by decide +kernel
theorem dX9_semicolon_4 : decode cX9_semicolon 4 = .ok (.iconst 3, 1) := by decide +kernel
theorem dX9_semicolon_5 : decode cX9_semicolon 5 = .ok (.if_icmp .ne 17, 3) := by decide +kernel
theorem dX9_semicolon_8 : decode cX9_semicolon 8 = .ok (.aload_n 0, 1) := by decide +kernel
theorem dX9_semicolon_9 : decode cX9_semicolon 9 = .ok (.getfield 29, 3) := by decide +kernel
theorem dX9_semicolon_12 : decode cX9_semicolon 12 = .ok (.aload_n 0, 1) := by decide +kernel
theorem dX9_semicolon_13 : decode cX9_semicolon 13 = .ok (.getfield 181, 3) := by decide +kernel
theorem dX9_semicolon_16 : decode cX9_semicolon 16 = .ok (.iaload, 1) := by decide +kernel
theorem dX9_semicolon_17 : decode cX9_semicolon 17 = .ok (.bipush 59, 2) := by decide +kernel
theorem dX9_semicolon_19 : decode cX9_semicolon 19 = .ok (.if_icmp .eq 8, 3) := by decide +kernel
theorem dX9_semicolon_22 : decode cX9_semicolon 22 = .ok (.aload_n 0, 1) := by decide +kernel
theorem dX9_semicolon_23 : decode cX9_semicolon 23 = .ok (.iconst 1, 1) := by decide +kernel
theorem dX9_semicolon_24 : decode cX9_semicolon 24 = .ok (.invokevirtual 197, 3) := by decide +kernel
theorem dX9_semicolon_27 : decode cX9_semicolon 27 = .ok (.aload_n 0, 1) := by decide +kernel
theorem dX9_semicolon_28 : decode cX9_semicolon 28 = .ok (.getfield 160, 3) := by decide +kernel
theorem dX9_semicolon_31 : decode cX9_semicolon 31 = .ok (.ifCond .ne 7, 3) := by decide +kernel
theorem dX9_semicolon_34 : decode cX9_semicolon 34 = .ok (.aload_n 0, 1) := by decide +kernel
theorem dX9_semicolon_35 : decode cX9_semicolon 35 = .ok (.invokevirtual 190, 3) := by decide +kernel
theorem dX9_semicolon_38 : decode cX9_semicolon 38 = .ok (.return_, 1) := by decide +kernel
theorem dX9_number0_0 : decode cX9_number0 0 = .ok (.aload_n 0, 1) := by decide +kernel
theorem dX9_number0_1 : decode cX9_number0 1 = .ok (.getfield 178, 3) := by decide +kernel
theorem dX9_number0_4 : decode cX9_number0 4 = .ok (.iconst 2, 1) := by decide +kernel
theorem dX9_number0_5 : decode cX9_number0 5 = .ok (.if_icmp .eq 11, 3) := by decide +kernel
theorem dX9_number0_8 : decode cX9_number0 8 = .ok (.aload_n 0, 1) := by decide +kernel
theorem dX9_number0_9 : decode cX9_number0 9 = .ok (.iconst 1, 1) := by decide +kernel
theorem dX9_number0_10 : decode cX9_number0 10 = .ok (.invokevirtual 197, 3) := by decide +kernel
theorem dX9_number0_13 : decode cX9_number0 13 = .ok (.goto 20, 3) := by decide +kernel
theorem dX9_number0_16 : decode cX9_number0 16 = .ok (.aload_n 0, 1) := by decide +kernel
theorem dX9_number0_17 : decode cX9_number0 17 = .ok (.getfield 166, 3) := by decide +kernel
theorem dX9_number0_20 : decode cX9_number0 20 = .ok (.iload_n 1, 1) := by decide +kernel
theorem dX9_number0_21 : decode cX9_number0 21 = .ok (.iload_n 2, 1) := by decide +kernel
theorem dX9_number0_22 : decode cX9_number0 22 = .ok (.invokestatic 200, 3) := by decide +kernel
theorem dX9_number0_25 : decode cX9_number0 25 = .ok (.ifCond .ne 8, 3) := by decide +kernel
theorem dX9_number0_28 : decode cX9_number0 28 = .ok (.aload_n 0, 1) := by decide +kernel
theorem dX9_number0_29 : decode cX9_number0 29 = .ok (.iconst 2, 1) := by decide +kernel
theorem dX9_number0_30 : decode cX9_number0 30 = .ok (.invokevirtual 197, 3) := by decide +kernel
theorem dX9_number0_33 : decode cX9_number0 33 = .ok (.aload_n 0, 1) := by decide +kernel
theorem dX9_number0_34 : decode cX9_number0 34 = .ok (.getfield 160, 3) := by decide +kernel
theorem dX9_number0_37 : decode cX9_number0 37 = .ok (.ifCond .eq 5, 3) := by decide +kernel
theorem dX9_number0_40 : decode cX9_number0 40 = .ok (.iload_n 1, 1) := by decide +kernel
theorem dX9_number0_41 : decode cX9_number0 41 = .ok (.ireturn, 1) := by decide +kernel
theorem dX9_number0_42 : decode cX9_number0 42 = .ok (.aload_n 0, 1) := by decide +kernel
theorem dX9_number0_43 : decode cX9_number0 43 = .ok (.getfield 166, 3) := by decide +kernel
theorem dX9_number0_46 : decode cX9_number0 46 = .ok (.istore_n 3, 1) := by decide +kernel
theorem dX9_number0_47 : decode cX9_number0 47 = .ok (.aload_n 0, 1) := by decide +kernel
theorem dX9_number0_48 : decode cX9_number0 48 = .ok (.invokevirtual 190, 3) := by decide +kernel
theorem dX9_number0_51 : decode cX9_number0 51 = .ok (.iload_n 3, 1) := by decide +kernel
theorem dX9_number0_52 : decode cX9_number0 52 = .ok (.ireturn, 1) := by decide +kernel
theorem dX9_isPersonHere_0 : decode cX9_isPersonHere 0 = .ok (.aload_n 0, 1) := by decide +kernel
theorem dX9_isPersonHere_1 : decode cX9_isPersonHere 1 = .ok (.ldc 204, 2) := by decide +kernel
theorem dX9_isPersonHere_3 : decode cX9_isPersonHere 3 = .ok (.invokevirtual 193, 3) := by decide +kernel
theorem dX9_isPersonHere_6 : decode cX9_isPersonHere 6 = .ok (.ifCond .ne 12, 3) := by decide +kernel
theorem dX9_isPersonHere_9 : decode cX9_isPersonHere 9 = .ok (.aload_n 0, 1) := by decide +kernel
theorem dX9_isPersonHere_10 : decode cX9_isPersonHere 10 = .ok (.ldc 206, 2) := by decide +kernel
theorem dX9_isPersonHere_12 : decode cX9_isPersonHere 12 = .ok (.invokevirtual 193, 3) := by decide +kernel
theorem dX9_isPersonHere_15 : decode cX9_isPersonHere 15 = .ok (.ifCond .eq 7, 3) := by decide +kernel
theorem dX9_isPersonHere_18 : decode cX9_isPersonHere 18 = .ok (.iconst 1, 1) := by decide +kernel
theorem dX9_isPersonHere_19 : decode cX9_isPersonHere 19 = .ok (.goto 4, 3) := by decide +kernel
theorem dX9_isPersonHere_22 : decode cX9_isPersonHere 22 = .ok (.iconst 0, 1) := by decide +kernel
theorem dX9_isPersonHere_23 : decode cX9_isPersonHere 23 = .ok (.ireturn, 1) := by decide +kernel
theorem dX9_readsText_0 : decode cX9_readsText 0 = .ok (.aload_n 0, 1) := by decide +kernel
theorem dX9_readsText_1 : decode cX9_readsText 1 = .ok (.ldc 208, 2) := by decide +kernel
theorem dX9_readsText_3 : decode cX9_readsText 3 = .ok (.invokevirtual 210, 3) := by decide +kernel
theorem dX9_readsText_6 : decode cX9_readsText 6 = .ok (.aload_n 0, 1) := by decide +kernel
theorem dX9_readsText_7 : decode cX9_readsText 7 = .ok (.iconst 0, 1) := by decide +kernel
theorem dX9_readsText_8 : decode cX9_readsText 8 = .ok (.bipush 90, 2) := by decide +kernel
theorem dX9_readsText_10 : decode cX9_readsText 10 = .ok (.invokevirtual 214, 3) := by decide +kernel
theorem dX9_readsText_13 : decode cX9_readsText 13 = .ok (.istore_n 1, 1) := by decide +kernel
theorem dX9_readsText_14 : decode cX9_readsText 14 = .ok (.aload_n 0, 1) := by decide +kernel
theorem dX9_readsText_15 : decode cX9_readsText 15 = .ok (.iconst 0, 1) := by decide +kernel
theorem dX9_readsText_16 : decode cX9_readsText 16 = .ok (.bipush 9, 2) := by decide +kernel
theorem dX9_readsText_18 : decode cX9_readsText 18 = .ok (.invokevirtual 214, 3) := by decide +kernel
theorem dX9_readsText_21 : decode cX9_readsText 21 = .ok (.istore_n 2, 1) := by decide +kernel
theorem dX9_readsText_22 : decode cX9_readsText 22 = .ok (.aload_n 0, 1) := by decide +kernel
theorem dX9_readsText_23 : decode cX9_readsText 23 = .ok (.iconst 0, 1) := by decide +kernel
theorem dX9_readsText_24 : decode cX9_readsText 24 = .ok (.bipush 99, 2) := by decide +kernel
theorem dX9_readsText_26 : decode cX9_readsText 26 = .ok (.invokevirtual 214, 3) := by decide +kernel
theorem dX9_readsText_29 : decode cX9_readsText 29 = .ok (.istore_n 3, 1) := by decide +kernel
theorem dX9_readsText_30 : decode cX9_readsText 30 = .ok (.aload_n 0, 1) := by decide +kernel
theorem dX9_readsText_31 : decode cX9_readsText 31 = .ok (.iconst 0, 1) := by decide +kernel
theorem dX9_readsText_32 : decode cX9_readsText 32 = .ok (.bipush 99, 2) := by decide +kernel
theorem dX9_readsText_34 : decode cX9_readsText 34 = .ok (.invokevirtual 214, 3) := by decide +kernel
theorem dX9_readsText_37 : decode cX9_readsText 37 = .ok (.istore 4, 2) := by decide +kernel
theorem dX9_readsText_39 : decode cX9_readsText 39 = .ok (.aload_n 0, 1) := by decide +kernel
theorem dX9_readsText_40 : decode cX9_readsText 40 = .ok (.invokevirtual 217, 3) := by decide +kernel
theorem dX9_readsText_43 : decode cX9_readsText 43 = .ok (.aload_n 0, 1) := by decide +kernel
theorem dX9_readsText_44 : decode cX9_readsText 44 = .ok (.getfield 160, 3) := by decide +kernel
theorem dX9_readsText_47 : decode cX9_readsText 47 = .ok (.ifCond .eq 4, 3) := by decide +kernel
theorem dX9_readsText_50 : decode cX9_readsText 50 = .ok (.return_, 1) := by decide +kernel
theorem dX9_readsText_51 : decode cX9_readsText 51 = .ok (.iconst 0, 1) := by decide +kernel
theorem dX9_readsText_52 : decode cX9_readsText 52 = .ok (.istore 5, 2) := by decide +kernel
theorem dX9_readsText_54 : decode cX9_readsText 54 = .ok (.iload 5, 2) := by decide +kernel
theorem dX9_readsText_56 : decode cX9_readsText 56 = .ok (.sipush 144, 3) := by decide +kernel
theorem dX9_readsText_59 : decode cX9_readsText 59 = .ok (.if_icmp .ge 17, 3) := by decide +kernel
theorem dX9_readsText_62 : decode cX9_readsText 62 = .ok (.aload_n 0, 1) := by decide +kernel
theorem dX9_readsText_63 : decode cX9_readsText 63 = .ok (.getfield 13, 3) := by decide +kernel
theorem dX9_readsText_66 : decode cX9_readsText 66 = .ok (.iload 5, 2) := by decide +kernel
theorem dX9_readsText_68 : decode cX9_readsText 68 = .ok (.iconst 0, 1) := by decide +kernel
theorem dX9_readsText_69 : decode cX9_readsText 69 = .ok (.iastore, 1) := by decide +kernel
theorem dX9_readsText_70 : decode cX9_readsText 70 = .ok (.iinc 5 1, 3) := by decide +kernel
theorem dX9_readsText_73 : decode cX9_readsText 73 = .ok (.goto (-19), 3) := by decide +kernel
theorem dX9_readsText_76 : decode cX9_readsText 76 = .ok (.aload_n 0, 1) := by decide +kernel
theorem dX9_readsText_77 : decode cX9_readsText 77 = .ok (.getfield 13, 3) := by decide +kernel
theorem dX9_readsText_80 : decode cX9_readsText 80 = .ok (.iconst 1, 1) := by decide +kernel
theorem dX9_readsText_81 : decode cX9_readsText 81 = .ok (.iload_n 1, 1) := by decide +kernel
theorem dX9_readsText_82 : decode cX9_readsText 82 = .ok (.iastore, 1) := by decide +kernel
theorem dX9_readsText_83 : decode cX9_readsText 83 = .ok (.aload_n 0, 1) := by decide +kernel
theorem dX9_readsText_84 : decode cX9_readsText 84 = .ok (.getfield 13, 3) := by decide +kernel
theorem dX9_readsText_87 : decode cX9_readsText 87 = .ok (.iconst 2, 1) := by decide +kernel
theorem dX9_readsText_88 : decode cX9_readsText 88 = .ok (.iload_n 2, 1) := by decide +kernel
theorem dX9_readsText_89 : decode cX9_readsText 89 = .ok (.iastore, 1) := by decide +kernel
theorem dX9_readsText_90 : decode cX9_readsText 90 = .ok (.aload_n 0, 1) := by decide +kernel
theorem dX9_readsText_91 : decode cX9_readsText 91 = .ok (.getfield 13, 3) := by decide +kernel
theorem dX9_readsText_94 : decode cX9_readsText 94 = .ok (.iconst 3, 1) := by decide +kernel
theorem dX9_readsText_95 : decode cX9_readsText 95 = .ok (.iload_n 3, 1) := by decide +kernel
theorem dX9_readsText_96 : decode cX9_readsText 96 = .ok (.iastore, 1) := by decide +kernel
theorem dX9_readsText_97 : decode cX9_readsText 97 = .ok (.aload_n 0, 1) := by decide +kernel
theorem dX9_readsText_98 : decode cX9_readsText 98 = .ok (.getfield 13, 3) := by decide +kernel
theorem dX9_readsText_101 : decode cX9_readsText 101 = .ok (.iconst 4, 1) := by decide +kernel
theorem dX9_readsText_102 : decode cX9_readsText 102 = .ok (.iload 4, 2) := by decide +kernel
theorem dX9_readsText_104 : decode cX9_readsText 104 = .ok (.iastore, 1) := by decide +kernel
theorem dX9_readsText_105 : decode cX9_readsText 105 = .ok (.aload_n 0, 1) := by decide +kernel
theorem dX9_readsText_106 : decode cX9_readsText 106 = .ok (.getfield 160, 3) := by decide +kernel
theorem dX9_readsText_109 : decode cX9_readsText 109 = .ok (.ifCond .ne 28, 3) := by decide +kernel
theorem dX9_readsText_112 : decode cX9_readsText 112 = .ok (.aload_n 0, 1) := by decide +kernel
theorem dX9_readsText_113 : decode cX9_readsText 113 = .ok (.getfield 13, 3) := by decide +kernel
theorem dX9_readsText_116 : decode cX9_readsText 116 = .ok (.bipush 8, 2) := by decide +kernel
theorem dX9_readsText_118 : decode cX9_readsText 118 = .ok (.iaload, 1) := by decide +kernel
theorem dX9_readsText_119 : decode cX9_readsText 119 = .ok (.iconst 3, 1) := by decide +kernel
theorem dX9_readsText_120 : decode cX9_readsText 120 = .ok (.if_icmp .lt 10, 3) := by decide +kernel
theorem dX9_readsText_123 : decode cX9_readsText 123 = .ok (.aload_n 0, 1) := by decide +kernel
theorem dX9_readsText_124 : decode cX9_readsText 124 = .ok (.invokevirtual 220, 3) := by decide +kernel
theorem dX9_readsText_127 : decode cX9_readsText 127 = .ok (.ifCond .eq 10, 3) := by decide +kernel
theorem dX9_readsText_130 : decode cX9_readsText 130 = .ok (.aload_n 0, 1) := by decide +kernel
theorem dX9_readsText_131 : decode cX9_readsText 131 = .ok (.invokevirtual 224, 3) := by decide +kernel
theorem dX9_readsText_134 : decode cX9_readsText 134 = .ok (.goto (-29), 3) := by decide +kernel
theorem dX9_readsText_137 : decode cX9_readsText 137 = .ok (.aload_n 0, 1) := by decide +kernel
theorem dX9_readsText_138 : decode cX9_readsText 138 = .ok (.getfield 160, 3) := by decide +kernel
theorem dX9_readsText_141 : decode cX9_readsText 141 = .ok (.ifCond .ne 28, 3) := by decide +kernel
theorem dX9_readsText_144 : decode cX9_readsText 144 = .ok (.aload_n 0, 1) := by decide +kernel
theorem dX9_readsText_145 : decode cX9_readsText 145 = .ok (.getfield 13, 3) := by decide +kernel
theorem dX9_readsText_148 : decode cX9_readsText 148 = .ok (.bipush 9, 2) := by decide +kernel
theorem dX9_readsText_150 : decode cX9_readsText 150 = .ok (.iaload, 1) := by decide +kernel
theorem dX9_readsText_151 : decode cX9_readsText 151 = .ok (.iconst 1, 1) := by decide +kernel
theorem dX9_readsText_152 : decode cX9_readsText 152 = .ok (.if_icmp .lt 10, 3) := by decide +kernel
theorem dX9_readsText_155 : decode cX9_readsText 155 = .ok (.aload_n 0, 1) := by decide +kernel
theorem dX9_readsText_156 : decode cX9_readsText 156 = .ok (.getfield 178, 3) := by decide +kernel
theorem dX9_readsText_159 : decode cX9_readsText 159 = .ok (.ifCond .eq 10, 3) := by decide +kernel
theorem dX9_readsText_162 : decode cX9_readsText 162 = .ok (.aload_n 0, 1) := by decide +kernel
theorem dX9_readsText_163 : decode cX9_readsText 163 = .ok (.invokevirtual 227, 3) := by decide +kernel
theorem dX9_readsText_166 : decode cX9_readsText 166 = .ok (.goto (-29), 3) := by decide +kernel
theorem dX9_readsText_169 : decode cX9_readsText 169 = .ok (.return_, 1) := by decide +kernel
theorem dX9_bankHere_0 : decode cX9_bankHere 0 = .ok (.aload_n 0, 1) := by decide +kernel
theorem dX9_bankHere_1 : decode cX9_bankHere 1 = .ok (.ldc 230, 2) := by decide +kernel
theorem dX9_bankHere_3 : decode cX9_bankHere 3 = .ok (.invokevirtual 193, 3) := by decide +kernel
theorem dX9_bankHere_6 : decode cX9_bankHere 6 = .ok (.ifCond .eq 5, 3) := by decide +kernel
theorem dX9_bankHere_9 : decode cX9_bankHere 9 = .ok (.iconst 0, 1) := by decide +kernel
theorem dX9_bankHere_10 : decode cX9_bankHere 10 = .ok (.ireturn, 1) := by decide +kernel
theorem dX9_bankHere_11 : decode cX9_bankHere 11 = .ok (.aload_n 0, 1) := by decide +kernel
theorem dX9_bankHere_12 : decode cX9_bankHere 12 = .ok (.ldc 232, 2) := by decide +kernel
theorem dX9_bankHere_14 : decode cX9_bankHere 14 = .ok (.invokevirtual 193, 3) := by decide +kernel
theorem dX9_bankHere_17 : decode cX9_bankHere 17 = .ok (.ifCond .eq 7, 3) := by decide +kernel
theorem dX9_bankHere_20 : decode cX9_bankHere 20 = .ok (.iconst 1, 1) := by decide +kernel
theorem dX9_bankHere_21 : decode cX9_bankHere 21 = .ok (.goto 4, 3) := by decide +kernel
theorem dX9_bankHere_24 : decode cX9_bankHere 24 = .ok (.iconst (-1), 1) := by decide +kernel
theorem dX9_bankHere_25 : decode cX9_bankHere 25 = .ok (.ireturn, 1) := by decide +kernel
theorem dX9_readsPerson_0 : decode cX9_readsPerson 0 = .ok (.aload_n 0, 1) := by decide +kernel
theorem dX9_readsPerson_1 : decode cX9_readsPerson 1 = .ok (.invokevirtual 220, 3) := by decide +kernel
theorem dX9_readsPerson_4 : decode cX9_readsPerson 4 = .ok (.ifCond .ne 8, 3) := by decide +kernel
theorem dX9_readsPerson_7 : decode cX9_readsPerson 7 = .ok (.aload_n 0, 1) := by decide +kernel
theorem dX9_readsPerson_8 : decode cX9_readsPerson 8 = .ok (.iconst 1, 1) := by decide +kernel
theorem dX9_readsPerson_9 : decode cX9_readsPerson 9 = .ok (.invokevirtual 197, 3) := by decide +kernel
theorem dX9_readsPerson_12 : decode cX9_readsPerson 12 = .ok (.aload_n 0, 1) := by decide +kernel
theorem dX9_readsPerson_13 : decode cX9_readsPerson 13 = .ok (.getfield 13, 3) := by decide +kernel
theorem dX9_readsPerson_16 : decode cX9_readsPerson 16 = .ok (.bipush 8, 2) := by decide +kernel
theorem dX9_readsPerson_18 : decode cX9_readsPerson 18 = .ok (.iaload, 1) := by decide +kernel
theorem dX9_readsPerson_19 : decode cX9_readsPerson 19 = .ok (.bipush 10, 2) := by decide +kernel
theorem dX9_readsPerson_21 : decode cX9_readsPerson 21 = .ok (.if_icmp .ne 8, 3) := by decide +kernel
theorem dX9_readsPerson_24 : decode cX9_readsPerson 24 = .ok (.aload_n 0, 1) := by decide +kernel
theorem dX9_readsPerson_25 : decode cX9_readsPerson 25 = .ok (.iconst 3, 1) := by decide +kernel
theorem dX9_readsPerson_26 : decode cX9_readsPerson 26 = .ok (.invokevirtual 197, 3) := by decide +kernel
theorem dX9_readsPerson_29 : decode cX9_readsPerson 29 = .ok (.aload_n 0, 1) := by decide +kernel
theorem dX9_readsPerson_30 : decode cX9_readsPerson 30 = .ok (.getfield 160, 3) := by decide +kernel
theorem dX9_readsPerson_33 : decode cX9_readsPerson 33 = .ok (.ifCond .eq 4, 3) := by decide +kernel
theorem dX9_readsPerson_36 : decode cX9_readsPerson 36 = .ok (.return_, 1) := by decide +kernel
theorem dX9_readsPerson_37 : decode cX9_readsPerson 37 = .ok (.aload_n 0, 1) := by decide +kernel
theorem dX9_readsPerson_38 : decode cX9_readsPerson 38 = .ok (.ldc 204, 2) := by decide +kernel
theorem dX9_readsPerson_40 : decode cX9_readsPerson 40 = .ok (.invokevirtual 193, 3) := by decide +kernel
theorem dX9_readsPerson_43 : decode cX9_readsPerson 43 = .ok (.invokestatic 85, 3) := by decide +kernel
theorem dX9_readsPerson_46 : decode cX9_readsPerson 46 = .ok (.istore_n 1, 1) := by decide +kernel
theorem dX9_readsPerson_47 : decode cX9_readsPerson 47 = .ok (.aload_n 0, 1) := by decide +kernel
theorem dX9_readsPerson_48 : decode cX9_readsPerson 48 = .ok (.invokevirtual 190, 3) := by decide +kernel
theorem dX9_readsPerson_51 : decode cX9_readsPerson 51 = .ok (.aload_n 0, 1) := by decide +kernel
theorem dX9_readsPerson_52 : decode cX9_readsPerson 52 = .ok (.invokevirtual 234, 3) := by decide +kernel
theorem dX9_readsPerson_55 : decode cX9_readsPerson 55 = .ok (.istore_n 2, 1) := by decide +kernel
theorem dX9_readsPerson_56 : decode cX9_readsPerson 56 = .ok (.iload_n 2, 1) := by decide +kernel
theorem dX9_readsPerson_57 : decode cX9_readsPerson 57 = .ok (.iconst (-1), 1) := by decide +kernel
theorem dX9_readsPerson_58 : decode cX9_readsPerson 58 = .ok (.if_icmp .ne 8, 3) := by decide +kernel
theorem dX9_readsPerson_61 : decode cX9_readsPerson 61 = .ok (.aload_n 0, 1) := by decide +kernel
theorem dX9_readsPerson_62 : decode cX9_readsPerson 62 = .ok (.iconst 1, 1) := by decide +kernel
theorem dX9_readsPerson_63 : decode cX9_readsPerson 63 = .ok (.invokevirtual 197, 3) := by decide +kernel
theorem dX9_readsPerson_66 : decode cX9_readsPerson 66 = .ok (.aload_n 0, 1) := by decide +kernel
theorem dX9_readsPerson_67 : decode cX9_readsPerson 67 = .ok (.getfield 160, 3) := by decide +kernel
theorem dX9_readsPerson_70 : decode cX9_readsPerson 70 = .ok (.ifCond .ne 7, 3) := by decide +kernel
theorem dX9_readsPerson_73 : decode cX9_readsPerson 73 = .ok (.aload_n 0, 1) := by decide +kernel
theorem dX9_readsPerson_74 : decode cX9_readsPerson 74 = .ok (.invokevirtual 190, 3) := by decide +kernel
theorem dX9_readsPerson_77 : decode cX9_readsPerson 77 = .ok (.aload_n 0, 1) := by decide +kernel
theorem dX9_readsPerson_78 : decode cX9_readsPerson 78 = .ok (.iconst 0, 1) := by decide +kernel
theorem dX9_readsPerson_79 : decode cX9_readsPerson 79 = .ok (.sipush 999, 3) := by decide +kernel
theorem dX9_readsPerson_82 : decode cX9_readsPerson 82 = .ok (.invokevirtual 214, 3) := by decide +kernel
theorem dX9_readsPerson_85 : decode cX9_readsPerson 85 = .ok (.istore_n 3, 1) := by decide +kernel
theorem dX9_readsPerson_86 : decode cX9_readsPerson 86 = .ok (.aload_n 0, 1) := by decide +kernel
theorem dX9_readsPerson_87 : decode cX9_readsPerson 87 = .ok (.iconst 0, 1) := by decide +kernel
theorem dX9_readsPerson_88 : decode cX9_readsPerson 88 = .ok (.bipush 40, 2) := by decide +kernel
theorem dX9_readsPerson_90 : decode cX9_readsPerson 90 = .ok (.invokevirtual 214, 3) := by decide +kernel
theorem dX9_readsPerson_93 : decode cX9_readsPerson 93 = .ok (.istore 4, 2) := by decide +kernel
theorem dX9_readsPerson_95 : decode cX9_readsPerson 95 = .ok (.aload_n 0, 1) := by decide +kernel
theorem dX9_readsPerson_96 : decode cX9_readsPerson 96 = .ok (.iconst 0, 1) := by decide +kernel
theorem dX9_readsPerson_97 : decode cX9_readsPerson 97 = .ok (.bipush 50, 2) := by decide +kernel
theorem dX9_readsPerson_99 : decode cX9_readsPerson 99 = .ok (.invokevirtual 214, 3) := by decide +kernel
theorem dX9_readsPerson_102 : decode cX9_readsPerson 102 = .ok (.istore 5, 2) := by decide +kernel
theorem dX9_readsPerson_104 : decode cX9_readsPerson 104 = .ok (.aload_n 0, 1) := by decide +kernel
theorem dX9_readsPerson_105 : decode cX9_readsPerson 105 = .ok (.invokevirtual 217, 3) := by decide +kernel
theorem dX9_readsPerson_108 : decode cX9_readsPerson 108 = .ok (.aload_n 0, 1) := by decide +kernel
theorem dX9_readsPerson_109 : decode cX9_readsPerson 109 = .ok (.getfield 160, 3) := by decide +kernel
theorem dX9_readsPerson_112 : decode cX9_readsPerson 112 = .ok (.ifCond .eq 4, 3) := by decide +kernel
theorem dX9_readsPerson_115 : decode cX9_readsPerson 115 = .ok (.return_, 1) := by decide +kernel
theorem dX9_readsPerson_116 : decode cX9_readsPerson 116 = .ok (.aload_n 0, 1) := by decide +kernel
theorem dX9_readsPerson_117 : decode cX9_readsPerson 117 = .ok (.getfield 13, 3) := by decide +kernel
theorem dX9_readsPerson_120 : decode cX9_readsPerson 120 = .ok (.bipush 8, 2) := by decide +kernel
theorem dX9_readsPerson_122 : decode cX9_readsPerson 122 = .ok (.iaload, 1) := by decide +kernel
theorem dX9_readsPerson_123 : decode cX9_readsPerson 123 = .ok (.istore 6, 2) := by decide +kernel
theorem dX9_readsPerson_125 : decode cX9_readsPerson 125 = .ok (.aload_n 0, 1) := by decide +kernel
theorem dX9_readsPerson_126 : decode cX9_readsPerson 126 = .ok (.getfield 13, 3) := by decide +kernel
theorem dX9_readsPerson_129 : decode cX9_readsPerson 129 = .ok (.bipush 8, 2) := by decide +kernel
theorem dX9_readsPerson_131 : decode cX9_readsPerson 131 = .ok (.dup2, 1) := by decide +kernel
theorem dX9_readsPerson_132 : decode cX9_readsPerson 132 = .ok (.iaload, 1) := by decide +kernel
theorem dX9_readsPerson_133 : decode cX9_readsPerson 133 = .ok (.iconst 1, 1) := by decide +kernel
theorem dX9_readsPerson_134 : decode cX9_readsPerson 134 = .ok (.iadd, 1) := by decide +kernel
theorem dX9_readsPerson_135 : decode cX9_readsPerson 135 = .ok (.iastore, 1) := by decide +kernel
theorem dX9_readsPerson_136 : decode cX9_readsPerson 136 = .ok (.aload_n 0, 1) := by decide +kernel
theorem dX9_readsPerson_137 : decode cX9_readsPerson 137 = .ok (.iload 6, 2) := by decide +kernel
theorem dX9_readsPerson_139 : decode cX9_readsPerson 139 = .ok (.iconst 0, 1) := by decide +kernel
theorem dX9_readsPerson_140 : decode cX9_readsPerson 140 = .ok (.iload_n 1, 1) := by decide +kernel
theorem dX9_readsPerson_141 : decode cX9_readsPerson 141 = .ok (.invokevirtual 105, 3) := by decide +kernel
theorem dX9_readsPerson_144 : decode cX9_readsPerson 144 = .ok (.aload_n 0, 1) := by decide +kernel
theorem dX9_readsPerson_145 : decode cX9_readsPerson 145 = .ok (.iload 6, 2) := by decide +kernel
theorem dX9_readsPerson_147 : decode cX9_readsPerson 147 = .ok (.iconst 1, 1) := by decide +kernel
theorem dX9_readsPerson_148 : decode cX9_readsPerson 148 = .ok (.iload_n 2, 1) := by decide +kernel
theorem dX9_readsPerson_149 : decode cX9_readsPerson 149 = .ok (.invokevirtual 105, 3) := by decide +kernel
theorem dX9_readsPerson_152 : decode cX9_readsPerson 152 = .ok (.aload_n 0, 1) := by decide +kernel
theorem dX9_readsPerson_153 : decode cX9_readsPerson 153 = .ok (.iload 6, 2) := by decide +kernel
theorem dX9_readsPerson_155 : decode cX9_readsPerson 155 = .ok (.iconst 2, 1) := by decide +kernel
theorem dX9_readsPerson_156 : decode cX9_readsPerson 156 = .ok (.iload_n 3, 1) := by decide +kernel
theorem dX9_readsPerson_157 : decode cX9_readsPerson 157 = .ok (.invokevirtual 105, 3) := by decide +kernel
theorem dX9_readsPerson_160 : decode cX9_readsPerson 160 = .ok (.aload_n 0, 1) := by decide +kernel
theorem dX9_readsPerson_161 : decode cX9_readsPerson 161 = .ok (.iload 6, 2) := by decide +kernel
theorem dX9_readsPerson_163 : decode cX9_readsPerson 163 = .ok (.iconst 3, 1) := by decide +kernel
theorem dX9_readsPerson_164 : decode cX9_readsPerson 164 = .ok (.iload 4, 2) := by decide +kernel
theorem dX9_readsPerson_166 : decode cX9_readsPerson 166 = .ok (.invokevirtual 105, 3) := by decide +kernel
theorem dX9_readsPerson_169 : decode cX9_readsPerson 169 = .ok (.aload_n 0, 1) := by decide +kernel
theorem dX9_readsPerson_170 : decode cX9_readsPerson 170 = .ok (.iload 6, 2) := by decide +kernel
theorem dX9_readsPerson_172 : decode cX9_readsPerson 172 = .ok (.iconst 4, 1) := by decide +kernel
theorem dX9_readsPerson_173 : decode cX9_readsPerson 173 = .ok (.iload 6, 2) := by decide +kernel
theorem dX9_readsPerson_175 : decode cX9_readsPerson 175 = .ok (.invokevirtual 105, 3) := by decide +kernel
theorem dX9_readsPerson_178 : decode cX9_readsPerson 178 = .ok (.aload_n 0, 1) := by decide +kernel
theorem dX9_readsPerson_179 : decode cX9_readsPerson 179 = .ok (.getfield 13, 3) := by decide +kernel
theorem dX9_readsPerson_182 : decode cX9_readsPerson 182 = .ok (.bipush 92, 2) := by decide +kernel
theorem dX9_readsPerson_184 : decode cX9_readsPerson 184 = .ok (.iload 6, 2) := by decide +kernel
theorem dX9_readsPerson_186 : decode cX9_readsPerson 186 = .ok (.iadd, 1) := by decide +kernel
theorem dX9_readsPerson_187 : decode cX9_readsPerson 187 = .ok (.iload 5, 2) := by decide +kernel
theorem dX9_readsPerson_189 : decode cX9_readsPerson 189 = .ok (.iastore, 1) := by decide +kernel
theorem dX9_readsPerson_190 : decode cX9_readsPerson 190 = .ok (.aload_n 0, 1) := by decide +kernel
theorem dX9_readsPerson_191 : decode cX9_readsPerson 191 = .ok (.getfield 13, 3) := by decide +kernel
theorem dX9_readsPerson_194 : decode cX9_readsPerson 194 = .ok (.bipush 10, 2) := by decide +kernel
theorem dX9_readsPerson_196 : decode cX9_readsPerson 196 = .ok (.dup2, 1) := by decide +kernel
theorem dX9_readsPerson_197 : decode cX9_readsPerson 197 = .ok (.iaload, 1) := by decide +kernel
theorem dX9_readsPerson_198 : decode cX9_readsPerson 198 = .ok (.iload_n 3, 1) := by decide +kernel
theorem dX9_readsPerson_199 : decode cX9_readsPerson 199 = .ok (.iadd, 1) := by decide +kernel
theorem dX9_readsPerson_200 : decode cX9_readsPerson 200 = .ok (.iastore, 1) := by decide +kernel
theorem dX9_readsPerson_201 : decode cX9_readsPerson 201 = .ok (.aload_n 0, 1) := by decide +kernel
theorem dX9_readsPerson_202 : decode cX9_readsPerson 202 = .ok (.iload 6, 2) := by decide +kernel
theorem dX9_readsPerson_204 : decode cX9_readsPerson 204 = .ok (.iconst 0, 1) := by decide +kernel
theorem dX9_readsPerson_205 : decode cX9_readsPerson 205 = .ok (.iload 6, 2) := by decide +kernel
theorem dX9_readsPerson_207 : decode cX9_readsPerson 207 = .ok (.invokevirtual 98, 3) := by decide +kernel
theorem dX9_readsPerson_210 : decode cX9_readsPerson 210 = .ok (.return_, 1) := by decide +kernel
theorem dX9_readsBridge_0 : decode cX9_readsBridge 0 = .ok (.aload_n 0, 1) := by decide +kernel
theorem dX9_readsBridge_1 : decode cX9_readsBridge 1 = .ok (.ldc 237, 2) := by decide +kernel
theorem dX9_readsBridge_3 : decode cX9_readsBridge 3 = .ok (.invokevirtual 193, 3) := by decide +kernel
theorem dX9_readsBridge_6 : decode cX9_readsBridge 6 = .ok (.ifCond .ne 8, 3) := by decide +kernel
theorem dX9_readsBridge_9 : decode cX9_readsBridge 9 = .ok (.aload_n 0, 1) := by decide +kernel
theorem dX9_readsBridge_10 : decode cX9_readsBridge 10 = .ok (.iconst 1, 1) := by decide +kernel
theorem dX9_readsBridge_11 : decode cX9_readsBridge 11 = .ok (.invokevirtual 197, 3) := by decide +kernel
theorem dX9_readsBridge_14 : decode cX9_readsBridge 14 = .ok (.aload_n 0, 1) := by decide +kernel
theorem dX9_readsBridge_15 : decode cX9_readsBridge 15 = .ok (.getfield 13, 3) := by decide +kernel
theorem dX9_readsBridge_18 : decode cX9_readsBridge 18 = .ok (.bipush 9, 2) := by decide +kernel
theorem dX9_readsBridge_20 : decode cX9_readsBridge 20 = .ok (.iaload, 1) := by decide +kernel
theorem dX9_readsBridge_21 : decode cX9_readsBridge 21 = .ok (.iconst 4, 1) := by decide +kernel
theorem dX9_readsBridge_22 : decode cX9_readsBridge 22 = .ok (.if_icmp .ne 8, 3) := by decide +kernel
theorem dX9_readsBridge_25 : decode cX9_readsBridge 25 = .ok (.aload_n 0, 1) := by decide +kernel
theorem dX9_readsBridge_26 : decode cX9_readsBridge 26 = .ok (.iconst 3, 1) := by decide +kernel
theorem dX9_readsBridge_27 : decode cX9_readsBridge 27 = .ok (.invokevirtual 197, 3) := by decide +kernel
theorem dX9_readsBridge_30 : decode cX9_readsBridge 30 = .ok (.aload_n 0, 1) := by decide +kernel
theorem dX9_readsBridge_31 : decode cX9_readsBridge 31 = .ok (.getfield 160, 3) := by decide +kernel
theorem dX9_readsBridge_34 : decode cX9_readsBridge 34 = .ok (.ifCond .eq 4, 3) := by decide +kernel
theorem dX9_readsBridge_37 : decode cX9_readsBridge 37 = .ok (.return_, 1) := by decide +kernel
theorem dX9_readsBridge_38 : decode cX9_readsBridge 38 = .ok (.aload_n 0, 1) := by decide +kernel
theorem dX9_readsBridge_39 : decode cX9_readsBridge 39 = .ok (.invokevirtual 190, 3) := by decide +kernel
theorem dX9_readsBridge_42 : decode cX9_readsBridge 42 = .ok (.aload_n 0, 1) := by decide +kernel
theorem dX9_readsBridge_43 : decode cX9_readsBridge 43 = .ok (.iconst 1, 1) := by decide +kernel
theorem dX9_readsBridge_44 : decode cX9_readsBridge 44 = .ok (.bipush 9, 2) := by decide +kernel
theorem dX9_readsBridge_46 : decode cX9_readsBridge 46 = .ok (.invokevirtual 214, 3) := by decide +kernel
theorem dX9_readsBridge_49 : decode cX9_readsBridge 49 = .ok (.istore_n 1, 1) := by decide +kernel
theorem dX9_readsBridge_50 : decode cX9_readsBridge 50 = .ok (.aload_n 0, 1) := by decide +kernel
theorem dX9_readsBridge_51 : decode cX9_readsBridge 51 = .ok (.iconst 0, 1) := by decide +kernel
theorem dX9_readsBridge_52 : decode cX9_readsBridge 52 = .ok (.iload_n 1, 1) := by decide +kernel
theorem dX9_readsBridge_53 : decode cX9_readsBridge 53 = .ok (.iconst 1, 1) := by decide +kernel
theorem dX9_readsBridge_54 : decode cX9_readsBridge 54 = .ok (.isub, 1) := by decide +kernel
theorem dX9_readsBridge_55 : decode cX9_readsBridge 55 = .ok (.invokevirtual 214, 3) := by decide +kernel
theorem dX9_readsBridge_58 : decode cX9_readsBridge 58 = .ok (.istore_n 2, 1) := by decide +kernel
theorem dX9_readsBridge_59 : decode cX9_readsBridge 59 = .ok (.aload_n 0, 1) := by decide +kernel
theorem dX9_readsBridge_60 : decode cX9_readsBridge 60 = .ok (.iconst 1, 1) := by decide +kernel
theorem dX9_readsBridge_61 : decode cX9_readsBridge 61 = .ok (.iconst 3, 1) := by decide +kernel
theorem dX9_readsBridge_62 : decode cX9_readsBridge 62 = .ok (.invokevirtual 214, 3) := by decide +kernel
theorem dX9_readsBridge_65 : decode cX9_readsBridge 65 = .ok (.istore_n 3, 1) := by decide +kernel
theorem dX9_readsBridge_66 : decode cX9_readsBridge 66 = .ok (.aload_n 0, 1) := by decide +kernel
theorem dX9_readsBridge_67 : decode cX9_readsBridge 67 = .ok (.invokevirtual 217, 3) := by decide +kernel
theorem dX9_readsBridge_70 : decode cX9_readsBridge 70 = .ok (.aload_n 0, 1) := by decide +kernel
theorem dX9_readsBridge_71 : decode cX9_readsBridge 71 = .ok (.getfield 160, 3) := by decide +kernel
theorem dX9_readsBridge_74 : decode cX9_readsBridge 74 = .ok (.ifCond .eq 4, 3) := by decide +kernel
theorem dX9_readsBridge_77 : decode cX9_readsBridge 77 = .ok (.return_, 1) := by decide +kernel
theorem dX9_readsBridge_78 : decode cX9_readsBridge 78 = .ok (.sipush 132, 3) := by decide +kernel
theorem dX9_readsBridge_81 : decode cX9_readsBridge 81 = .ok (.iconst 3, 1) := by decide +kernel
theorem dX9_readsBridge_82 : decode cX9_readsBridge 82 = .ok (.aload_n 0, 1) := by decide +kernel
theorem dX9_readsBridge_83 : decode cX9_readsBridge 83 = .ok (.getfield 13, 3) := by decide +kernel
theorem dX9_readsBridge_86 : decode cX9_readsBridge 86 = .ok (.bipush 9, 2) := by decide +kernel
theorem dX9_readsBridge_88 : decode cX9_readsBridge 88 = .ok (.iaload, 1) := by decide +kernel
theorem dX9_readsBridge_89 : decode cX9_readsBridge 89 = .ok (.imul, 1) := by decide +kernel
theorem dX9_readsBridge_90 : decode cX9_readsBridge 90 = .ok (.iadd, 1) := by decide +kernel
theorem dX9_readsBridge_91 : decode cX9_readsBridge 91 = .ok (.istore 4, 2) := by decide +kernel
theorem dX9_readsBridge_93 : decode cX9_readsBridge 93 = .ok (.aload_n 0, 1) := by decide +kernel
theorem dX9_readsBridge_94 : decode cX9_readsBridge 94 = .ok (.getfield 13, 3) := by decide +kernel
theorem dX9_readsBridge_97 : decode cX9_readsBridge 97 = .ok (.bipush 9, 2) := by decide +kernel
theorem dX9_readsBridge_99 : decode cX9_readsBridge 99 = .ok (.dup2, 1) := by decide +kernel
theorem dX9_readsBridge_100 : decode cX9_readsBridge 100 = .ok (.iaload, 1) := by decide +kernel
theorem dX9_readsBridge_101 : decode cX9_readsBridge 101 = .ok (.iconst 1, 1) := by decide +kernel
theorem dX9_readsBridge_102 : decode cX9_readsBridge 102 = .ok (.iadd, 1) := by decide +kernel
theorem dX9_readsBridge_103 : decode cX9_readsBridge 103 = .ok (.iastore, 1) := by decide +kernel
theorem dX9_readsBridge_104 : decode cX9_readsBridge 104 = .ok (.aload_n 0, 1) := by decide +kernel
theorem dX9_readsBridge_105 : decode cX9_readsBridge 105 = .ok (.getfield 13, 3) := by decide +kernel
theorem dX9_readsBridge_108 : decode cX9_readsBridge 108 = .ok (.iload 4, 2) := by decide +kernel
theorem dX9_readsBridge_110 : decode cX9_readsBridge 110 = .ok (.iconst 0, 1) := by decide +kernel
theorem dX9_readsBridge_111 : decode cX9_readsBridge 111 = .ok (.iadd, 1) := by decide +kernel
theorem dX9_readsBridge_112 : decode cX9_readsBridge 112 = .ok (.iload_n 1, 1) := by decide +kernel
theorem dX9_readsBridge_113 : decode cX9_readsBridge 113 = .ok (.iastore, 1) := by decide +kernel
theorem dX9_readsBridge_114 : decode cX9_readsBridge 114 = .ok (.aload_n 0, 1) := by decide +kernel
theorem dX9_readsBridge_115 : decode cX9_readsBridge 115 = .ok (.getfield 13, 3) := by decide +kernel
theorem dX9_readsBridge_118 : decode cX9_readsBridge 118 = .ok (.iload 4, 2) := by decide +kernel
theorem dX9_readsBridge_120 : decode cX9_readsBridge 120 = .ok (.iconst 1, 1) := by decide +kernel
theorem dX9_readsBridge_121 : decode cX9_readsBridge 121 = .ok (.iadd, 1) := by decide +kernel
theorem dX9_readsBridge_122 : decode cX9_readsBridge 122 = .ok (.iload_n 2, 1) := by decide +kernel
theorem dX9_readsBridge_123 : decode cX9_readsBridge 123 = .ok (.iastore, 1) := by decide +kernel
theorem dX9_readsBridge_124 : decode cX9_readsBridge 124 = .ok (.aload_n 0, 1) := by decide +kernel
theorem dX9_readsBridge_125 : decode cX9_readsBridge 125 = .ok (.getfield 13, 3) := by decide +kernel
theorem dX9_readsBridge_128 : decode cX9_readsBridge 128 = .ok (.iload 4, 2) := by decide +kernel
theorem dX9_readsBridge_130 : decode cX9_readsBridge 130 = .ok (.iconst 2, 1) := by decide +kernel
theorem dX9_readsBridge_131 : decode cX9_readsBridge 131 = .ok (.iadd, 1) := by decide +kernel
theorem dX9_readsBridge_132 : decode cX9_readsBridge 132 = .ok (.iload_n 3, 1) := by decide +kernel
theorem dX9_readsBridge_133 : decode cX9_readsBridge 133 = .ok (.iastore, 1) := by decide +kernel
theorem dX9_readsBridge_134 : decode cX9_readsBridge 134 = .ok (.return_, 1) := by decide +kernel
theorem dX9_loadGame_0 : decode cX9_loadGame 0 = .ok (.aload_n 0, 1) := by decide +kernel
theorem dX9_loadGame_1 : decode cX9_loadGame 1 = .ok (.iconst 0, 1) := by decide +kernel
theorem dX9_loadGame_2 : decode cX9_loadGame 2 = .ok (.putfield 1, 3) := by decide +kernel
theorem dX9_loadGame_5 : decode cX9_loadGame 5 = .ok (.aload_n 0, 1) := by decide +kernel
theorem dX9_loadGame_6 : decode cX9_loadGame 6 = .ok (.iload_n 1, 1) := by decide +kernel
theorem dX9_loadGame_7 : decode cX9_loadGame 7 = .ok (.iconst 0, 1) := by decide +kernel
theorem dX9_loadGame_8 : decode cX9_loadGame 8 = .ok (.aload_n 0, 1) := by decide +kernel
theorem dX9_loadGame_9 : decode cX9_loadGame 9 = .ok (.getfield 53, 3) := by decide +kernel
theorem dX9_loadGame_12 : decode cX9_loadGame 12 = .ok (.invokestatic 200, 3) := by decide +kernel
theorem dX9_loadGame_15 : decode cX9_loadGame 15 = .ok (.iconst 1, 1) := by decide +kernel
theorem dX9_loadGame_16 : decode cX9_loadGame 16 = .ok (.invokevirtual 239, 3) := by decide +kernel
theorem dX9_loadGame_19 : decode cX9_loadGame 19 = .ok (.ifCond .eq 5, 3) := by decide +kernel
theorem dX9_loadGame_22 : decode cX9_loadGame 22 = .ok (.iconst 0, 1) := by decide +kernel
theorem dX9_loadGame_23 : decode cX9_loadGame 23 = .ok (.ireturn, 1) := by decide +kernel
theorem dX9_loadGame_24 : decode cX9_loadGame 24 = .ok (.aload_n 0, 1) := by decide +kernel
theorem dX9_loadGame_25 : decode cX9_loadGame 25 = .ok (.getfield 13, 3) := by decide +kernel
theorem dX9_loadGame_28 : decode cX9_loadGame 28 = .ok (.iconst 0, 1) := by decide +kernel
theorem dX9_loadGame_29 : decode cX9_loadGame 29 = .ok (.aload_n 0, 1) := by decide +kernel
theorem dX9_loadGame_30 : decode cX9_loadGame 30 = .ok (.getfield 17, 3) := by decide +kernel
theorem dX9_loadGame_33 : decode cX9_loadGame 33 = .ok (.iconst 0, 1) := by decide +kernel
theorem dX9_loadGame_34 : decode cX9_loadGame 34 = .ok (.sipush 144, 3) := by decide +kernel
theorem dX9_loadGame_37 : decode cX9_loadGame 37 = .ok (.invokestatic 243, 3) := by decide +kernel
theorem dX9_loadGame_40 : decode cX9_loadGame 40 = .ok (.aload_n 0, 1) := by decide +kernel
theorem dX9_loadGame_41 : decode cX9_loadGame 41 = .ok (.iload_n 1, 1) := by decide +kernel
theorem dX9_loadGame_42 : decode cX9_loadGame 42 = .ok (.invokevirtual 247, 3) := by decide +kernel
theorem dX9_loadGame_45 : decode cX9_loadGame 45 = .ok (.aload_n 0, 1) := by decide +kernel
theorem dX9_loadGame_46 : decode cX9_loadGame 46 = .ok (.invokevirtual 250, 3) := by decide +kernel
theorem dX9_loadGame_49 : decode cX9_loadGame 49 = .ok (.aload_n 0, 1) := by decide +kernel
theorem dX9_loadGame_50 : decode cX9_loadGame 50 = .ok (.getfield 160, 3) := by decide +kernel
theorem dX9_loadGame_53 : decode cX9_loadGame 53 = .ok (.ifCond .eq 21, 3) := by decide +kernel
theorem dX9_loadGame_56 : decode cX9_loadGame 56 = .ok (.aload_n 0, 1) := by decide +kernel
theorem dX9_loadGame_57 : decode cX9_loadGame 57 = .ok (.getfield 17, 3) := by decide +kernel
theorem dX9_loadGame_60 : decode cX9_loadGame 60 = .ok (.iconst 0, 1) := by decide +kernel
theorem dX9_loadGame_61 : decode cX9_loadGame 61 = .ok (.aload_n 0, 1) := by decide +kernel
theorem dX9_loadGame_62 : decode cX9_loadGame 62 = .ok (.getfield 13, 3) := by decide +kernel
theorem dX9_loadGame_65 : decode cX9_loadGame 65 = .ok (.iconst 0, 1) := by decide +kernel
theorem dX9_loadGame_66 : decode cX9_loadGame 66 = .ok (.sipush 144, 3) := by decide +kernel
theorem dX9_loadGame_69 : decode cX9_loadGame 69 = .ok (.invokestatic 243, 3) := by decide +kernel
theorem dX9_loadGame_72 : decode cX9_loadGame 72 = .ok (.iconst (-1), 1) := by decide +kernel
theorem dX9_loadGame_73 : decode cX9_loadGame 73 = .ok (.ireturn, 1) := by decide +kernel
theorem dX9_loadGame_74 : decode cX9_loadGame 74 = .ok (.aload_n 0, 1) := by decide +kernel
theorem dX9_loadGame_75 : decode cX9_loadGame 75 = .ok (.iconst 0, 1) := by decide +kernel
theorem dX9_loadGame_76 : decode cX9_loadGame 76 = .ok (.putfield 253, 3) := by decide +kernel
theorem dX9_loadGame_79 : decode cX9_loadGame 79 = .ok (.aload_n 0, 1) := by decide +kernel
theorem dX9_loadGame_80 : decode cX9_loadGame 80 = .ok (.iconst 0, 1) := by decide +kernel
theorem dX9_loadGame_81 : decode cX9_loadGame 81 = .ok (.putfield 256, 3) := by decide +kernel
theorem dX9_loadGame_84 : decode cX9_loadGame 84 = .ok (.aload_n 0, 1) := by decide +kernel
theorem dX9_loadGame_85 : decode cX9_loadGame 85 = .ok (.getfield 13, 3) := by decide +kernel
theorem dX9_loadGame_88 : decode cX9_loadGame 88 = .ok (.bipush 8, 2) := by decide +kernel
theorem dX9_loadGame_90 : decode cX9_loadGame 90 = .ok (.iaload, 1) := by decide +kernel
theorem dX9_loadGame_91 : decode cX9_loadGame 91 = .ok (.ireturn, 1) := by decide +kernel
theorem dX9_turn_0 : decode cX9_turn 0 = .ok (.aload_n 0, 1) := by decide +kernel
theorem dX9_turn_1 : decode cX9_turn 1 = .ok (.iconst 0, 1) := by decide +kernel
theorem dX9_turn_2 : decode cX9_turn 2 = .ok (.putfield 1, 3) := by decide +kernel
theorem dX9_turn_5 : decode cX9_turn 5 = .ok (.aload_n 0, 1) := by decide +kernel
theorem dX9_turn_6 : decode cX9_turn 6 = .ok (.getfield 13, 3) := by decide +kernel
theorem dX9_turn_9 : decode cX9_turn 9 = .ok (.iconst 0, 1) := by decide +kernel
theorem dX9_turn_10 : decode cX9_turn 10 = .ok (.iaload, 1) := by decide +kernel
theorem dX9_turn_11 : decode cX9_turn 11 = .ok (.ireturn, 1) := by decide +kernel
theorem dX9_limitAngle_0 : decode cX9_limitAngle 0 = .ok (.aload_n 0, 1) := by decide +kernel
theorem dX9_limitAngle_1 : decode cX9_limitAngle 1 = .ok (.iconst 0, 1) := by decide +kernel
theorem dX9_limitAngle_2 : decode cX9_limitAngle 2 = .ok (.putfield 1, 3) := by decide +kernel
theorem dX9_limitAngle_5 : decode cX9_limitAngle 5 = .ok (.aload_n 0, 1) := by decide +kernel
theorem dX9_limitAngle_6 : decode cX9_limitAngle 6 = .ok (.getfield 13, 3) := by decide +kernel
theorem dX9_limitAngle_9 : decode cX9_limitAngle 9 = .ok (.iconst 1, 1) := by decide +kernel
theorem dX9_limitAngle_10 : decode cX9_limitAngle 10 = .ok (.iaload, 1) := by decide +kernel
theorem dX9_limitAngle_11 : decode cX9_limitAngle 11 = .ok (.ireturn, 1) := by decide +kernel
theorem dX9_tollBox_0 : decode cX9_tollBox 0 = .ok (.aload_n 0, 1) := by decide +kernel
theorem dX9_tollBox_1 : decode cX9_tollBox 1 = .ok (.iconst 0, 1) := by decide +kernel
theorem dX9_tollBox_2 : decode cX9_tollBox 2 = .ok (.putfield 1, 3) := by decide +kernel
theorem dX9_tollBox_5 : decode cX9_tollBox 5 = .ok (.aload_n 0, 1) := by decide +kernel
theorem dX9_tollBox_6 : decode cX9_tollBox 6 = .ok (.getfield 13, 3) := by decide +kernel
theorem dX9_tollBox_9 : decode cX9_tollBox 9 = .ok (.iconst 5, 1) := by decide +kernel
theorem dX9_tollBox_10 : decode cX9_tollBox 10 = .ok (.iaload, 1) := by decide +kernel
theorem dX9_tollBox_11 : decode cX9_tollBox 11 = .ok (.ireturn, 1) := by decide +kernel
theorem dX9_groundCoins_0 : decode cX9_groundCoins 0 = .ok (.aload_n 0, 1) := by decide +kernel
theorem dX9_groundCoins_1 : decode cX9_groundCoins 1 = .ok (.iconst 0, 1) := by decide +kernel
theorem dX9_groundCoins_2 : decode cX9_groundCoins 2 = .ok (.putfield 1, 3) := by decide +kernel
theorem dX9_groundCoins_5 : decode cX9_groundCoins 5 = .ok (.aload_n 0, 1) := by decide +kernel
theorem dX9_groundCoins_6 : decode cX9_groundCoins 6 = .ok (.getfield 13, 3) := by decide +kernel
theorem dX9_groundCoins_9 : decode cX9_groundCoins 9 = .ok (.bipush 6, 2) := by decide +kernel
theorem dX9_groundCoins_11 : decode cX9_groundCoins 11 = .ok (.iload_n 1, 1) := by decide +kernel
theorem dX9_groundCoins_12 : decode cX9_groundCoins 12 = .ok (.invokestatic 85, 3) := by decide +kernel
theorem dX9_groundCoins_15 : decode cX9_groundCoins 15 = .ok (.iadd, 1) := by decide +kernel
theorem dX9_groundCoins_16 : decode cX9_groundCoins 16 = .ok (.iaload, 1) := by decide +kernel
theorem dX9_groundCoins_17 : decode cX9_groundCoins 17 = .ok (.ireturn, 1) := by decide +kernel
theorem dX9_personCount_0 : decode cX9_personCount 0 = .ok (.aload_n 0, 1) := by decide +kernel
theorem dX9_personCount_1 : decode cX9_personCount 1 = .ok (.iconst 0, 1) := by decide +kernel
theorem dX9_personCount_2 : decode cX9_personCount 2 = .ok (.putfield 1, 3) := by decide +kernel
theorem dX9_personCount_5 : decode cX9_personCount 5 = .ok (.aload_n 0, 1) := by decide +kernel
theorem dX9_personCount_6 : decode cX9_personCount 6 = .ok (.getfield 13, 3) := by decide +kernel
theorem dX9_personCount_9 : decode cX9_personCount 9 = .ok (.bipush 8, 2) := by decide +kernel
theorem dX9_personCount_11 : decode cX9_personCount 11 = .ok (.iaload, 1) := by decide +kernel
theorem dX9_personCount_12 : decode cX9_personCount 12 = .ok (.ireturn, 1) := by decide +kernel
theorem dX9_kings_0 : decode cX9_kings 0 = .ok (.iconst 0, 1) := by decide +kernel
theorem dX9_kings_1 : decode cX9_kings 1 = .ok (.istore_n 1, 1) := by decide +kernel
theorem dX9_kings_2 : decode cX9_kings 2 = .ok (.iconst 0, 1) := by decide +kernel
theorem dX9_kings_3 : decode cX9_kings 3 = .ok (.istore_n 2, 1) := by decide +kernel
theorem dX9_kings_4 : decode cX9_kings 4 = .ok (.iload_n 2, 1) := by decide +kernel
theorem dX9_kings_5 : decode cX9_kings 5 = .ok (.aload_n 0, 1) := by decide +kernel
theorem dX9_kings_6 : decode cX9_kings 6 = .ok (.getfield 13, 3) := by decide +kernel
theorem dX9_kings_9 : decode cX9_kings 9 = .ok (.bipush 8, 2) := by decide +kernel
theorem dX9_kings_11 : decode cX9_kings 11 = .ok (.iaload, 1) := by decide +kernel
theorem dX9_kings_12 : decode cX9_kings 12 = .ok (.if_icmp .ge 18, 3) := by decide +kernel
theorem dX9_kings_15 : decode cX9_kings 15 = .ok (.iload_n 1, 1) := by decide +kernel
theorem dX9_kings_16 : decode cX9_kings 16 = .ok (.aload_n 0, 1) := by decide +kernel
theorem dX9_kings_17 : decode cX9_kings 17 = .ok (.iload_n 2, 1) := by decide +kernel
theorem dX9_kings_18 : decode cX9_kings 18 = .ok (.iconst 0, 1) := by decide +kernel
theorem dX9_kings_19 : decode cX9_kings 19 = .ok (.invokevirtual 60, 3) := by decide +kernel
theorem dX9_kings_22 : decode cX9_kings 22 = .ok (.iadd, 1) := by decide +kernel
theorem dX9_kings_23 : decode cX9_kings 23 = .ok (.istore_n 1, 1) := by decide +kernel
theorem dX9_kings_24 : decode cX9_kings 24 = .ok (.iinc 2 1, 3) := by decide +kernel
theorem dX9_kings_27 : decode cX9_kings 27 = .ok (.goto (-23), 3) := by decide +kernel
theorem dX9_kings_30 : decode cX9_kings 30 = .ok (.iload_n 1, 1) := by decide +kernel
theorem dX9_kings_31 : decode cX9_kings 31 = .ok (.ireturn, 1) := by decide +kernel
theorem dX9_kingCount_0 : decode cX9_kingCount 0 = .ok (.aload_n 0, 1) := by decide +kernel
theorem dX9_kingCount_1 : decode cX9_kingCount 1 = .ok (.iconst 0, 1) := by decide +kernel
theorem dX9_kingCount_2 : decode cX9_kingCount 2 = .ok (.putfield 1, 3) := by decide +kernel
theorem dX9_kingCount_5 : decode cX9_kingCount 5 = .ok (.aload_n 0, 1) := by decide +kernel
theorem dX9_kingCount_6 : decode cX9_kingCount 6 = .ok (.invokevirtual 260, 3) := by decide +kernel
theorem dX9_kingCount_9 : decode cX9_kingCount 9 = .ok (.ireturn, 1) := by decide +kernel
theorem dX9_bankCount_0 : decode cX9_bankCount 0 = .ok (.aload_n 0, 1) := by decide +kernel
theorem dX9_bankCount_1 : decode cX9_bankCount 1 = .ok (.iconst 0, 1) := by decide +kernel
theorem dX9_bankCount_2 : decode cX9_bankCount 2 = .ok (.putfield 1, 3) := by decide +kernel
theorem dX9_bankCount_5 : decode cX9_bankCount 5 = .ok (.iconst 0, 1) := by decide +kernel
theorem dX9_bankCount_6 : decode cX9_bankCount 6 = .ok (.istore_n 2, 1) := by decide +kernel
theorem dX9_bankCount_7 : decode cX9_bankCount 7 = .ok (.iconst 0, 1) := by decide +kernel
theorem dX9_bankCount_8 : decode cX9_bankCount 8 = .ok (.istore_n 3, 1) := by decide +kernel
theorem dX9_bankCount_9 : decode cX9_bankCount 9 = .ok (.iload_n 3, 1) := by decide +kernel
theorem dX9_bankCount_10 : decode cX9_bankCount 10 = .ok (.aload_n 0, 1) := by decide +kernel
theorem dX9_bankCount_11 : decode cX9_bankCount 11 = .ok (.getfield 13, 3) := by decide +kernel
theorem dX9_bankCount_14 : decode cX9_bankCount 14 = .ok (.bipush 8, 2) := by decide +kernel
theorem dX9_bankCount_16 : decode cX9_bankCount 16 = .ok (.iaload, 1) := by decide +kernel
theorem dX9_bankCount_17 : decode cX9_bankCount 17 = .ok (.if_icmp .ge 33, 3) := by decide +kernel
theorem dX9_bankCount_20 : decode cX9_bankCount 20 = .ok (.iload_n 2, 1) := by decide +kernel
theorem dX9_bankCount_21 : decode cX9_bankCount 21 = .ok (.aload_n 0, 1) := by decide +kernel
theorem dX9_bankCount_22 : decode cX9_bankCount 22 = .ok (.iload_n 3, 1) := by decide +kernel
theorem dX9_bankCount_23 : decode cX9_bankCount 23 = .ok (.iconst 1, 1) := by decide +kernel
theorem dX9_bankCount_24 : decode cX9_bankCount 24 = .ok (.invokevirtual 60, 3) := by decide +kernel
theorem dX9_bankCount_27 : decode cX9_bankCount 27 = .ok (.iload_n 1, 1) := by decide +kernel
theorem dX9_bankCount_28 : decode cX9_bankCount 28 = .ok (.invokestatic 85, 3) := by decide +kernel
theorem dX9_bankCount_31 : decode cX9_bankCount 31 = .ok (.if_icmp .ne 7, 3) := by decide +kernel
theorem dX9_bankCount_34 : decode cX9_bankCount 34 = .ok (.iconst 1, 1) := by decide +kernel
theorem dX9_bankCount_35 : decode cX9_bankCount 35 = .ok (.goto 4, 3) := by decide +kernel
theorem dX9_bankCount_38 : decode cX9_bankCount 38 = .ok (.iconst 0, 1) := by decide +kernel
theorem dX9_bankCount_39 : decode cX9_bankCount 39 = .ok (.invokestatic 85, 3) := by decide +kernel
theorem dX9_bankCount_42 : decode cX9_bankCount 42 = .ok (.iadd, 1) := by decide +kernel
theorem dX9_bankCount_43 : decode cX9_bankCount 43 = .ok (.istore_n 2, 1) := by decide +kernel
theorem dX9_bankCount_44 : decode cX9_bankCount 44 = .ok (.iinc 3 1, 3) := by decide +kernel
theorem dX9_bankCount_47 : decode cX9_bankCount 47 = .ok (.goto (-38), 3) := by decide +kernel
theorem dX9_bankCount_50 : decode cX9_bankCount 50 = .ok (.iload_n 2, 1) := by decide +kernel
theorem dX9_bankCount_51 : decode cX9_bankCount 51 = .ok (.ireturn, 1) := by decide +kernel
theorem dX9_noOne_0 : decode cX9_noOne 0 = .ok (.aload_n 0, 1) := by decide +kernel
theorem dX9_noOne_1 : decode cX9_noOne 1 = .ok (.iload_n 1, 1) := by decide +kernel
theorem dX9_noOne_2 : decode cX9_noOne 2 = .ok (.iconst 0, 1) := by decide +kernel
theorem dX9_noOne_3 : decode cX9_noOne 3 = .ok (.aload_n 0, 1) := by decide +kernel
theorem dX9_noOne_4 : decode cX9_noOne 4 = .ok (.getfield 13, 3) := by decide +kernel
theorem dX9_noOne_7 : decode cX9_noOne 7 = .ok (.bipush 8, 2) := by decide +kernel
theorem dX9_noOne_9 : decode cX9_noOne 9 = .ok (.iaload, 1) := by decide +kernel
theorem dX9_noOne_10 : decode cX9_noOne 10 = .ok (.iconst 1, 1) := by decide +kernel
theorem dX9_noOne_11 : decode cX9_noOne 11 = .ok (.isub, 1) := by decide +kernel
theorem dX9_noOne_12 : decode cX9_noOne 12 = .ok (.invokestatic 200, 3) := by decide +kernel
theorem dX9_noOne_15 : decode cX9_noOne 15 = .ok (.iconst 1, 1) := by decide +kernel
theorem dX9_noOne_16 : decode cX9_noOne 16 = .ok (.invokevirtual 239, 3) := by decide +kernel
theorem dX9_noOne_19 : decode cX9_noOne 19 = .ok (.ireturn, 1) := by decide +kernel
theorem dX9_isKing_0 : decode cX9_isKing 0 = .ok (.aload_n 0, 1) := by decide +kernel
theorem dX9_isKing_1 : decode cX9_isKing 1 = .ok (.iconst 0, 1) := by decide +kernel
theorem dX9_isKing_2 : decode cX9_isKing 2 = .ok (.putfield 1, 3) := by decide +kernel
theorem dX9_isKing_5 : decode cX9_isKing 5 = .ok (.aload_n 0, 1) := by decide +kernel
theorem dX9_isKing_6 : decode cX9_isKing 6 = .ok (.iload_n 1, 1) := by decide +kernel
theorem dX9_isKing_7 : decode cX9_isKing 7 = .ok (.invokevirtual 263, 3) := by decide +kernel
theorem dX9_isKing_10 : decode cX9_isKing 10 = .ok (.ifCond .ne 15, 3) := by decide +kernel
theorem dX9_isKing_13 : decode cX9_isKing 13 = .ok (.aload_n 0, 1) := by decide +kernel
theorem dX9_isKing_14 : decode cX9_isKing 14 = .ok (.iload_n 1, 1) := by decide +kernel
theorem dX9_isKing_15 : decode cX9_isKing 15 = .ok (.invokevirtual 64, 3) := by decide +kernel
theorem dX9_isKing_18 : decode cX9_isKing 18 = .ok (.ifCond .eq 7, 3) := by decide +kernel
theorem dX9_isKing_21 : decode cX9_isKing 21 = .ok (.iconst 1, 1) := by decide +kernel
theorem dX9_isKing_22 : decode cX9_isKing 22 = .ok (.goto 4, 3) := by decide +kernel
theorem dX9_isKing_25 : decode cX9_isKing 25 = .ok (.iconst 0, 1) := by decide +kernel
theorem dX9_isKing_26 : decode cX9_isKing 26 = .ok (.ireturn, 1) := by decide +kernel
theorem dX9_isEast_0 : decode cX9_isEast 0 = .ok (.aload_n 0, 1) := by decide +kernel
theorem dX9_isEast_1 : decode cX9_isEast 1 = .ok (.iconst 0, 1) := by decide +kernel
theorem dX9_isEast_2 : decode cX9_isEast 2 = .ok (.putfield 1, 3) := by decide +kernel
theorem dX9_isEast_5 : decode cX9_isEast 5 = .ok (.aload_n 0, 1) := by decide +kernel
theorem dX9_isEast_6 : decode cX9_isEast 6 = .ok (.iload_n 1, 1) := by decide +kernel
theorem dX9_isEast_7 : decode cX9_isEast 7 = .ok (.invokevirtual 263, 3) := by decide +kernel
theorem dX9_isEast_10 : decode cX9_isEast 10 = .ok (.ifCond .ne 17, 3) := by decide +kernel
theorem dX9_isEast_13 : decode cX9_isEast 13 = .ok (.aload_n 0, 1) := by decide +kernel
theorem dX9_isEast_14 : decode cX9_isEast 14 = .ok (.iload_n 1, 1) := by decide +kernel
theorem dX9_isEast_15 : decode cX9_isEast 15 = .ok (.iconst 1, 1) := by decide +kernel
theorem dX9_isEast_16 : decode cX9_isEast 16 = .ok (.invokevirtual 60, 3) := by decide +kernel
theorem dX9_isEast_19 : decode cX9_isEast 19 = .ok (.iconst 1, 1) := by decide +kernel
theorem dX9_isEast_20 : decode cX9_isEast 20 = .ok (.if_icmp .ne 7, 3) := by decide +kernel
theorem dX9_isEast_23 : decode cX9_isEast 23 = .ok (.iconst 1, 1) := by decide +kernel
theorem dX9_isEast_24 : decode cX9_isEast 24 = .ok (.goto 4, 3) := by decide +kernel
theorem dX9_isEast_27 : decode cX9_isEast 27 = .ok (.iconst 0, 1) := by decide +kernel
theorem dX9_isEast_28 : decode cX9_isEast 28 = .ok (.ireturn, 1) := by decide +kernel
theorem dX9_asked_0 : decode cX9_asked 0 = .ok (.aload_n 0, 1) := by decide +kernel
theorem dX9_asked_1 : decode cX9_asked 1 = .ok (.iconst 0, 1) := by decide +kernel
theorem dX9_asked_2 : decode cX9_asked 2 = .ok (.putfield 1, 3) := by decide +kernel
theorem dX9_asked_5 : decode cX9_asked 5 = .ok (.aload_n 0, 1) := by decide +kernel
theorem dX9_asked_6 : decode cX9_asked 6 = .ok (.iload_n 1, 1) := by decide +kernel
theorem dX9_asked_7 : decode cX9_asked 7 = .ok (.invokevirtual 263, 3) := by decide +kernel
theorem dX9_asked_10 : decode cX9_asked 10 = .ok (.ifCond .eq 7, 3) := by decide +kernel
theorem dX9_asked_13 : decode cX9_asked 13 = .ok (.iconst 0, 1) := by decide +kernel
theorem dX9_asked_14 : decode cX9_asked 14 = .ok (.goto 9, 3) := by decide +kernel
theorem dX9_asked_17 : decode cX9_asked 17 = .ok (.aload_n 0, 1) := by decide +kernel
theorem dX9_asked_18 : decode cX9_asked 18 = .ok (.iload_n 1, 1) := by decide +kernel
theorem dX9_asked_19 : decode cX9_asked 19 = .ok (.iload_n 2, 1) := by decide +kernel
theorem dX9_asked_20 : decode cX9_asked 20 = .ok (.invokevirtual 60, 3) := by decide +kernel
theorem dX9_asked_23 : decode cX9_asked 23 = .ok (.ireturn, 1) := by decide +kernel
theorem dX9_coins_0 : decode cX9_coins 0 = .ok (.aload_n 0, 1) := by decide +kernel
theorem dX9_coins_1 : decode cX9_coins 1 = .ok (.iload_n 1, 1) := by decide +kernel
theorem dX9_coins_2 : decode cX9_coins 2 = .ok (.iconst 2, 1) := by decide +kernel
theorem dX9_coins_3 : decode cX9_coins 3 = .ok (.invokevirtual 266, 3) := by decide +kernel
theorem dX9_coins_6 : decode cX9_coins 6 = .ok (.ireturn, 1) := by decide +kernel
theorem dX9_pride_0 : decode cX9_pride 0 = .ok (.aload_n 0, 1) := by decide +kernel
theorem dX9_pride_1 : decode cX9_pride 1 = .ok (.iload_n 1, 1) := by decide +kernel
theorem dX9_pride_2 : decode cX9_pride 2 = .ok (.iconst 3, 1) := by decide +kernel
theorem dX9_pride_3 : decode cX9_pride 3 = .ok (.invokevirtual 266, 3) := by decide +kernel
theorem dX9_pride_6 : decode cX9_pride 6 = .ok (.ireturn, 1) := by decide +kernel
theorem dX9_rags_0 : decode cX9_rags 0 = .ok (.aload_n 0, 1) := by decide +kernel
theorem dX9_rags_1 : decode cX9_rags 1 = .ok (.iload_n 1, 1) := by decide +kernel
theorem dX9_rags_2 : decode cX9_rags 2 = .ok (.iconst 4, 1) := by decide +kernel
theorem dX9_rags_3 : decode cX9_rags 3 = .ok (.invokevirtual 266, 3) := by decide +kernel
theorem dX9_rags_6 : decode cX9_rags 6 = .ok (.ireturn, 1) := by decide +kernel
theorem dX9_rank_0 : decode cX9_rank 0 = .ok (.aload_n 0, 1) := by decide +kernel
theorem dX9_rank_1 : decode cX9_rank 1 = .ok (.iconst 0, 1) := by decide +kernel
theorem dX9_rank_2 : decode cX9_rank 2 = .ok (.putfield 1, 3) := by decide +kernel
theorem dX9_rank_5 : decode cX9_rank 5 = .ok (.aload_n 0, 1) := by decide +kernel
theorem dX9_rank_6 : decode cX9_rank 6 = .ok (.iload_n 1, 1) := by decide +kernel
theorem dX9_rank_7 : decode cX9_rank 7 = .ok (.invokevirtual 263, 3) := by decide +kernel
theorem dX9_rank_10 : decode cX9_rank 10 = .ok (.ifCond .eq 7, 3) := by decide +kernel
theorem dX9_rank_13 : decode cX9_rank 13 = .ok (.iconst 0, 1) := by decide +kernel
theorem dX9_rank_14 : decode cX9_rank 14 = .ok (.goto 12, 3) := by decide +kernel
theorem dX9_rank_17 : decode cX9_rank 17 = .ok (.aload_n 0, 1) := by decide +kernel
theorem dX9_rank_18 : decode cX9_rank 18 = .ok (.getfield 13, 3) := by decide +kernel
theorem dX9_rank_21 : decode cX9_rank 21 = .ok (.bipush 92, 2) := by decide +kernel
theorem dX9_rank_23 : decode cX9_rank 23 = .ok (.iload_n 1, 1) := by decide +kernel
theorem dX9_rank_24 : decode cX9_rank 24 = .ok (.iadd, 1) := by decide +kernel
theorem dX9_rank_25 : decode cX9_rank 25 = .ok (.iaload, 1) := by decide +kernel
theorem dX9_rank_26 : decode cX9_rank 26 = .ok (.ireturn, 1) := by decide +kernel
theorem dX9_wearer_0 : decode cX9_wearer 0 = .ok (.aload_n 0, 1) := by decide +kernel
theorem dX9_wearer_1 : decode cX9_wearer 1 = .ok (.iconst 0, 1) := by decide +kernel
theorem dX9_wearer_2 : decode cX9_wearer 2 = .ok (.putfield 1, 3) := by decide +kernel
theorem dX9_wearer_5 : decode cX9_wearer 5 = .ok (.aload_n 0, 1) := by decide +kernel
theorem dX9_wearer_6 : decode cX9_wearer 6 = .ok (.iload_n 1, 1) := by decide +kernel
theorem dX9_wearer_7 : decode cX9_wearer 7 = .ok (.invokevirtual 263, 3) := by decide +kernel
theorem dX9_wearer_10 : decode cX9_wearer 10 = .ok (.ifCond .eq 5, 3) := by decide +kernel
theorem dX9_wearer_13 : decode cX9_wearer 13 = .ok (.iconst 0, 1) := by decide +kernel
theorem dX9_wearer_14 : decode cX9_wearer 14 = .ok (.ireturn, 1) := by decide +kernel
theorem dX9_wearer_15 : decode cX9_wearer 15 = .ok (.iconst 0, 1) := by decide +kernel
theorem dX9_wearer_16 : decode cX9_wearer 16 = .ok (.istore_n 2, 1) := by decide +kernel
theorem dX9_wearer_17 : decode cX9_wearer 17 = .ok (.aload_n 0, 1) := by decide +kernel
theorem dX9_wearer_18 : decode cX9_wearer 18 = .ok (.iload_n 2, 1) := by decide +kernel
theorem dX9_wearer_19 : decode cX9_wearer 19 = .ok (.iconst 4, 1) := by decide +kernel
theorem dX9_wearer_20 : decode cX9_wearer 20 = .ok (.invokevirtual 60, 3) := by decide +kernel
theorem dX9_wearer_23 : decode cX9_wearer 23 = .ok (.iload_n 1, 1) := by decide +kernel
theorem dX9_wearer_24 : decode cX9_wearer 24 = .ok (.if_icmp .eq 9, 3) := by decide +kernel
theorem dX9_wearer_27 : decode cX9_wearer 27 = .ok (.iinc 2 1, 3) := by decide +kernel
theorem dX9_wearer_30 : decode cX9_wearer 30 = .ok (.goto (-13), 3) := by decide +kernel
theorem dX9_wearer_33 : decode cX9_wearer 33 = .ok (.iload_n 2, 1) := by decide +kernel
theorem dX9_wearer_34 : decode cX9_wearer 34 = .ok (.ireturn, 1) := by decide +kernel
theorem dX9_crossings_0 : decode cX9_crossings 0 = .ok (.aload_n 0, 1) := by decide +kernel
theorem dX9_crossings_1 : decode cX9_crossings 1 = .ok (.iload_n 1, 1) := by decide +kernel
theorem dX9_crossings_2 : decode cX9_crossings 2 = .ok (.iconst 5, 1) := by decide +kernel
theorem dX9_crossings_3 : decode cX9_crossings 3 = .ok (.invokevirtual 266, 3) := by decide +kernel
theorem dX9_crossings_6 : decode cX9_crossings 6 = .ok (.ireturn, 1) := by decide +kernel
theorem dX9_richest_0 : decode cX9_richest 0 = .ok (.aload_n 0, 1) := by decide +kernel
theorem dX9_richest_1 : decode cX9_richest 1 = .ok (.iconst 0, 1) := by decide +kernel
theorem dX9_richest_2 : decode cX9_richest 2 = .ok (.putfield 1, 3) := by decide +kernel
theorem dX9_richest_5 : decode cX9_richest 5 = .ok (.iconst 0, 1) := by decide +kernel
theorem dX9_richest_6 : decode cX9_richest 6 = .ok (.istore_n 1, 1) := by decide +kernel
theorem dX9_richest_7 : decode cX9_richest 7 = .ok (.iconst 1, 1) := by decide +kernel
theorem dX9_richest_8 : decode cX9_richest 8 = .ok (.istore_n 2, 1) := by decide +kernel
theorem dX9_richest_9 : decode cX9_richest 9 = .ok (.iload_n 2, 1) := by decide +kernel
theorem dX9_richest_10 : decode cX9_richest 10 = .ok (.aload_n 0, 1) := by decide +kernel
theorem dX9_richest_11 : decode cX9_richest 11 = .ok (.getfield 13, 3) := by decide +kernel
theorem dX9_richest_14 : decode cX9_richest 14 = .ok (.bipush 8, 2) := by decide +kernel
theorem dX9_richest_16 : decode cX9_richest 16 = .ok (.iaload, 1) := by decide +kernel
theorem dX9_richest_17 : decode cX9_richest 17 = .ok (.if_icmp .ge 26, 3) := by decide +kernel
theorem dX9_richest_20 : decode cX9_richest 20 = .ok (.aload_n 0, 1) := by decide +kernel
theorem dX9_richest_21 : decode cX9_richest 21 = .ok (.iload_n 2, 1) := by decide +kernel
theorem dX9_richest_22 : decode cX9_richest 22 = .ok (.iconst 2, 1) := by decide +kernel
theorem dX9_richest_23 : decode cX9_richest 23 = .ok (.invokevirtual 60, 3) := by decide +kernel
theorem dX9_richest_26 : decode cX9_richest 26 = .ok (.aload_n 0, 1) := by decide +kernel
theorem dX9_richest_27 : decode cX9_richest 27 = .ok (.iload_n 1, 1) := by decide +kernel
theorem dX9_richest_28 : decode cX9_richest 28 = .ok (.iconst 2, 1) := by decide +kernel
theorem dX9_richest_29 : decode cX9_richest 29 = .ok (.invokevirtual 60, 3) := by decide +kernel
theorem dX9_richest_32 : decode cX9_richest 32 = .ok (.if_icmp .le 5, 3) := by decide +kernel
theorem dX9_richest_35 : decode cX9_richest 35 = .ok (.iload_n 2, 1) := by decide +kernel
theorem dX9_richest_36 : decode cX9_richest 36 = .ok (.istore_n 1, 1) := by decide +kernel
theorem dX9_richest_37 : decode cX9_richest 37 = .ok (.iinc 2 1, 3) := by decide +kernel
theorem dX9_richest_40 : decode cX9_richest 40 = .ok (.goto (-31), 3) := by decide +kernel
theorem dX9_richest_43 : decode cX9_richest 43 = .ok (.iload_n 1, 1) := by decide +kernel
theorem dX9_richest_44 : decode cX9_richest 44 = .ok (.ireturn, 1) := by decide +kernel
theorem dX9_bowTo_0 : decode cX9_bowTo 0 = .ok (.aload_n 0, 1) := by decide +kernel
theorem dX9_bowTo_1 : decode cX9_bowTo 1 = .ok (.iconst 0, 1) := by decide +kernel
theorem dX9_bowTo_2 : decode cX9_bowTo 2 = .ok (.putfield 1, 3) := by decide +kernel
theorem dX9_bowTo_5 : decode cX9_bowTo 5 = .ok (.aload_n 0, 1) := by decide +kernel
theorem dX9_bowTo_6 : decode cX9_bowTo 6 = .ok (.iload_n 1, 1) := by decide +kernel
theorem dX9_bowTo_7 : decode cX9_bowTo 7 = .ok (.invokevirtual 263, 3) := by decide +kernel
theorem dX9_bowTo_10 : decode cX9_bowTo 10 = .ok (.ifCond .ne 29, 3) := by decide +kernel
theorem dX9_bowTo_13 : decode cX9_bowTo 13 = .ok (.aload_n 0, 1) := by decide +kernel
theorem dX9_bowTo_14 : decode cX9_bowTo 14 = .ok (.iload_n 2, 1) := by decide +kernel
theorem dX9_bowTo_15 : decode cX9_bowTo 15 = .ok (.invokevirtual 263, 3) := by decide +kernel
theorem dX9_bowTo_18 : decode cX9_bowTo 18 = .ok (.ifCond .ne 21, 3) := by decide +kernel
theorem dX9_bowTo_21 : decode cX9_bowTo 21 = .ok (.aload_n 0, 1) := by decide +kernel
theorem dX9_bowTo_22 : decode cX9_bowTo 22 = .ok (.iload_n 1, 1) := by decide +kernel
theorem dX9_bowTo_23 : decode cX9_bowTo 23 = .ok (.iload_n 2, 1) := by decide +kernel
theorem dX9_bowTo_24 : decode cX9_bowTo 24 = .ok (.if_icmp .eq 7, 3) := by decide +kernel
theorem dX9_bowTo_27 : decode cX9_bowTo 27 = .ok (.iconst 1, 1) := by decide +kernel
theorem dX9_bowTo_28 : decode cX9_bowTo 28 = .ok (.goto 4, 3) := by decide +kernel
theorem dX9_bowTo_31 : decode cX9_bowTo 31 = .ok (.iconst 0, 1) := by decide +kernel
theorem dX9_bowTo_32 : decode cX9_bowTo 32 = .ok (.iconst 2, 1) := by decide +kernel
theorem dX9_bowTo_33 : decode cX9_bowTo 33 = .ok (.invokevirtual 239, 3) := by decide +kernel
theorem dX9_bowTo_36 : decode cX9_bowTo 36 = .ok (.ifCond .eq 5, 3) := by decide +kernel
theorem dX9_bowTo_39 : decode cX9_bowTo 39 = .ok (.iconst 0, 1) := by decide +kernel
theorem dX9_bowTo_40 : decode cX9_bowTo 40 = .ok (.ireturn, 1) := by decide +kernel
theorem dX9_bowTo_41 : decode cX9_bowTo 41 = .ok (.bipush 45, 2) := by decide +kernel
theorem dX9_bowTo_43 : decode cX9_bowTo 43 = .ok (.aload_n 0, 1) := by decide +kernel
theorem dX9_bowTo_44 : decode cX9_bowTo 44 = .ok (.iload_n 2, 1) := by decide +kernel
theorem dX9_bowTo_45 : decode cX9_bowTo 45 = .ok (.invokevirtual 102, 3) := by decide +kernel
theorem dX9_bowTo_48 : decode cX9_bowTo 48 = .ok (.iadd, 1) := by decide +kernel
theorem dX9_bowTo_49 : decode cX9_bowTo 49 = .ok (.aload_n 0, 1) := by decide +kernel
theorem dX9_bowTo_50 : decode cX9_bowTo 50 = .ok (.iload_n 1, 1) := by decide +kernel
theorem dX9_bowTo_51 : decode cX9_bowTo 51 = .ok (.invokevirtual 102, 3) := by decide +kernel
theorem dX9_bowTo_54 : decode cX9_bowTo 54 = .ok (.isub, 1) := by decide +kernel
theorem dX9_bowTo_55 : decode cX9_bowTo 55 = .ok (.aload_n 0, 1) := by decide +kernel
theorem dX9_bowTo_56 : decode cX9_bowTo 56 = .ok (.iload_n 1, 1) := by decide +kernel
theorem dX9_bowTo_57 : decode cX9_bowTo 57 = .ok (.iconst 3, 1) := by decide +kernel
theorem dX9_bowTo_58 : decode cX9_bowTo 58 = .ok (.invokevirtual 60, 3) := by decide +kernel
theorem dX9_bowTo_61 : decode cX9_bowTo 61 = .ok (.isub, 1) := by decide +kernel
theorem dX9_bowTo_62 : decode cX9_bowTo 62 = .ok (.aload_n 0, 1) := by decide +kernel
theorem dX9_bowTo_63 : decode cX9_bowTo 63 = .ok (.iload_n 1, 1) := by decide +kernel
theorem dX9_bowTo_64 : decode cX9_bowTo 64 = .ok (.invokevirtual 64, 3) := by decide +kernel
theorem dX9_bowTo_67 : decode cX9_bowTo 67 = .ok (.invokestatic 68, 3) := by decide +kernel
theorem dX9_bowTo_70 : decode cX9_bowTo 70 = .ok (.ireturn, 1) := by decide +kernel
theorem dX9_bowToKeeper_0 : decode cX9_bowToKeeper 0 = .ok (.aload_n 0, 1) := by decide +kernel
theorem dX9_bowToKeeper_1 : decode cX9_bowToKeeper 1 = .ok (.iconst 0, 1) := by decide +kernel
theorem dX9_bowToKeeper_2 : decode cX9_bowToKeeper 2 = .ok (.putfield 1, 3) := by decide +kernel
theorem dX9_bowToKeeper_5 : decode cX9_bowToKeeper 5 = .ok (.aload_n 0, 1) := by decide +kernel
theorem dX9_bowToKeeper_6 : decode cX9_bowToKeeper 6 = .ok (.iload_n 1, 1) := by decide +kernel
theorem dX9_bowToKeeper_7 : decode cX9_bowToKeeper 7 = .ok (.invokevirtual 263, 3) := by decide +kernel
theorem dX9_bowToKeeper_10 : decode cX9_bowToKeeper 10 = .ok (.ifCond .eq 7, 3) := by decide +kernel
theorem dX9_bowToKeeper_13 : decode cX9_bowToKeeper 13 = .ok (.iconst 0, 1) := by decide +kernel
theorem dX9_bowToKeeper_14 : decode cX9_bowToKeeper 14 = .ok (.goto 13, 3) := by decide +kernel
theorem dX9_bowToKeeper_17 : decode cX9_bowToKeeper 17 = .ok (.aload_n 0, 1) := by decide +kernel
theorem dX9_bowToKeeper_18 : decode cX9_bowToKeeper 18 = .ok (.iload_n 1, 1) := by decide +kernel
theorem dX9_bowToKeeper_19 : decode cX9_bowToKeeper 19 = .ok (.aload_n 0, 1) := by decide +kernel
theorem dX9_bowToKeeper_20 : decode cX9_bowToKeeper 20 = .ok (.iload_n 1, 1) := by decide +kernel
theorem dX9_bowToKeeper_21 : decode cX9_bowToKeeper 21 = .ok (.invokevirtual 102, 3) := by decide +kernel
theorem dX9_bowToKeeper_24 : decode cX9_bowToKeeper 24 = .ok (.invokevirtual 72, 3) := by decide +kernel
theorem dX9_bowToKeeper_27 : decode cX9_bowToKeeper 27 = .ok (.ireturn, 1) := by decide +kernel
theorem dX9_isTakenForKing_0 : decode cX9_isTakenForKing 0 = .ok (.aload_n 0, 1) := by decide +kernel
theorem dX9_isTakenForKing_1 : decode cX9_isTakenForKing 1 = .ok (.iconst 0, 1) := by decide +kernel
theorem dX9_isTakenForKing_2 : decode cX9_isTakenForKing 2 = .ok (.putfield 1, 3) := by decide +kernel
theorem dX9_isTakenForKing_5 : decode cX9_isTakenForKing 5 = .ok (.aload_n 0, 1) := by decide +kernel
theorem dX9_isTakenForKing_6 : decode cX9_isTakenForKing 6 = .ok (.iload_n 1, 1) := by decide +kernel
theorem dX9_isTakenForKing_7 : decode cX9_isTakenForKing 7 = .ok (.invokevirtual 263, 3) := by decide +kernel
theorem dX9_isTakenForKing_10 : decode cX9_isTakenForKing 10 = .ok (.ifCond .ne 20, 3) := by decide +kernel
theorem dX9_isTakenForKing_13 : decode cX9_isTakenForKing 13 = .ok (.aload_n 0, 1) := by decide +kernel
theorem dX9_isTakenForKing_14 : decode cX9_isTakenForKing 14 = .ok (.iload_n 1, 1) := by decide +kernel
theorem dX9_isTakenForKing_15 : decode cX9_isTakenForKing 15 = .ok (.aload_n 0, 1) := by decide +kernel
theorem dX9_isTakenForKing_16 : decode cX9_isTakenForKing 16 = .ok (.iload_n 1, 1) := by decide +kernel
theorem dX9_isTakenForKing_17 : decode cX9_isTakenForKing 17 = .ok (.invokevirtual 102, 3) := by decide +kernel
theorem dX9_isTakenForKing_20 : decode cX9_isTakenForKing 20 = .ok (.invokevirtual 75, 3) := by decide +kernel
theorem dX9_isTakenForKing_23 : decode cX9_isTakenForKing 23 = .ok (.ifCond .eq 7, 3) := by decide +kernel
theorem dX9_isTakenForKing_26 : decode cX9_isTakenForKing 26 = .ok (.iconst 1, 1) := by decide +kernel
theorem dX9_isTakenForKing_27 : decode cX9_isTakenForKing 27 = .ok (.goto 4, 3) := by decide +kernel
theorem dX9_isTakenForKing_30 : decode cX9_isTakenForKing 30 = .ok (.iconst 0, 1) := by decide +kernel
theorem dX9_isTakenForKing_31 : decode cX9_isTakenForKing 31 = .ok (.ireturn, 1) := by decide +kernel
theorem dX9_tollOf_0 : decode cX9_tollOf 0 = .ok (.aload_n 0, 1) := by decide +kernel
theorem dX9_tollOf_1 : decode cX9_tollOf 1 = .ok (.iconst 0, 1) := by decide +kernel
theorem dX9_tollOf_2 : decode cX9_tollOf 2 = .ok (.putfield 1, 3) := by decide +kernel
theorem dX9_tollOf_5 : decode cX9_tollOf 5 = .ok (.aload_n 0, 1) := by decide +kernel
theorem dX9_tollOf_6 : decode cX9_tollOf 6 = .ok (.iload_n 1, 1) := by decide +kernel
theorem dX9_tollOf_7 : decode cX9_tollOf 7 = .ok (.invokevirtual 263, 3) := by decide +kernel
theorem dX9_tollOf_10 : decode cX9_tollOf 10 = .ok (.ifCond .eq 7, 3) := by decide +kernel
theorem dX9_tollOf_13 : decode cX9_tollOf 13 = .ok (.iconst 0, 1) := by decide +kernel
theorem dX9_tollOf_14 : decode cX9_tollOf 14 = .ok (.goto 13, 3) := by decide +kernel
theorem dX9_tollOf_17 : decode cX9_tollOf 17 = .ok (.aload_n 0, 1) := by decide +kernel
theorem dX9_tollOf_18 : decode cX9_tollOf 18 = .ok (.iload_n 1, 1) := by decide +kernel
theorem dX9_tollOf_19 : decode cX9_tollOf 19 = .ok (.aload_n 0, 1) := by decide +kernel
theorem dX9_tollOf_20 : decode cX9_tollOf 20 = .ok (.iload_n 1, 1) := by decide +kernel
theorem dX9_tollOf_21 : decode cX9_tollOf 21 = .ok (.invokevirtual 102, 3) := by decide +kernel
theorem dX9_tollOf_24 : decode cX9_tollOf 24 = .ok (.invokevirtual 269, 3) := by decide +kernel
theorem dX9_tollOf_27 : decode cX9_tollOf 27 = .ok (.ireturn, 1) := by decide +kernel
theorem dX9_wrongGuesses_0 : decode cX9_wrongGuesses 0 = .ok (.aload_n 0, 1) := by decide +kernel
theorem dX9_wrongGuesses_1 : decode cX9_wrongGuesses 1 = .ok (.iconst 0, 1) := by decide +kernel
theorem dX9_wrongGuesses_2 : decode cX9_wrongGuesses 2 = .ok (.putfield 1, 3) := by decide +kernel
theorem dX9_wrongGuesses_5 : decode cX9_wrongGuesses 5 = .ok (.iconst 0, 1) := by decide +kernel
theorem dX9_wrongGuesses_6 : decode cX9_wrongGuesses 6 = .ok (.istore_n 1, 1) := by decide +kernel
theorem dX9_wrongGuesses_7 : decode cX9_wrongGuesses 7 = .ok (.iconst 0, 1) := by decide +kernel
theorem dX9_wrongGuesses_8 : decode cX9_wrongGuesses 8 = .ok (.istore_n 2, 1) := by decide +kernel
theorem dX9_wrongGuesses_9 : decode cX9_wrongGuesses 9 = .ok (.iload_n 2, 1) := by decide +kernel
theorem dX9_wrongGuesses_10 : decode cX9_wrongGuesses 10 = .ok (.aload_n 0, 1) := by decide +kernel
theorem dX9_wrongGuesses_11 : decode cX9_wrongGuesses 11 = .ok (.getfield 13, 3) := by decide +kernel
theorem dX9_wrongGuesses_14 : decode cX9_wrongGuesses 14 = .ok (.bipush 8, 2) := by decide +kernel
theorem dX9_wrongGuesses_16 : decode cX9_wrongGuesses 16 = .ok (.iaload, 1) := by decide +kernel
theorem dX9_wrongGuesses_17 : decode cX9_wrongGuesses 17 = .ok (.if_icmp .ge 38, 3) := by decide +kernel
theorem dX9_wrongGuesses_20 : decode cX9_wrongGuesses 20 = .ok (.iload_n 1, 1) := by decide +kernel
theorem dX9_wrongGuesses_21 : decode cX9_wrongGuesses 21 = .ok (.aload_n 0, 1) := by decide +kernel
theorem dX9_wrongGuesses_22 : decode cX9_wrongGuesses 22 = .ok (.iload_n 2, 1) := by decide +kernel
theorem dX9_wrongGuesses_23 : decode cX9_wrongGuesses 23 = .ok (.aload_n 0, 1) := by decide +kernel
theorem dX9_wrongGuesses_24 : decode cX9_wrongGuesses 24 = .ok (.iload_n 2, 1) := by decide +kernel
theorem dX9_wrongGuesses_25 : decode cX9_wrongGuesses 25 = .ok (.invokevirtual 102, 3) := by decide +kernel
theorem dX9_wrongGuesses_28 : decode cX9_wrongGuesses 28 = .ok (.invokevirtual 75, 3) := by decide +kernel
theorem dX9_wrongGuesses_31 : decode cX9_wrongGuesses 31 = .ok (.aload_n 0, 1) := by decide +kernel
theorem dX9_wrongGuesses_32 : decode cX9_wrongGuesses 32 = .ok (.iload_n 2, 1) := by decide +kernel
theorem dX9_wrongGuesses_33 : decode cX9_wrongGuesses 33 = .ok (.invokevirtual 64, 3) := by decide +kernel
theorem dX9_wrongGuesses_36 : decode cX9_wrongGuesses 36 = .ok (.if_icmp .eq 7, 3) := by decide +kernel
theorem dX9_wrongGuesses_39 : decode cX9_wrongGuesses 39 = .ok (.iconst 1, 1) := by decide +kernel
theorem dX9_wrongGuesses_40 : decode cX9_wrongGuesses 40 = .ok (.goto 4, 3) := by decide +kernel
theorem dX9_wrongGuesses_43 : decode cX9_wrongGuesses 43 = .ok (.iconst 0, 1) := by decide +kernel
theorem dX9_wrongGuesses_44 : decode cX9_wrongGuesses 44 = .ok (.invokestatic 85, 3) := by decide +kernel
theorem dX9_wrongGuesses_47 : decode cX9_wrongGuesses 47 = .ok (.iadd, 1) := by decide +kernel
theorem dX9_wrongGuesses_48 : decode cX9_wrongGuesses 48 = .ok (.istore_n 1, 1) := by decide +kernel
theorem dX9_wrongGuesses_49 : decode cX9_wrongGuesses 49 = .ok (.iinc 2 1, 3) := by decide +kernel
theorem dX9_wrongGuesses_52 : decode cX9_wrongGuesses 52 = .ok (.goto (-43), 3) := by decide +kernel
theorem dX9_wrongGuesses_55 : decode cX9_wrongGuesses 55 = .ok (.iload_n 1, 1) := by decide +kernel
theorem dX9_wrongGuesses_56 : decode cX9_wrongGuesses 56 = .ok (.ireturn, 1) := by decide +kernel
theorem dX9_stiffest_0 : decode cX9_stiffest 0 = .ok (.aload_n 0, 1) := by decide +kernel
theorem dX9_stiffest_1 : decode cX9_stiffest 1 = .ok (.iconst 0, 1) := by decide +kernel
theorem dX9_stiffest_2 : decode cX9_stiffest 2 = .ok (.putfield 1, 3) := by decide +kernel
theorem dX9_stiffest_5 : decode cX9_stiffest 5 = .ok (.iconst 0, 1) := by decide +kernel
theorem dX9_stiffest_6 : decode cX9_stiffest 6 = .ok (.istore_n 1, 1) := by decide +kernel
theorem dX9_stiffest_7 : decode cX9_stiffest 7 = .ok (.iconst 1, 1) := by decide +kernel
theorem dX9_stiffest_8 : decode cX9_stiffest 8 = .ok (.istore_n 2, 1) := by decide +kernel
theorem dX9_stiffest_9 : decode cX9_stiffest 9 = .ok (.iload_n 2, 1) := by decide +kernel
theorem dX9_stiffest_10 : decode cX9_stiffest 10 = .ok (.aload_n 0, 1) := by decide +kernel
theorem dX9_stiffest_11 : decode cX9_stiffest 11 = .ok (.getfield 13, 3) := by decide +kernel
theorem dX9_stiffest_14 : decode cX9_stiffest 14 = .ok (.bipush 8, 2) := by decide +kernel
theorem dX9_stiffest_16 : decode cX9_stiffest 16 = .ok (.iaload, 1) := by decide +kernel
theorem dX9_stiffest_17 : decode cX9_stiffest 17 = .ok (.if_icmp .ge 34, 3) := by decide +kernel
theorem dX9_stiffest_20 : decode cX9_stiffest 20 = .ok (.aload_n 0, 1) := by decide +kernel
theorem dX9_stiffest_21 : decode cX9_stiffest 21 = .ok (.iload_n 2, 1) := by decide +kernel
theorem dX9_stiffest_22 : decode cX9_stiffest 22 = .ok (.aload_n 0, 1) := by decide +kernel
theorem dX9_stiffest_23 : decode cX9_stiffest 23 = .ok (.iload_n 2, 1) := by decide +kernel
theorem dX9_stiffest_24 : decode cX9_stiffest 24 = .ok (.invokevirtual 102, 3) := by decide +kernel
theorem dX9_stiffest_27 : decode cX9_stiffest 27 = .ok (.invokevirtual 72, 3) := by decide +kernel
theorem dX9_stiffest_30 : decode cX9_stiffest 30 = .ok (.aload_n 0, 1) := by decide +kernel
theorem dX9_stiffest_31 : decode cX9_stiffest 31 = .ok (.iload_n 1, 1) := by decide +kernel
theorem dX9_stiffest_32 : decode cX9_stiffest 32 = .ok (.aload_n 0, 1) := by decide +kernel
theorem dX9_stiffest_33 : decode cX9_stiffest 33 = .ok (.iload_n 1, 1) := by decide +kernel
theorem dX9_stiffest_34 : decode cX9_stiffest 34 = .ok (.invokevirtual 102, 3) := by decide +kernel
theorem dX9_stiffest_37 : decode cX9_stiffest 37 = .ok (.invokevirtual 72, 3) := by decide +kernel
theorem dX9_stiffest_40 : decode cX9_stiffest 40 = .ok (.if_icmp .ge 5, 3) := by decide +kernel
theorem dX9_stiffest_43 : decode cX9_stiffest 43 = .ok (.iload_n 2, 1) := by decide +kernel
theorem dX9_stiffest_44 : decode cX9_stiffest 44 = .ok (.istore_n 1, 1) := by decide +kernel
theorem dX9_stiffest_45 : decode cX9_stiffest 45 = .ok (.iinc 2 1, 3) := by decide +kernel
theorem dX9_stiffest_48 : decode cX9_stiffest 48 = .ok (.goto (-39), 3) := by decide +kernel
theorem dX9_stiffest_51 : decode cX9_stiffest 51 = .ok (.iload_n 1, 1) := by decide +kernel
theorem dX9_stiffest_52 : decode cX9_stiffest 52 = .ok (.ireturn, 1) := by decide +kernel
theorem dX9_cheapestRags_0 : decode cX9_cheapestRags 0 = .ok (.aload_n 0, 1) := by decide +kernel
theorem dX9_cheapestRags_1 : decode cX9_cheapestRags 1 = .ok (.iconst 0, 1) := by decide +kernel
theorem dX9_cheapestRags_2 : decode cX9_cheapestRags 2 = .ok (.putfield 1, 3) := by decide +kernel
theorem dX9_cheapestRags_5 : decode cX9_cheapestRags 5 = .ok (.aload_n 0, 1) := by decide +kernel
theorem dX9_cheapestRags_6 : decode cX9_cheapestRags 6 = .ok (.iload_n 1, 1) := by decide +kernel
theorem dX9_cheapestRags_7 : decode cX9_cheapestRags 7 = .ok (.invokevirtual 263, 3) := by decide +kernel
theorem dX9_cheapestRags_10 : decode cX9_cheapestRags 10 = .ok (.ifCond .eq 5, 3) := by decide +kernel
theorem dX9_cheapestRags_13 : decode cX9_cheapestRags 13 = .ok (.iconst 0, 1) := by decide +kernel
theorem dX9_cheapestRags_14 : decode cX9_cheapestRags 14 = .ok (.ireturn, 1) := by decide +kernel
theorem dX9_cheapestRags_15 : decode cX9_cheapestRags 15 = .ok (.iconst 0, 1) := by decide +kernel
theorem dX9_cheapestRags_16 : decode cX9_cheapestRags 16 = .ok (.istore_n 2, 1) := by decide +kernel
theorem dX9_cheapestRags_17 : decode cX9_cheapestRags 17 = .ok (.iconst 1, 1) := by decide +kernel
theorem dX9_cheapestRags_18 : decode cX9_cheapestRags 18 = .ok (.istore_n 3, 1) := by decide +kernel
theorem dX9_cheapestRags_19 : decode cX9_cheapestRags 19 = .ok (.iload_n 3, 1) := by decide +kernel
theorem dX9_cheapestRags_20 : decode cX9_cheapestRags 20 = .ok (.aload_n 0, 1) := by decide +kernel
theorem dX9_cheapestRags_21 : decode cX9_cheapestRags 21 = .ok (.getfield 13, 3) := by decide +kernel
theorem dX9_cheapestRags_24 : decode cX9_cheapestRags 24 = .ok (.bipush 8, 2) := by decide +kernel
theorem dX9_cheapestRags_26 : decode cX9_cheapestRags 26 = .ok (.iaload, 1) := by decide +kernel
theorem dX9_cheapestRags_27 : decode cX9_cheapestRags 27 = .ok (.if_icmp .ge 42, 3) := by decide +kernel
theorem dX9_cheapestRags_30 : decode cX9_cheapestRags 30 = .ok (.aload_n 0, 1) := by decide +kernel
theorem dX9_cheapestRags_31 : decode cX9_cheapestRags 31 = .ok (.iload_n 1, 1) := by decide +kernel
theorem dX9_cheapestRags_32 : decode cX9_cheapestRags 32 = .ok (.aload_n 0, 1) := by decide +kernel
theorem dX9_cheapestRags_33 : decode cX9_cheapestRags 33 = .ok (.getfield 13, 3) := by decide +kernel
theorem dX9_cheapestRags_36 : decode cX9_cheapestRags 36 = .ok (.bipush 92, 2) := by decide +kernel
theorem dX9_cheapestRags_38 : decode cX9_cheapestRags 38 = .ok (.iload_n 3, 1) := by decide +kernel
theorem dX9_cheapestRags_39 : decode cX9_cheapestRags 39 = .ok (.iadd, 1) := by decide +kernel
theorem dX9_cheapestRags_40 : decode cX9_cheapestRags 40 = .ok (.iaload, 1) := by decide +kernel
theorem dX9_cheapestRags_41 : decode cX9_cheapestRags 41 = .ok (.invokevirtual 269, 3) := by decide +kernel
theorem dX9_cheapestRags_44 : decode cX9_cheapestRags 44 = .ok (.aload_n 0, 1) := by decide +kernel
theorem dX9_cheapestRags_45 : decode cX9_cheapestRags 45 = .ok (.iload_n 1, 1) := by decide +kernel
theorem dX9_cheapestRags_46 : decode cX9_cheapestRags 46 = .ok (.aload_n 0, 1) := by decide +kernel
theorem dX9_cheapestRags_47 : decode cX9_cheapestRags 47 = .ok (.getfield 13, 3) := by decide +kernel
theorem dX9_cheapestRags_50 : decode cX9_cheapestRags 50 = .ok (.bipush 92, 2) := by decide +kernel
theorem dX9_cheapestRags_52 : decode cX9_cheapestRags 52 = .ok (.iload_n 2, 1) := by decide +kernel
theorem dX9_cheapestRags_53 : decode cX9_cheapestRags 53 = .ok (.iadd, 1) := by decide +kernel
theorem dX9_cheapestRags_54 : decode cX9_cheapestRags 54 = .ok (.iaload, 1) := by decide +kernel
theorem dX9_cheapestRags_55 : decode cX9_cheapestRags 55 = .ok (.invokevirtual 269, 3) := by decide +kernel
theorem dX9_cheapestRags_58 : decode cX9_cheapestRags 58 = .ok (.if_icmp .ge 5, 3) := by decide +kernel
theorem dX9_cheapestRags_61 : decode cX9_cheapestRags 61 = .ok (.iload_n 3, 1) := by decide +kernel
theorem dX9_cheapestRags_62 : decode cX9_cheapestRags 62 = .ok (.istore_n 2, 1) := by decide +kernel
theorem dX9_cheapestRags_63 : decode cX9_cheapestRags 63 = .ok (.iinc 3 1, 3) := by decide +kernel
theorem dX9_cheapestRags_66 : decode cX9_cheapestRags 66 = .ok (.goto (-47), 3) := by decide +kernel
theorem dX9_cheapestRags_69 : decode cX9_cheapestRags 69 = .ok (.iload_n 2, 1) := by decide +kernel
theorem dX9_cheapestRags_70 : decode cX9_cheapestRags 70 = .ok (.ireturn, 1) := by decide +kernel
theorem dX9_meanBow_0 : decode cX9_meanBow 0 = .ok (.aload_n 0, 1) := by decide +kernel
theorem dX9_meanBow_1 : decode cX9_meanBow 1 = .ok (.iconst 0, 1) := by decide +kernel
theorem dX9_meanBow_2 : decode cX9_meanBow 2 = .ok (.putfield 1, 3) := by decide +kernel
theorem dX9_meanBow_5 : decode cX9_meanBow 5 = .ok (.iconst 0, 1) := by decide +kernel
theorem dX9_meanBow_6 : decode cX9_meanBow 6 = .ok (.istore_n 1, 1) := by decide +kernel
theorem dX9_meanBow_7 : decode cX9_meanBow 7 = .ok (.iconst 0, 1) := by decide +kernel
theorem dX9_meanBow_8 : decode cX9_meanBow 8 = .ok (.istore_n 2, 1) := by decide +kernel
theorem dX9_meanBow_9 : decode cX9_meanBow 9 = .ok (.iload_n 2, 1) := by decide +kernel
theorem dX9_meanBow_10 : decode cX9_meanBow 10 = .ok (.aload_n 0, 1) := by decide +kernel
theorem dX9_meanBow_11 : decode cX9_meanBow 11 = .ok (.getfield 13, 3) := by decide +kernel
theorem dX9_meanBow_14 : decode cX9_meanBow 14 = .ok (.bipush 8, 2) := by decide +kernel
theorem dX9_meanBow_16 : decode cX9_meanBow 16 = .ok (.iaload, 1) := by decide +kernel
theorem dX9_meanBow_17 : decode cX9_meanBow 17 = .ok (.if_icmp .ge 22, 3) := by decide +kernel
theorem dX9_meanBow_20 : decode cX9_meanBow 20 = .ok (.iload_n 1, 1) := by decide +kernel
theorem dX9_meanBow_21 : decode cX9_meanBow 21 = .ok (.aload_n 0, 1) := by decide +kernel
theorem dX9_meanBow_22 : decode cX9_meanBow 22 = .ok (.iload_n 2, 1) := by decide +kernel
theorem dX9_meanBow_23 : decode cX9_meanBow 23 = .ok (.aload_n 0, 1) := by decide +kernel
theorem dX9_meanBow_24 : decode cX9_meanBow 24 = .ok (.iload_n 2, 1) := by decide +kernel
theorem dX9_meanBow_25 : decode cX9_meanBow 25 = .ok (.invokevirtual 102, 3) := by decide +kernel
theorem dX9_meanBow_28 : decode cX9_meanBow 28 = .ok (.invokevirtual 72, 3) := by decide +kernel
theorem dX9_meanBow_31 : decode cX9_meanBow 31 = .ok (.iadd, 1) := by decide +kernel
theorem dX9_meanBow_32 : decode cX9_meanBow 32 = .ok (.istore_n 1, 1) := by decide +kernel
theorem dX9_meanBow_33 : decode cX9_meanBow 33 = .ok (.iinc 2 1, 3) := by decide +kernel
theorem dX9_meanBow_36 : decode cX9_meanBow 36 = .ok (.goto (-27), 3) := by decide +kernel
theorem dX9_meanBow_39 : decode cX9_meanBow 39 = .ok (.iload_n 1, 1) := by decide +kernel
theorem dX9_meanBow_40 : decode cX9_meanBow 40 = .ok (.i2d, 1) := by decide +kernel
theorem dX9_meanBow_41 : decode cX9_meanBow 41 = .ok (.aload_n 0, 1) := by decide +kernel
theorem dX9_meanBow_42 : decode cX9_meanBow 42 = .ok (.getfield 13, 3) := by decide +kernel
theorem dX9_meanBow_45 : decode cX9_meanBow 45 = .ok (.bipush 8, 2) := by decide +kernel
theorem dX9_meanBow_47 : decode cX9_meanBow 47 = .ok (.iaload, 1) := by decide +kernel
theorem dX9_meanBow_48 : decode cX9_meanBow 48 = .ok (.i2d, 1) := by decide +kernel
theorem dX9_meanBow_49 : decode cX9_meanBow 49 = .ok (.ddiv, 1) := by decide +kernel
theorem dX9_meanBow_50 : decode cX9_meanBow 50 = .ok (.dreturn, 1) := by decide +kernel
theorem dX9_noKing_0 : decode cX9_noKing 0 = .ok (.aload_n 0, 1) := by decide +kernel
theorem dX9_noKing_1 : decode cX9_noKing 1 = .ok (.iload_n 1, 1) := by decide +kernel
theorem dX9_noKing_2 : decode cX9_noKing 2 = .ok (.invokevirtual 263, 3) := by decide +kernel
theorem dX9_noKing_5 : decode cX9_noKing 5 = .ok (.ifCond .ne 16, 3) := by decide +kernel
theorem dX9_noKing_8 : decode cX9_noKing 8 = .ok (.aload_n 0, 1) := by decide +kernel
theorem dX9_noKing_9 : decode cX9_noKing 9 = .ok (.aload_n 0, 1) := by decide +kernel
theorem dX9_noKing_10 : decode cX9_noKing 10 = .ok (.iload_n 1, 1) := by decide +kernel
theorem dX9_noKing_11 : decode cX9_noKing 11 = .ok (.invokevirtual 64, 3) := by decide +kernel
theorem dX9_noKing_14 : decode cX9_noKing 14 = .ok (.iconst 2, 1) := by decide +kernel
theorem dX9_noKing_15 : decode cX9_noKing 15 = .ok (.invokevirtual 239, 3) := by decide +kernel
theorem dX9_noKing_18 : decode cX9_noKing 18 = .ok (.ifCond .eq 7, 3) := by decide +kernel
theorem dX9_noKing_21 : decode cX9_noKing 21 = .ok (.iconst 1, 1) := by decide +kernel
theorem dX9_noKing_22 : decode cX9_noKing 22 = .ok (.goto 4, 3) := by decide +kernel
theorem dX9_noKing_25 : decode cX9_noKing 25 = .ok (.iconst 0, 1) := by decide +kernel
theorem dX9_noKing_26 : decode cX9_noKing 26 = .ok (.ireturn, 1) := by decide +kernel
theorem dX9_royalHolder_0 : decode cX9_royalHolder 0 = .ok (.aload_n 0, 1) := by decide +kernel
theorem dX9_royalHolder_1 : decode cX9_royalHolder 1 = .ok (.iconst 0, 1) := by decide +kernel
theorem dX9_royalHolder_2 : decode cX9_royalHolder 2 = .ok (.putfield 1, 3) := by decide +kernel
theorem dX9_royalHolder_5 : decode cX9_royalHolder 5 = .ok (.aload_n 0, 1) := by decide +kernel
theorem dX9_royalHolder_6 : decode cX9_royalHolder 6 = .ok (.iload_n 1, 1) := by decide +kernel
theorem dX9_royalHolder_7 : decode cX9_royalHolder 7 = .ok (.invokevirtual 272, 3) := by decide +kernel
theorem dX9_royalHolder_10 : decode cX9_royalHolder 10 = .ok (.ifCond .eq 7, 3) := by decide +kernel
theorem dX9_royalHolder_13 : decode cX9_royalHolder 13 = .ok (.iconst 0, 1) := by decide +kernel
theorem dX9_royalHolder_14 : decode cX9_royalHolder 14 = .ok (.goto 9, 3) := by decide +kernel
theorem dX9_royalHolder_17 : decode cX9_royalHolder 17 = .ok (.aload_n 0, 1) := by decide +kernel
theorem dX9_royalHolder_18 : decode cX9_royalHolder 18 = .ok (.iload_n 1, 1) := by decide +kernel
theorem dX9_royalHolder_19 : decode cX9_royalHolder 19 = .ok (.iconst 0, 1) := by decide +kernel
theorem dX9_royalHolder_20 : decode cX9_royalHolder 20 = .ok (.invokevirtual 95, 3) := by decide +kernel
theorem dX9_royalHolder_23 : decode cX9_royalHolder 23 = .ok (.ireturn, 1) := by decide +kernel
theorem dX9_isRoyalCoinEast_0 : decode cX9_isRoyalCoinEast 0 = .ok (.aload_n 0, 1) := by decide +kernel
theorem dX9_isRoyalCoinEast_1 : decode cX9_isRoyalCoinEast 1 = .ok (.iconst 0, 1) := by decide +kernel
theorem dX9_isRoyalCoinEast_2 : decode cX9_isRoyalCoinEast 2 = .ok (.putfield 1, 3) := by decide +kernel
theorem dX9_isRoyalCoinEast_5 : decode cX9_isRoyalCoinEast 5 = .ok (.aload_n 0, 1) := by decide +kernel
theorem dX9_isRoyalCoinEast_6 : decode cX9_isRoyalCoinEast 6 = .ok (.iload_n 1, 1) := by decide +kernel
theorem dX9_isRoyalCoinEast_7 : decode cX9_isRoyalCoinEast 7 = .ok (.invokevirtual 272, 3) := by decide +kernel
theorem dX9_isRoyalCoinEast_10 : decode cX9_isRoyalCoinEast 10 = .ok (.ifCond .eq 5, 3) := by decide +kernel
theorem dX9_isRoyalCoinEast_13 : decode cX9_isRoyalCoinEast 13 = .ok (.iconst 0, 1) := by decide +kernel
theorem dX9_isRoyalCoinEast_14 : decode cX9_isRoyalCoinEast 14 = .ok (.ireturn, 1) := by decide +kernel
theorem dX9_isRoyalCoinEast_15 : decode cX9_isRoyalCoinEast 15 = .ok (.aload_n 0, 1) := by decide +kernel
theorem dX9_isRoyalCoinEast_16 : decode cX9_isRoyalCoinEast 16 = .ok (.iload_n 1, 1) := by decide +kernel
theorem dX9_isRoyalCoinEast_17 : decode cX9_isRoyalCoinEast 17 = .ok (.iconst 0, 1) := by decide +kernel
theorem dX9_isRoyalCoinEast_18 : decode cX9_isRoyalCoinEast 18 = .ok (.invokevirtual 95, 3) := by decide +kernel
theorem dX9_isRoyalCoinEast_21 : decode cX9_isRoyalCoinEast 21 = .ok (.istore_n 2, 1) := by decide +kernel
theorem dX9_isRoyalCoinEast_22 : decode cX9_isRoyalCoinEast 22 = .ok (.iload_n 2, 1) := by decide +kernel
theorem dX9_isRoyalCoinEast_23 : decode cX9_isRoyalCoinEast 23 = .ok (.iconst (-1), 1) := by decide +kernel
theorem dX9_isRoyalCoinEast_24 : decode cX9_isRoyalCoinEast 24 = .ok (.if_icmp .ne 12, 3) := by decide +kernel
theorem dX9_isRoyalCoinEast_27 : decode cX9_isRoyalCoinEast 27 = .ok (.aload_n 0, 1) := by decide +kernel
theorem dX9_isRoyalCoinEast_28 : decode cX9_isRoyalCoinEast 28 = .ok (.iload_n 1, 1) := by decide +kernel
theorem dX9_isRoyalCoinEast_29 : decode cX9_isRoyalCoinEast 29 = .ok (.iconst 1, 1) := by decide +kernel
theorem dX9_isRoyalCoinEast_30 : decode cX9_isRoyalCoinEast 30 = .ok (.invokevirtual 95, 3) := by decide +kernel
theorem dX9_isRoyalCoinEast_33 : decode cX9_isRoyalCoinEast 33 = .ok (.goto 9, 3) := by decide +kernel
theorem dX9_isRoyalCoinEast_36 : decode cX9_isRoyalCoinEast 36 = .ok (.aload_n 0, 1) := by decide +kernel
theorem dX9_isRoyalCoinEast_37 : decode cX9_isRoyalCoinEast 37 = .ok (.iload_n 2, 1) := by decide +kernel
theorem dX9_isRoyalCoinEast_38 : decode cX9_isRoyalCoinEast 38 = .ok (.iconst 1, 1) := by decide +kernel
theorem dX9_isRoyalCoinEast_39 : decode cX9_isRoyalCoinEast 39 = .ok (.invokevirtual 60, 3) := by decide +kernel
theorem dX9_isRoyalCoinEast_42 : decode cX9_isRoyalCoinEast 42 = .ok (.iconst 1, 1) := by decide +kernel
theorem dX9_isRoyalCoinEast_43 : decode cX9_isRoyalCoinEast 43 = .ok (.if_icmp .ne 7, 3) := by decide +kernel
theorem dX9_isRoyalCoinEast_46 : decode cX9_isRoyalCoinEast 46 = .ok (.iconst 1, 1) := by decide +kernel
theorem dX9_isRoyalCoinEast_47 : decode cX9_isRoyalCoinEast 47 = .ok (.goto 4, 3) := by decide +kernel
theorem dX9_isRoyalCoinEast_50 : decode cX9_isRoyalCoinEast 50 = .ok (.iconst 0, 1) := by decide +kernel
theorem dX9_isRoyalCoinEast_51 : decode cX9_isRoyalCoinEast 51 = .ok (.ireturn, 1) := by decide +kernel
theorem dX9_isCounted_0 : decode cX9_isCounted 0 = .ok (.aload_n 0, 1) := by decide +kernel
theorem dX9_isCounted_1 : decode cX9_isCounted 1 = .ok (.iconst 0, 1) := by decide +kernel
theorem dX9_isCounted_2 : decode cX9_isCounted 2 = .ok (.putfield 1, 3) := by decide +kernel
theorem dX9_isCounted_5 : decode cX9_isCounted 5 = .ok (.aload_n 0, 1) := by decide +kernel
theorem dX9_isCounted_6 : decode cX9_isCounted 6 = .ok (.iload_n 1, 1) := by decide +kernel
theorem dX9_isCounted_7 : decode cX9_isCounted 7 = .ok (.invokevirtual 272, 3) := by decide +kernel
theorem dX9_isCounted_10 : decode cX9_isCounted 10 = .ok (.ifCond .ne 17, 3) := by decide +kernel
theorem dX9_isCounted_13 : decode cX9_isCounted 13 = .ok (.aload_n 0, 1) := by decide +kernel
theorem dX9_isCounted_14 : decode cX9_isCounted 14 = .ok (.iload_n 1, 1) := by decide +kernel
theorem dX9_isCounted_15 : decode cX9_isCounted 15 = .ok (.iconst 2, 1) := by decide +kernel
theorem dX9_isCounted_16 : decode cX9_isCounted 16 = .ok (.invokevirtual 95, 3) := by decide +kernel
theorem dX9_isCounted_19 : decode cX9_isCounted 19 = .ok (.iconst 1, 1) := by decide +kernel
theorem dX9_isCounted_20 : decode cX9_isCounted 20 = .ok (.if_icmp .ne 7, 3) := by decide +kernel
theorem dX9_isCounted_23 : decode cX9_isCounted 23 = .ok (.iconst 1, 1) := by decide +kernel
theorem dX9_isCounted_24 : decode cX9_isCounted 24 = .ok (.goto 4, 3) := by decide +kernel
theorem dX9_isCounted_27 : decode cX9_isCounted 27 = .ok (.iconst 0, 1) := by decide +kernel
theorem dX9_isCounted_28 : decode cX9_isCounted 28 = .ok (.ireturn, 1) := by decide +kernel
theorem dX9_royalCoins_0 : decode cX9_royalCoins 0 = .ok (.aload_n 0, 1) := by decide +kernel
theorem dX9_royalCoins_1 : decode cX9_royalCoins 1 = .ok (.iconst 0, 1) := by decide +kernel
theorem dX9_royalCoins_2 : decode cX9_royalCoins 2 = .ok (.putfield 1, 3) := by decide +kernel
theorem dX9_royalCoins_5 : decode cX9_royalCoins 5 = .ok (.aload_n 0, 1) := by decide +kernel
theorem dX9_royalCoins_6 : decode cX9_royalCoins 6 = .ok (.iload_n 1, 1) := by decide +kernel
theorem dX9_royalCoins_7 : decode cX9_royalCoins 7 = .ok (.invokevirtual 263, 3) := by decide +kernel
theorem dX9_royalCoins_10 : decode cX9_royalCoins 10 = .ok (.ifCond .eq 7, 3) := by decide +kernel
theorem dX9_royalCoins_13 : decode cX9_royalCoins 13 = .ok (.iconst 0, 1) := by decide +kernel
theorem dX9_royalCoins_14 : decode cX9_royalCoins 14 = .ok (.goto 8, 3) := by decide +kernel
theorem dX9_royalCoins_17 : decode cX9_royalCoins 17 = .ok (.aload_n 0, 1) := by decide +kernel
theorem dX9_royalCoins_18 : decode cX9_royalCoins 18 = .ok (.iload_n 1, 1) := by decide +kernel
theorem dX9_royalCoins_19 : decode cX9_royalCoins 19 = .ok (.invokevirtual 130, 3) := by decide +kernel
theorem dX9_royalCoins_22 : decode cX9_royalCoins 22 = .ok (.ireturn, 1) := by decide +kernel
theorem dX9_counted_0 : decode cX9_counted 0 = .ok (.iconst 0, 1) := by decide +kernel
theorem dX9_counted_1 : decode cX9_counted 1 = .ok (.istore_n 1, 1) := by decide +kernel
theorem dX9_counted_2 : decode cX9_counted 2 = .ok (.iconst 0, 1) := by decide +kernel
theorem dX9_counted_3 : decode cX9_counted 3 = .ok (.istore_n 2, 1) := by decide +kernel
theorem dX9_counted_4 : decode cX9_counted 4 = .ok (.iload_n 2, 1) := by decide +kernel
theorem dX9_counted_5 : decode cX9_counted 5 = .ok (.aload_n 0, 1) := by decide +kernel
theorem dX9_counted_6 : decode cX9_counted 6 = .ok (.getfield 13, 3) := by decide +kernel
theorem dX9_counted_9 : decode cX9_counted 9 = .ok (.bipush 8, 2) := by decide +kernel
theorem dX9_counted_11 : decode cX9_counted 11 = .ok (.iaload, 1) := by decide +kernel
theorem dX9_counted_12 : decode cX9_counted 12 = .ok (.if_icmp .ge 30, 3) := by decide +kernel
theorem dX9_counted_15 : decode cX9_counted 15 = .ok (.iload_n 1, 1) := by decide +kernel
theorem dX9_counted_16 : decode cX9_counted 16 = .ok (.aload_n 0, 1) := by decide +kernel
theorem dX9_counted_17 : decode cX9_counted 17 = .ok (.iload_n 2, 1) := by decide +kernel
theorem dX9_counted_18 : decode cX9_counted 18 = .ok (.invokevirtual 64, 3) := by decide +kernel
theorem dX9_counted_21 : decode cX9_counted 21 = .ok (.ifCond .eq 12, 3) := by decide +kernel
theorem dX9_counted_24 : decode cX9_counted 24 = .ok (.aload_n 0, 1) := by decide +kernel
theorem dX9_counted_25 : decode cX9_counted 25 = .ok (.iload_n 2, 1) := by decide +kernel
theorem dX9_counted_26 : decode cX9_counted 26 = .ok (.iconst 2, 1) := by decide +kernel
theorem dX9_counted_27 : decode cX9_counted 27 = .ok (.invokevirtual 95, 3) := by decide +kernel
theorem dX9_counted_30 : decode cX9_counted 30 = .ok (.goto 4, 3) := by decide +kernel
theorem dX9_counted_33 : decode cX9_counted 33 = .ok (.iconst 0, 1) := by decide +kernel
theorem dX9_counted_34 : decode cX9_counted 34 = .ok (.iadd, 1) := by decide +kernel
theorem dX9_counted_35 : decode cX9_counted 35 = .ok (.istore_n 1, 1) := by decide +kernel
theorem dX9_counted_36 : decode cX9_counted 36 = .ok (.iinc 2 1, 3) := by decide +kernel
theorem dX9_counted_39 : decode cX9_counted 39 = .ok (.goto (-35), 3) := by decide +kernel
theorem dX9_counted_42 : decode cX9_counted 42 = .ok (.iload_n 1, 1) := by decide +kernel
theorem dX9_counted_43 : decode cX9_counted 43 = .ok (.ireturn, 1) := by decide +kernel
theorem dX9_countedRoyalCoins_0 : decode cX9_countedRoyalCoins 0 = .ok (.aload_n 0, 1) := by decide +kernel
theorem dX9_countedRoyalCoins_1 : decode cX9_countedRoyalCoins 1 = .ok (.iconst 0, 1) := by decide +kernel
theorem dX9_countedRoyalCoins_2 : decode cX9_countedRoyalCoins 2 = .ok (.putfield 1, 3) := by decide +kernel
theorem dX9_countedRoyalCoins_5 : decode cX9_countedRoyalCoins 5 = .ok (.aload_n 0, 1) := by decide +kernel
theorem dX9_countedRoyalCoins_6 : decode cX9_countedRoyalCoins 6 = .ok (.invokevirtual 275, 3) := by decide +kernel
theorem dX9_countedRoyalCoins_9 : decode cX9_countedRoyalCoins 9 = .ok (.ireturn, 1) := by decide +kernel
theorem dX9_countedShare_0 : decode cX9_countedShare 0 = .ok (.aload_n 0, 1) := by decide +kernel
theorem dX9_countedShare_1 : decode cX9_countedShare 1 = .ok (.iconst 0, 1) := by decide +kernel
theorem dX9_countedShare_2 : decode cX9_countedShare 2 = .ok (.putfield 1, 3) := by decide +kernel
theorem dX9_countedShare_5 : decode cX9_countedShare 5 = .ok (.aload_n 0, 1) := by decide +kernel
theorem dX9_countedShare_6 : decode cX9_countedShare 6 = .ok (.invokevirtual 260, 3) := by decide +kernel
theorem dX9_countedShare_9 : decode cX9_countedShare 9 = .ok (.ifCond .ne 7, 3) := by decide +kernel
theorem dX9_countedShare_12 : decode cX9_countedShare 12 = .ok (.fconst 0, 1) := by decide +kernel
theorem dX9_countedShare_13 : decode cX9_countedShare 13 = .ok (.goto 14, 3) := by decide +kernel
theorem dX9_countedShare_16 : decode cX9_countedShare 16 = .ok (.aload_n 0, 1) := by decide +kernel
theorem dX9_countedShare_17 : decode cX9_countedShare 17 = .ok (.invokevirtual 275, 3) := by decide +kernel
theorem dX9_countedShare_20 : decode cX9_countedShare 20 = .ok (.i2f, 1) := by decide +kernel
theorem dX9_countedShare_21 : decode cX9_countedShare 21 = .ok (.aload_n 0, 1) := by decide +kernel
theorem dX9_countedShare_22 : decode cX9_countedShare 22 = .ok (.invokevirtual 260, 3) := by decide +kernel
theorem dX9_countedShare_25 : decode cX9_countedShare 25 = .ok (.i2f, 1) := by decide +kernel
theorem dX9_countedShare_26 : decode cX9_countedShare 26 = .ok (.fdiv, 1) := by decide +kernel
theorem dX9_countedShare_27 : decode cX9_countedShare 27 = .ok (.freturn, 1) := by decide +kernel
theorem dX9_queueLength_0 : decode cX9_queueLength 0 = .ok (.aload_n 0, 1) := by decide +kernel
theorem dX9_queueLength_1 : decode cX9_queueLength 1 = .ok (.iconst 0, 1) := by decide +kernel
theorem dX9_queueLength_2 : decode cX9_queueLength 2 = .ok (.putfield 1, 3) := by decide +kernel
theorem dX9_queueLength_5 : decode cX9_queueLength 5 = .ok (.aload_n 0, 1) := by decide +kernel
theorem dX9_queueLength_6 : decode cX9_queueLength 6 = .ok (.iload_n 1, 1) := by decide +kernel
theorem dX9_queueLength_7 : decode cX9_queueLength 7 = .ok (.invokestatic 85, 3) := by decide +kernel
theorem dX9_queueLength_10 : decode cX9_queueLength 10 = .ok (.invokevirtual 278, 3) := by decide +kernel
theorem dX9_queueLength_13 : decode cX9_queueLength 13 = .ok (.ireturn, 1) := by decide +kernel
theorem dX9_queued_0 : decode cX9_queued 0 = .ok (.aload_n 0, 1) := by decide +kernel
theorem dX9_queued_1 : decode cX9_queued 1 = .ok (.iconst 0, 1) := by decide +kernel
theorem dX9_queued_2 : decode cX9_queued 2 = .ok (.putfield 1, 3) := by decide +kernel
theorem dX9_queued_5 : decode cX9_queued 5 = .ok (.aload_n 0, 1) := by decide +kernel
theorem dX9_queued_6 : decode cX9_queued 6 = .ok (.iload_n 1, 1) := by decide +kernel
theorem dX9_queued_7 : decode cX9_queued 7 = .ok (.invokestatic 85, 3) := by decide +kernel
theorem dX9_queued_10 : decode cX9_queued 10 = .ok (.iload_n 2, 1) := by decide +kernel
theorem dX9_queued_11 : decode cX9_queued 11 = .ok (.invokevirtual 118, 3) := by decide +kernel
theorem dX9_queued_14 : decode cX9_queued 14 = .ok (.ireturn, 1) := by decide +kernel
theorem dX9_offer_0 : decode cX9_offer 0 = .ok (.aload_n 0, 1) := by decide +kernel
theorem dX9_offer_1 : decode cX9_offer 1 = .ok (.iconst 0, 1) := by decide +kernel
theorem dX9_offer_2 : decode cX9_offer 2 = .ok (.putfield 1, 3) := by decide +kernel
theorem dX9_offer_5 : decode cX9_offer 5 = .ok (.aload_n 0, 1) := by decide +kernel
theorem dX9_offer_6 : decode cX9_offer 6 = .ok (.iload_n 1, 1) := by decide +kernel
theorem dX9_offer_7 : decode cX9_offer 7 = .ok (.invokevirtual 263, 3) := by decide +kernel
theorem dX9_offer_10 : decode cX9_offer 10 = .ok (.ifCond .eq 7, 3) := by decide +kernel
theorem dX9_offer_13 : decode cX9_offer 13 = .ok (.iconst 0, 1) := by decide +kernel
theorem dX9_offer_14 : decode cX9_offer 14 = .ok (.goto 12, 3) := by decide +kernel
theorem dX9_offer_17 : decode cX9_offer 17 = .ok (.aload_n 0, 1) := by decide +kernel
theorem dX9_offer_18 : decode cX9_offer 18 = .ok (.iload_n 1, 1) := by decide +kernel
theorem dX9_offer_19 : decode cX9_offer 19 = .ok (.bipush 6, 2) := by decide +kernel
theorem dX9_offer_21 : decode cX9_offer 21 = .ok (.invokevirtual 60, 3) := by decide +kernel
theorem dX9_offer_24 : decode cX9_offer 24 = .ok (.iconst 1, 1) := by decide +kernel
theorem dX9_offer_25 : decode cX9_offer 25 = .ok (.isub, 1) := by decide +kernel
theorem dX9_offer_26 : decode cX9_offer 26 = .ok (.ireturn, 1) := by decide +kernel
theorem dX9_bridgeCount_0 : decode cX9_bridgeCount 0 = .ok (.aload_n 0, 1) := by decide +kernel
theorem dX9_bridgeCount_1 : decode cX9_bridgeCount 1 = .ok (.iconst 0, 1) := by decide +kernel
theorem dX9_bridgeCount_2 : decode cX9_bridgeCount 2 = .ok (.putfield 1, 3) := by decide +kernel
theorem dX9_bridgeCount_5 : decode cX9_bridgeCount 5 = .ok (.aload_n 0, 1) := by decide +kernel
theorem dX9_bridgeCount_6 : decode cX9_bridgeCount 6 = .ok (.getfield 13, 3) := by decide +kernel
theorem dX9_bridgeCount_9 : decode cX9_bridgeCount 9 = .ok (.bipush 9, 2) := by decide +kernel
theorem dX9_bridgeCount_11 : decode cX9_bridgeCount 11 = .ok (.iaload, 1) := by decide +kernel
theorem dX9_bridgeCount_12 : decode cX9_bridgeCount 12 = .ok (.ireturn, 1) := by decide +kernel
theorem dX9_isOpen_0 : decode cX9_isOpen 0 = .ok (.aload_n 0, 1) := by decide +kernel
theorem dX9_isOpen_1 : decode cX9_isOpen 1 = .ok (.iconst 0, 1) := by decide +kernel
theorem dX9_isOpen_2 : decode cX9_isOpen 2 = .ok (.putfield 1, 3) := by decide +kernel
theorem dX9_isOpen_5 : decode cX9_isOpen 5 = .ok (.aload_n 0, 1) := by decide +kernel
theorem dX9_isOpen_6 : decode cX9_isOpen 6 = .ok (.iload_n 1, 1) := by decide +kernel
theorem dX9_isOpen_7 : decode cX9_isOpen 7 = .ok (.iconst 0, 1) := by decide +kernel
theorem dX9_isOpen_8 : decode cX9_isOpen 8 = .ok (.aload_n 0, 1) := by decide +kernel
theorem dX9_isOpen_9 : decode cX9_isOpen 9 = .ok (.getfield 13, 3) := by decide +kernel
theorem dX9_isOpen_12 : decode cX9_isOpen 12 = .ok (.bipush 9, 2) := by decide +kernel
theorem dX9_isOpen_14 : decode cX9_isOpen 14 = .ok (.iaload, 1) := by decide +kernel
theorem dX9_isOpen_15 : decode cX9_isOpen 15 = .ok (.iconst 1, 1) := by decide +kernel
theorem dX9_isOpen_16 : decode cX9_isOpen 16 = .ok (.isub, 1) := by decide +kernel
theorem dX9_isOpen_17 : decode cX9_isOpen 17 = .ok (.invokestatic 200, 3) := by decide +kernel
theorem dX9_isOpen_20 : decode cX9_isOpen 20 = .ok (.iconst 1, 1) := by decide +kernel
theorem dX9_isOpen_21 : decode cX9_isOpen 21 = .ok (.invokevirtual 239, 3) := by decide +kernel
theorem dX9_isOpen_24 : decode cX9_isOpen 24 = .ok (.ifCond .ne 15, 3) := by decide +kernel
theorem dX9_isOpen_27 : decode cX9_isOpen 27 = .ok (.aload_n 0, 1) := by decide +kernel
theorem dX9_isOpen_28 : decode cX9_isOpen 28 = .ok (.iload_n 1, 1) := by decide +kernel
theorem dX9_isOpen_29 : decode cX9_isOpen 29 = .ok (.invokevirtual 115, 3) := by decide +kernel
theorem dX9_isOpen_32 : decode cX9_isOpen 32 = .ok (.ifCond .eq 7, 3) := by decide +kernel
theorem dX9_isOpen_35 : decode cX9_isOpen 35 = .ok (.iconst 1, 1) := by decide +kernel
theorem dX9_isOpen_36 : decode cX9_isOpen 36 = .ok (.goto 4, 3) := by decide +kernel
theorem dX9_isOpen_39 : decode cX9_isOpen 39 = .ok (.iconst 0, 1) := by decide +kernel
theorem dX9_isOpen_40 : decode cX9_isOpen 40 = .ok (.ireturn, 1) := by decide +kernel
theorem dX9_roomNow_0 : decode cX9_roomNow 0 = .ok (.iconst 0, 1) := by decide +kernel
theorem dX9_roomNow_1 : decode cX9_roomNow 1 = .ok (.istore_n 1, 1) := by decide +kernel
theorem dX9_roomNow_2 : decode cX9_roomNow 2 = .ok (.iconst 0, 1) := by decide +kernel
theorem dX9_roomNow_3 : decode cX9_roomNow 3 = .ok (.istore_n 2, 1) := by decide +kernel
theorem dX9_roomNow_4 : decode cX9_roomNow 4 = .ok (.iload_n 2, 1) := by decide +kernel
theorem dX9_roomNow_5 : decode cX9_roomNow 5 = .ok (.aload_n 0, 1) := by decide +kernel
theorem dX9_roomNow_6 : decode cX9_roomNow 6 = .ok (.getfield 13, 3) := by decide +kernel
theorem dX9_roomNow_9 : decode cX9_roomNow 9 = .ok (.bipush 9, 2) := by decide +kernel
theorem dX9_roomNow_11 : decode cX9_roomNow 11 = .ok (.iaload, 1) := by decide +kernel
theorem dX9_roomNow_12 : decode cX9_roomNow 12 = .ok (.if_icmp .ge 30, 3) := by decide +kernel
theorem dX9_roomNow_15 : decode cX9_roomNow 15 = .ok (.iload_n 1, 1) := by decide +kernel
theorem dX9_roomNow_16 : decode cX9_roomNow 16 = .ok (.aload_n 0, 1) := by decide +kernel
theorem dX9_roomNow_17 : decode cX9_roomNow 17 = .ok (.iload_n 2, 1) := by decide +kernel
theorem dX9_roomNow_18 : decode cX9_roomNow 18 = .ok (.invokevirtual 115, 3) := by decide +kernel
theorem dX9_roomNow_21 : decode cX9_roomNow 21 = .ok (.ifCond .eq 12, 3) := by decide +kernel
theorem dX9_roomNow_24 : decode cX9_roomNow 24 = .ok (.aload_n 0, 1) := by decide +kernel
theorem dX9_roomNow_25 : decode cX9_roomNow 25 = .ok (.iload_n 2, 1) := by decide +kernel
theorem dX9_roomNow_26 : decode cX9_roomNow 26 = .ok (.iconst 2, 1) := by decide +kernel
theorem dX9_roomNow_27 : decode cX9_roomNow 27 = .ok (.invokevirtual 92, 3) := by decide +kernel
theorem dX9_roomNow_30 : decode cX9_roomNow 30 = .ok (.goto 4, 3) := by decide +kernel
theorem dX9_roomNow_33 : decode cX9_roomNow 33 = .ok (.iconst 0, 1) := by decide +kernel
theorem dX9_roomNow_34 : decode cX9_roomNow 34 = .ok (.iadd, 1) := by decide +kernel
theorem dX9_roomNow_35 : decode cX9_roomNow 35 = .ok (.istore_n 1, 1) := by decide +kernel
theorem dX9_roomNow_36 : decode cX9_roomNow 36 = .ok (.iinc 2 1, 3) := by decide +kernel
theorem dX9_roomNow_39 : decode cX9_roomNow 39 = .ok (.goto (-35), 3) := by decide +kernel
theorem dX9_roomNow_42 : decode cX9_roomNow 42 = .ok (.iload_n 1, 1) := by decide +kernel
theorem dX9_roomNow_43 : decode cX9_roomNow 43 = .ok (.ireturn, 1) := by decide +kernel
theorem dX9_room_0 : decode cX9_room 0 = .ok (.aload_n 0, 1) := by decide +kernel
theorem dX9_room_1 : decode cX9_room 1 = .ok (.iconst 0, 1) := by decide +kernel
theorem dX9_room_2 : decode cX9_room 2 = .ok (.putfield 1, 3) := by decide +kernel
theorem dX9_room_5 : decode cX9_room 5 = .ok (.aload_n 0, 1) := by decide +kernel
theorem dX9_room_6 : decode cX9_room 6 = .ok (.invokevirtual 281, 3) := by decide +kernel
theorem dX9_room_9 : decode cX9_room 9 = .ok (.ireturn, 1) := by decide +kernel
theorem dX9_firstPlaceOffer_0 : decode cX9_firstPlaceOffer 0 = .ok (.aload_n 0, 1) := by decide +kernel
theorem dX9_firstPlaceOffer_1 : decode cX9_firstPlaceOffer 1 = .ok (.iconst 0, 1) := by decide +kernel
theorem dX9_firstPlaceOffer_2 : decode cX9_firstPlaceOffer 2 = .ok (.putfield 1, 3) := by decide +kernel
theorem dX9_firstPlaceOffer_5 : decode cX9_firstPlaceOffer 5 = .ok (.aload_n 0, 1) := by decide +kernel
theorem dX9_firstPlaceOffer_6 : decode cX9_firstPlaceOffer 6 = .ok (.iload_n 1, 1) := by decide +kernel
theorem dX9_firstPlaceOffer_7 : decode cX9_firstPlaceOffer 7 = .ok (.invokevirtual 263, 3) := by decide +kernel
theorem dX9_firstPlaceOffer_10 : decode cX9_firstPlaceOffer 10 = .ok (.ifCond .eq 5, 3) := by decide +kernel
theorem dX9_firstPlaceOffer_13 : decode cX9_firstPlaceOffer 13 = .ok (.iconst 0, 1) := by decide +kernel
theorem dX9_firstPlaceOffer_14 : decode cX9_firstPlaceOffer 14 = .ok (.ireturn, 1) := by decide +kernel
theorem dX9_firstPlaceOffer_15 : decode cX9_firstPlaceOffer 15 = .ok (.iconst 0, 1) := by decide +kernel
theorem dX9_firstPlaceOffer_16 : decode cX9_firstPlaceOffer 16 = .ok (.istore_n 2, 1) := by decide +kernel
theorem dX9_firstPlaceOffer_17 : decode cX9_firstPlaceOffer 17 = .ok (.iconst 0, 1) := by decide +kernel
theorem dX9_firstPlaceOffer_18 : decode cX9_firstPlaceOffer 18 = .ok (.istore_n 3, 1) := by decide +kernel
theorem dX9_firstPlaceOffer_19 : decode cX9_firstPlaceOffer 19 = .ok (.iload_n 3, 1) := by decide +kernel
theorem dX9_firstPlaceOffer_20 : decode cX9_firstPlaceOffer 20 = .ok (.aload_n 0, 1) := by decide +kernel
theorem dX9_firstPlaceOffer_21 : decode cX9_firstPlaceOffer 21 = .ok (.getfield 13, 3) := by decide +kernel
theorem dX9_firstPlaceOffer_24 : decode cX9_firstPlaceOffer 24 = .ok (.bipush 8, 2) := by decide +kernel
theorem dX9_firstPlaceOffer_26 : decode cX9_firstPlaceOffer 26 = .ok (.iaload, 1) := by decide +kernel
theorem dX9_firstPlaceOffer_27 : decode cX9_firstPlaceOffer 27 = .ok (.if_icmp .ge 48, 3) := by decide +kernel
theorem dX9_firstPlaceOffer_30 : decode cX9_firstPlaceOffer 30 = .ok (.iload_n 3, 1) := by decide +kernel
theorem dX9_firstPlaceOffer_31 : decode cX9_firstPlaceOffer 31 = .ok (.iload_n 1, 1) := by decide +kernel
theorem dX9_firstPlaceOffer_32 : decode cX9_firstPlaceOffer 32 = .ok (.if_icmp .eq 37, 3) := by decide +kernel
theorem dX9_firstPlaceOffer_35 : decode cX9_firstPlaceOffer 35 = .ok (.aload_n 0, 1) := by decide +kernel
theorem dX9_firstPlaceOffer_36 : decode cX9_firstPlaceOffer 36 = .ok (.iload_n 3, 1) := by decide +kernel
theorem dX9_firstPlaceOffer_37 : decode cX9_firstPlaceOffer 37 = .ok (.iconst 1, 1) := by decide +kernel
theorem dX9_firstPlaceOffer_38 : decode cX9_firstPlaceOffer 38 = .ok (.invokevirtual 60, 3) := by decide +kernel
theorem dX9_firstPlaceOffer_41 : decode cX9_firstPlaceOffer 41 = .ok (.aload_n 0, 1) := by decide +kernel
theorem dX9_firstPlaceOffer_42 : decode cX9_firstPlaceOffer 42 = .ok (.iload_n 1, 1) := by decide +kernel
theorem dX9_firstPlaceOffer_43 : decode cX9_firstPlaceOffer 43 = .ok (.iconst 1, 1) := by decide +kernel
theorem dX9_firstPlaceOffer_44 : decode cX9_firstPlaceOffer 44 = .ok (.invokevirtual 60, 3) := by decide +kernel
theorem dX9_firstPlaceOffer_47 : decode cX9_firstPlaceOffer 47 = .ok (.if_icmp .ne 22, 3) := by decide +kernel
theorem dX9_firstPlaceOffer_50 : decode cX9_firstPlaceOffer 50 = .ok (.aload_n 0, 1) := by decide +kernel
theorem dX9_firstPlaceOffer_51 : decode cX9_firstPlaceOffer 51 = .ok (.iload_n 3, 1) := by decide +kernel
theorem dX9_firstPlaceOffer_52 : decode cX9_firstPlaceOffer 52 = .ok (.bipush 6, 2) := by decide +kernel
theorem dX9_firstPlaceOffer_54 : decode cX9_firstPlaceOffer 54 = .ok (.invokevirtual 60, 3) := by decide +kernel
theorem dX9_firstPlaceOffer_57 : decode cX9_firstPlaceOffer 57 = .ok (.iload_n 2, 1) := by decide +kernel
theorem dX9_firstPlaceOffer_58 : decode cX9_firstPlaceOffer 58 = .ok (.if_icmp .le 11, 3) := by decide +kernel
theorem dX9_firstPlaceOffer_61 : decode cX9_firstPlaceOffer 61 = .ok (.aload_n 0, 1) := by decide +kernel
theorem dX9_firstPlaceOffer_62 : decode cX9_firstPlaceOffer 62 = .ok (.iload_n 3, 1) := by decide +kernel
theorem dX9_firstPlaceOffer_63 : decode cX9_firstPlaceOffer 63 = .ok (.bipush 6, 2) := by decide +kernel
theorem dX9_firstPlaceOffer_65 : decode cX9_firstPlaceOffer 65 = .ok (.invokevirtual 60, 3) := by decide +kernel
theorem dX9_firstPlaceOffer_68 : decode cX9_firstPlaceOffer 68 = .ok (.istore_n 2, 1) := by decide +kernel
theorem dX9_firstPlaceOffer_69 : decode cX9_firstPlaceOffer 69 = .ok (.iinc 3 1, 3) := by decide +kernel
theorem dX9_firstPlaceOffer_72 : decode cX9_firstPlaceOffer 72 = .ok (.goto (-53), 3) := by decide +kernel
theorem dX9_firstPlaceOffer_75 : decode cX9_firstPlaceOffer 75 = .ok (.iload_n 2, 1) := by decide +kernel
theorem dX9_firstPlaceOffer_76 : decode cX9_firstPlaceOffer 76 = .ok (.bipush 99, 2) := by decide +kernel
theorem dX9_firstPlaceOffer_78 : decode cX9_firstPlaceOffer 78 = .ok (.if_icmp .le 7, 3) := by decide +kernel
theorem dX9_firstPlaceOffer_81 : decode cX9_firstPlaceOffer 81 = .ok (.iconst (-1), 1) := by decide +kernel
theorem dX9_firstPlaceOffer_82 : decode cX9_firstPlaceOffer 82 = .ok (.goto 4, 3) := by decide +kernel
theorem dX9_firstPlaceOffer_85 : decode cX9_firstPlaceOffer 85 = .ok (.iload_n 2, 1) := by decide +kernel
theorem dX9_firstPlaceOffer_86 : decode cX9_firstPlaceOffer 86 = .ok (.ireturn, 1) := by decide +kernel
theorem dX9_tries_0 : decode cX9_tries 0 = .ok (.aload_n 0, 1) := by decide +kernel
theorem dX9_tries_1 : decode cX9_tries 1 = .ok (.getfield 13, 3) := by decide +kernel
theorem dX9_tries_4 : decode cX9_tries 4 = .ok (.iconst 0, 1) := by decide +kernel
theorem dX9_tries_5 : decode cX9_tries 5 = .ok (.aload_n 0, 1) := by decide +kernel
theorem dX9_tries_6 : decode cX9_tries 6 = .ok (.getfield 23, 3) := by decide +kernel
theorem dX9_tries_9 : decode cX9_tries 9 = .ok (.iconst 0, 1) := by decide +kernel
theorem dX9_tries_10 : decode cX9_tries 10 = .ok (.sipush 144, 3) := by decide +kernel
theorem dX9_tries_13 : decode cX9_tries 13 = .ok (.invokestatic 243, 3) := by decide +kernel
theorem dX9_tries_16 : decode cX9_tries 16 = .ok (.return_, 1) := by decide +kernel
theorem dX9_back_0 : decode cX9_back 0 = .ok (.aload_n 0, 1) := by decide +kernel
theorem dX9_back_1 : decode cX9_back 1 = .ok (.getfield 23, 3) := by decide +kernel
theorem dX9_back_4 : decode cX9_back 4 = .ok (.iconst 0, 1) := by decide +kernel
theorem dX9_back_5 : decode cX9_back 5 = .ok (.aload_n 0, 1) := by decide +kernel
theorem dX9_back_6 : decode cX9_back 6 = .ok (.getfield 13, 3) := by decide +kernel
theorem dX9_back_9 : decode cX9_back 9 = .ok (.iconst 0, 1) := by decide +kernel
theorem dX9_back_10 : decode cX9_back 10 = .ok (.sipush 144, 3) := by decide +kernel
theorem dX9_back_13 : decode cX9_back 13 = .ok (.invokestatic 243, 3) := by decide +kernel
theorem dX9_back_16 : decode cX9_back 16 = .ok (.iload_n 1, 1) := by decide +kernel
theorem dX9_back_17 : decode cX9_back 17 = .ok (.ireturn, 1) := by decide +kernel
theorem dX9_turnsToCross_0 : decode cX9_turnsToCross 0 = .ok (.aload_n 0, 1) := by decide +kernel
theorem dX9_turnsToCross_1 : decode cX9_turnsToCross 1 = .ok (.iload_n 1, 1) := by decide +kernel
theorem dX9_turnsToCross_2 : decode cX9_turnsToCross 2 = .ok (.iconst 5, 1) := by decide +kernel
theorem dX9_turnsToCross_3 : decode cX9_turnsToCross 3 = .ok (.invokevirtual 60, 3) := by decide +kernel
theorem dX9_turnsToCross_6 : decode cX9_turnsToCross 6 = .ok (.istore_n 2, 1) := by decide +kernel
theorem dX9_turnsToCross_7 : decode cX9_turnsToCross 7 = .ok (.iconst 0, 1) := by decide +kernel
theorem dX9_turnsToCross_8 : decode cX9_turnsToCross 8 = .ok (.istore_n 3, 1) := by decide +kernel
theorem dX9_turnsToCross_9 : decode cX9_turnsToCross 9 = .ok (.iload_n 3, 1) := by decide +kernel
theorem dX9_turnsToCross_10 : decode cX9_turnsToCross 10 = .ok (.bipush 100, 2) := by decide +kernel
theorem dX9_turnsToCross_12 : decode cX9_turnsToCross 12 = .ok (.if_icmp .ge 47, 3) := by decide +kernel
theorem dX9_turnsToCross_15 : decode cX9_turnsToCross 15 = .ok (.aload_n 0, 1) := by decide +kernel
theorem dX9_turnsToCross_16 : decode cX9_turnsToCross 16 = .ok (.getfield 13, 3) := by decide +kernel
theorem dX9_turnsToCross_19 : decode cX9_turnsToCross 19 = .ok (.iconst 0, 1) := by decide +kernel
theorem dX9_turnsToCross_20 : decode cX9_turnsToCross 20 = .ok (.iaload, 1) := by decide +kernel
theorem dX9_turnsToCross_21 : decode cX9_turnsToCross 21 = .ok (.sipush 10000, 3) := by decide +kernel
theorem dX9_turnsToCross_24 : decode cX9_turnsToCross 24 = .ok (.if_icmp .ge 35, 3) := by decide +kernel
theorem dX9_turnsToCross_27 : decode cX9_turnsToCross 27 = .ok (.aload_n 0, 1) := by decide +kernel
theorem dX9_turnsToCross_28 : decode cX9_turnsToCross 28 = .ok (.iload_n 1, 1) := by decide +kernel
theorem dX9_turnsToCross_29 : decode cX9_turnsToCross 29 = .ok (.invokevirtual 79, 3) := by decide +kernel
theorem dX9_turnsToCross_32 : decode cX9_turnsToCross 32 = .ok (.ifCond .eq 27, 3) := by decide +kernel
theorem dX9_turnsToCross_35 : decode cX9_turnsToCross 35 = .ok (.aload_n 0, 1) := by decide +kernel
theorem dX9_turnsToCross_36 : decode cX9_turnsToCross 36 = .ok (.invokevirtual 124, 3) := by decide +kernel
theorem dX9_turnsToCross_39 : decode cX9_turnsToCross 39 = .ok (.istore 4, 2) := by decide +kernel
theorem dX9_turnsToCross_41 : decode cX9_turnsToCross 41 = .ok (.aload_n 0, 1) := by decide +kernel
theorem dX9_turnsToCross_42 : decode cX9_turnsToCross 42 = .ok (.iload_n 1, 1) := by decide +kernel
theorem dX9_turnsToCross_43 : decode cX9_turnsToCross 43 = .ok (.iconst 5, 1) := by decide +kernel
theorem dX9_turnsToCross_44 : decode cX9_turnsToCross 44 = .ok (.invokevirtual 60, 3) := by decide +kernel
theorem dX9_turnsToCross_47 : decode cX9_turnsToCross 47 = .ok (.iload_n 2, 1) := by decide +kernel
theorem dX9_turnsToCross_48 : decode cX9_turnsToCross 48 = .ok (.if_icmp .le 5, 3) := by decide +kernel
theorem dX9_turnsToCross_51 : decode cX9_turnsToCross 51 = .ok (.iload_n 3, 1) := by decide +kernel
theorem dX9_turnsToCross_52 : decode cX9_turnsToCross 52 = .ok (.ireturn, 1) := by decide +kernel
theorem dX9_turnsToCross_53 : decode cX9_turnsToCross 53 = .ok (.iinc 3 1, 3) := by decide +kernel
theorem dX9_turnsToCross_56 : decode cX9_turnsToCross 56 = .ok (.goto (-47), 3) := by decide +kernel
theorem dX9_turnsToCross_59 : decode cX9_turnsToCross 59 = .ok (.iconst (-1), 1) := by decide +kernel
theorem dX9_turnsToCross_60 : decode cX9_turnsToCross 60 = .ok (.ireturn, 1) := by decide +kernel
theorem dX9_turnsUntilCrossing_0 : decode cX9_turnsUntilCrossing 0 = .ok (.aload_n 0, 1) := by decide +kernel
theorem dX9_turnsUntilCrossing_1 : decode cX9_turnsUntilCrossing 1 = .ok (.iconst 0, 1) := by decide +kernel
theorem dX9_turnsUntilCrossing_2 : decode cX9_turnsUntilCrossing 2 = .ok (.putfield 1, 3) := by decide +kernel
theorem dX9_turnsUntilCrossing_5 : decode cX9_turnsUntilCrossing 5 = .ok (.aload_n 0, 1) := by decide +kernel
theorem dX9_turnsUntilCrossing_6 : decode cX9_turnsUntilCrossing 6 = .ok (.iload_n 1, 1) := by decide +kernel
theorem dX9_turnsUntilCrossing_7 : decode cX9_turnsUntilCrossing 7 = .ok (.invokevirtual 263, 3) := by decide +kernel
theorem dX9_turnsUntilCrossing_10 : decode cX9_turnsUntilCrossing 10 = .ok (.ifCond .eq 5, 3) := by decide +kernel
theorem dX9_turnsUntilCrossing_13 : decode cX9_turnsUntilCrossing 13 = .ok (.iconst 0, 1) := by decide +kernel
theorem dX9_turnsUntilCrossing_14 : decode cX9_turnsUntilCrossing 14 = .ok (.ireturn, 1) := by decide +kernel
theorem dX9_turnsUntilCrossing_15 : decode cX9_turnsUntilCrossing 15 = .ok (.aload_n 0, 1) := by decide +kernel
theorem dX9_turnsUntilCrossing_16 : decode cX9_turnsUntilCrossing 16 = .ok (.invokevirtual 284, 3) := by decide +kernel
theorem dX9_turnsUntilCrossing_19 : decode cX9_turnsUntilCrossing 19 = .ok (.aload_n 0, 1) := by decide +kernel
theorem dX9_turnsUntilCrossing_20 : decode cX9_turnsUntilCrossing 20 = .ok (.aload_n 0, 1) := by decide +kernel
theorem dX9_turnsUntilCrossing_21 : decode cX9_turnsUntilCrossing 21 = .ok (.iload_n 1, 1) := by decide +kernel
theorem dX9_turnsUntilCrossing_22 : decode cX9_turnsUntilCrossing 22 = .ok (.invokevirtual 287, 3) := by decide +kernel
theorem dX9_turnsUntilCrossing_25 : decode cX9_turnsUntilCrossing 25 = .ok (.invokevirtual 290, 3) := by decide +kernel
theorem dX9_turnsUntilCrossing_28 : decode cX9_turnsUntilCrossing 28 = .ok (.ireturn, 1) := by decide +kernel
theorem dX9_tollBoxAfter_0 : decode cX9_tollBoxAfter 0 = .ok (.aload_n 0, 1) := by decide +kernel
theorem dX9_tollBoxAfter_1 : decode cX9_tollBoxAfter 1 = .ok (.iconst 0, 1) := by decide +kernel
theorem dX9_tollBoxAfter_2 : decode cX9_tollBoxAfter 2 = .ok (.putfield 1, 3) := by decide +kernel
theorem dX9_tollBoxAfter_5 : decode cX9_tollBoxAfter 5 = .ok (.aload_n 0, 1) := by decide +kernel
theorem dX9_tollBoxAfter_6 : decode cX9_tollBoxAfter 6 = .ok (.iload_n 1, 1) := by decide +kernel
theorem dX9_tollBoxAfter_7 : decode cX9_tollBoxAfter 7 = .ok (.iconst 0, 1) := by decide +kernel
theorem dX9_tollBoxAfter_8 : decode cX9_tollBoxAfter 8 = .ok (.bipush 100, 2) := by decide +kernel
theorem dX9_tollBoxAfter_10 : decode cX9_tollBoxAfter 10 = .ok (.invokestatic 200, 3) := by decide +kernel
theorem dX9_tollBoxAfter_13 : decode cX9_tollBoxAfter 13 = .ok (.iconst 1, 1) := by decide +kernel
theorem dX9_tollBoxAfter_14 : decode cX9_tollBoxAfter 14 = .ok (.invokevirtual 239, 3) := by decide +kernel
theorem dX9_tollBoxAfter_17 : decode cX9_tollBoxAfter 17 = .ok (.ifCond .eq 5, 3) := by decide +kernel
theorem dX9_tollBoxAfter_20 : decode cX9_tollBoxAfter 20 = .ok (.iconst 0, 1) := by decide +kernel
theorem dX9_tollBoxAfter_21 : decode cX9_tollBoxAfter 21 = .ok (.ireturn, 1) := by decide +kernel
theorem dX9_tollBoxAfter_22 : decode cX9_tollBoxAfter 22 = .ok (.aload_n 0, 1) := by decide +kernel
theorem dX9_tollBoxAfter_23 : decode cX9_tollBoxAfter 23 = .ok (.invokevirtual 284, 3) := by decide +kernel
theorem dX9_tollBoxAfter_26 : decode cX9_tollBoxAfter 26 = .ok (.aload_n 0, 1) := by decide +kernel
theorem dX9_tollBoxAfter_27 : decode cX9_tollBoxAfter 27 = .ok (.iload_n 1, 1) := by decide +kernel
theorem dX9_tollBoxAfter_28 : decode cX9_tollBoxAfter 28 = .ok (.invokevirtual 293, 3) := by decide +kernel
theorem dX9_tollBoxAfter_31 : decode cX9_tollBoxAfter 31 = .ok (.aload_n 0, 1) := by decide +kernel
theorem dX9_tollBoxAfter_32 : decode cX9_tollBoxAfter 32 = .ok (.aload_n 0, 1) := by decide +kernel
theorem dX9_tollBoxAfter_33 : decode cX9_tollBoxAfter 33 = .ok (.getfield 13, 3) := by decide +kernel
theorem dX9_tollBoxAfter_36 : decode cX9_tollBoxAfter 36 = .ok (.iconst 5, 1) := by decide +kernel
theorem dX9_tollBoxAfter_37 : decode cX9_tollBoxAfter 37 = .ok (.iaload, 1) := by decide +kernel
theorem dX9_tollBoxAfter_38 : decode cX9_tollBoxAfter 38 = .ok (.invokevirtual 290, 3) := by decide +kernel
theorem dX9_tollBoxAfter_41 : decode cX9_tollBoxAfter 41 = .ok (.ireturn, 1) := by decide +kernel
theorem dX9_limitAngleAfter_0 : decode cX9_limitAngleAfter 0 = .ok (.aload_n 0, 1) := by decide +kernel
theorem dX9_limitAngleAfter_1 : decode cX9_limitAngleAfter 1 = .ok (.iconst 0, 1) := by decide +kernel
theorem dX9_limitAngleAfter_2 : decode cX9_limitAngleAfter 2 = .ok (.putfield 1, 3) := by decide +kernel
theorem dX9_limitAngleAfter_5 : decode cX9_limitAngleAfter 5 = .ok (.aload_n 0, 1) := by decide +kernel
theorem dX9_limitAngleAfter_6 : decode cX9_limitAngleAfter 6 = .ok (.iload_n 1, 1) := by decide +kernel
theorem dX9_limitAngleAfter_7 : decode cX9_limitAngleAfter 7 = .ok (.iconst 0, 1) := by decide +kernel
theorem dX9_limitAngleAfter_8 : decode cX9_limitAngleAfter 8 = .ok (.bipush 100, 2) := by decide +kernel
theorem dX9_limitAngleAfter_10 : decode cX9_limitAngleAfter 10 = .ok (.invokestatic 200, 3) := by decide +kernel
theorem dX9_limitAngleAfter_13 : decode cX9_limitAngleAfter 13 = .ok (.iconst 1, 1) := by decide +kernel
theorem dX9_limitAngleAfter_14 : decode cX9_limitAngleAfter 14 = .ok (.invokevirtual 239, 3) := by decide +kernel
theorem dX9_limitAngleAfter_17 : decode cX9_limitAngleAfter 17 = .ok (.ifCond .eq 5, 3) := by decide +kernel
theorem dX9_limitAngleAfter_20 : decode cX9_limitAngleAfter 20 = .ok (.iconst 0, 1) := by decide +kernel
theorem dX9_limitAngleAfter_21 : decode cX9_limitAngleAfter 21 = .ok (.ireturn, 1) := by decide +kernel
theorem dX9_limitAngleAfter_22 : decode cX9_limitAngleAfter 22 = .ok (.aload_n 0, 1) := by decide +kernel
theorem dX9_limitAngleAfter_23 : decode cX9_limitAngleAfter 23 = .ok (.invokevirtual 284, 3) := by decide +kernel
theorem dX9_limitAngleAfter_26 : decode cX9_limitAngleAfter 26 = .ok (.aload_n 0, 1) := by decide +kernel
theorem dX9_limitAngleAfter_27 : decode cX9_limitAngleAfter 27 = .ok (.iload_n 1, 1) := by decide +kernel
theorem dX9_limitAngleAfter_28 : decode cX9_limitAngleAfter 28 = .ok (.invokevirtual 293, 3) := by decide +kernel
theorem dX9_limitAngleAfter_31 : decode cX9_limitAngleAfter 31 = .ok (.aload_n 0, 1) := by decide +kernel
theorem dX9_limitAngleAfter_32 : decode cX9_limitAngleAfter 32 = .ok (.aload_n 0, 1) := by decide +kernel
theorem dX9_limitAngleAfter_33 : decode cX9_limitAngleAfter 33 = .ok (.getfield 13, 3) := by decide +kernel
theorem dX9_limitAngleAfter_36 : decode cX9_limitAngleAfter 36 = .ok (.iconst 1, 1) := by decide +kernel
theorem dX9_limitAngleAfter_37 : decode cX9_limitAngleAfter 37 = .ok (.iaload, 1) := by decide +kernel
theorem dX9_limitAngleAfter_38 : decode cX9_limitAngleAfter 38 = .ok (.invokevirtual 290, 3) := by decide +kernel
theorem dX9_limitAngleAfter_41 : decode cX9_limitAngleAfter 41 = .ok (.ireturn, 1) := by decide +kernel
theorem dX9_crossingObstacle_0 : decode cX9_crossingObstacle 0 = .ok (.aload_n 0, 1) := by decide +kernel
theorem dX9_crossingObstacle_1 : decode cX9_crossingObstacle 1 = .ok (.iconst 0, 1) := by decide +kernel
theorem dX9_crossingObstacle_2 : decode cX9_crossingObstacle 2 = .ok (.putfield 1, 3) := by decide +kernel
theorem dX9_crossingObstacle_5 : decode cX9_crossingObstacle 5 = .ok (.aload_n 0, 1) := by decide +kernel
theorem dX9_crossingObstacle_6 : decode cX9_crossingObstacle 6 = .ok (.iload_n 1, 1) := by decide +kernel
theorem dX9_crossingObstacle_7 : decode cX9_crossingObstacle 7 = .ok (.invokevirtual 263, 3) := by decide +kernel
theorem dX9_crossingObstacle_10 : decode cX9_crossingObstacle 10 = .ok (.ifCond .eq 5, 3) := by decide +kernel
theorem dX9_crossingObstacle_13 : decode cX9_crossingObstacle 13 = .ok (.iconst 0, 1) := by decide +kernel
theorem dX9_crossingObstacle_14 : decode cX9_crossingObstacle 14 = .ok (.ireturn, 1) := by decide +kernel
theorem dX9_crossingObstacle_15 : decode cX9_crossingObstacle 15 = .ok (.aload_n 0, 1) := by decide +kernel
theorem dX9_crossingObstacle_16 : decode cX9_crossingObstacle 16 = .ok (.getfield 13, 3) := by decide +kernel
theorem dX9_crossingObstacle_19 : decode cX9_crossingObstacle 19 = .ok (.iconst 0, 1) := by decide +kernel
theorem dX9_crossingObstacle_20 : decode cX9_crossingObstacle 20 = .ok (.iaload, 1) := by decide +kernel
theorem dX9_crossingObstacle_21 : decode cX9_crossingObstacle 21 = .ok (.sipush 10000, 3) := by decide +kernel
theorem dX9_crossingObstacle_24 : decode cX9_crossingObstacle 24 = .ok (.if_icmp .ne 5, 3) := by decide +kernel
theorem dX9_crossingObstacle_27 : decode cX9_crossingObstacle 27 = .ok (.iconst 1, 1) := by decide +kernel
theorem dX9_crossingObstacle_28 : decode cX9_crossingObstacle 28 = .ok (.ireturn, 1) := by decide +kernel
theorem dX9_crossingObstacle_29 : decode cX9_crossingObstacle 29 = .ok (.aload_n 0, 1) := by decide +kernel
theorem dX9_crossingObstacle_30 : decode cX9_crossingObstacle 30 = .ok (.iload_n 1, 1) := by decide +kernel
theorem dX9_crossingObstacle_31 : decode cX9_crossingObstacle 31 = .ok (.iconst 1, 1) := by decide +kernel
theorem dX9_crossingObstacle_32 : decode cX9_crossingObstacle 32 = .ok (.invokevirtual 60, 3) := by decide +kernel
theorem dX9_crossingObstacle_35 : decode cX9_crossingObstacle 35 = .ok (.aload_n 0, 1) := by decide +kernel
theorem dX9_crossingObstacle_36 : decode cX9_crossingObstacle 36 = .ok (.getfield 13, 3) := by decide +kernel
theorem dX9_crossingObstacle_39 : decode cX9_crossingObstacle 39 = .ok (.iconst 0, 1) := by decide +kernel
theorem dX9_crossingObstacle_40 : decode cX9_crossingObstacle 40 = .ok (.iaload, 1) := by decide +kernel
theorem dX9_crossingObstacle_41 : decode cX9_crossingObstacle 41 = .ok (.iconst 2, 1) := by decide +kernel
theorem dX9_crossingObstacle_42 : decode cX9_crossingObstacle 42 = .ok (.irem, 1) := by decide +kernel
theorem dX9_crossingObstacle_43 : decode cX9_crossingObstacle 43 = .ok (.if_icmp .eq 5, 3) := by decide +kernel
theorem dX9_crossingObstacle_46 : decode cX9_crossingObstacle 46 = .ok (.iconst 2, 1) := by decide +kernel
theorem dX9_crossingObstacle_47 : decode cX9_crossingObstacle 47 = .ok (.ireturn, 1) := by decide +kernel
theorem dX9_crossingObstacle_48 : decode cX9_crossingObstacle 48 = .ok (.aload_n 0, 1) := by decide +kernel
theorem dX9_crossingObstacle_49 : decode cX9_crossingObstacle 49 = .ok (.invokevirtual 281, 3) := by decide +kernel
theorem dX9_crossingObstacle_52 : decode cX9_crossingObstacle 52 = .ok (.ifCond .ne 5, 3) := by decide +kernel
theorem dX9_crossingObstacle_55 : decode cX9_crossingObstacle 55 = .ok (.iconst 3, 1) := by decide +kernel
theorem dX9_crossingObstacle_56 : decode cX9_crossingObstacle 56 = .ok (.ireturn, 1) := by decide +kernel
theorem dX9_crossingObstacle_57 : decode cX9_crossingObstacle 57 = .ok (.aload_n 0, 1) := by decide +kernel
theorem dX9_crossingObstacle_58 : decode cX9_crossingObstacle 58 = .ok (.iload_n 1, 1) := by decide +kernel
theorem dX9_crossingObstacle_59 : decode cX9_crossingObstacle 59 = .ok (.invokevirtual 79, 3) := by decide +kernel
theorem dX9_crossingObstacle_62 : decode cX9_crossingObstacle 62 = .ok (.ifCond .eq 15, 3) := by decide +kernel
theorem dX9_crossingObstacle_65 : decode cX9_crossingObstacle 65 = .ok (.aload_n 0, 1) := by decide +kernel
theorem dX9_crossingObstacle_66 : decode cX9_crossingObstacle 66 = .ok (.iload_n 1, 1) := by decide +kernel
theorem dX9_crossingObstacle_67 : decode cX9_crossingObstacle 67 = .ok (.bipush 6, 2) := by decide +kernel
theorem dX9_crossingObstacle_69 : decode cX9_crossingObstacle 69 = .ok (.invokevirtual 60, 3) := by decide +kernel
theorem dX9_crossingObstacle_72 : decode cX9_crossingObstacle 72 = .ok (.iconst 1, 1) := by decide +kernel
theorem dX9_crossingObstacle_73 : decode cX9_crossingObstacle 73 = .ok (.isub, 1) := by decide +kernel
theorem dX9_crossingObstacle_74 : decode cX9_crossingObstacle 74 = .ok (.goto 4, 3) := by decide +kernel
theorem dX9_crossingObstacle_77 : decode cX9_crossingObstacle 77 = .ok (.iconst 0, 1) := by decide +kernel
theorem dX9_crossingObstacle_78 : decode cX9_crossingObstacle 78 = .ok (.istore_n 2, 1) := by decide +kernel
theorem dX9_crossingObstacle_79 : decode cX9_crossingObstacle 79 = .ok (.aload_n 0, 1) := by decide +kernel
theorem dX9_crossingObstacle_80 : decode cX9_crossingObstacle 80 = .ok (.iload_n 1, 1) := by decide +kernel
theorem dX9_crossingObstacle_81 : decode cX9_crossingObstacle 81 = .ok (.iconst 2, 1) := by decide +kernel
theorem dX9_crossingObstacle_82 : decode cX9_crossingObstacle 82 = .ok (.invokevirtual 60, 3) := by decide +kernel
theorem dX9_crossingObstacle_85 : decode cX9_crossingObstacle 85 = .ok (.aload_n 0, 1) := by decide +kernel
theorem dX9_crossingObstacle_86 : decode cX9_crossingObstacle 86 = .ok (.iload_n 1, 1) := by decide +kernel
theorem dX9_crossingObstacle_87 : decode cX9_crossingObstacle 87 = .ok (.aload_n 0, 1) := by decide +kernel
theorem dX9_crossingObstacle_88 : decode cX9_crossingObstacle 88 = .ok (.iload_n 1, 1) := by decide +kernel
theorem dX9_crossingObstacle_89 : decode cX9_crossingObstacle 89 = .ok (.invokevirtual 102, 3) := by decide +kernel
theorem dX9_crossingObstacle_92 : decode cX9_crossingObstacle 92 = .ok (.invokevirtual 269, 3) := by decide +kernel
theorem dX9_crossingObstacle_95 : decode cX9_crossingObstacle 95 = .ok (.iload_n 2, 1) := by decide +kernel
theorem dX9_crossingObstacle_96 : decode cX9_crossingObstacle 96 = .ok (.iadd, 1) := by decide +kernel
theorem dX9_crossingObstacle_97 : decode cX9_crossingObstacle 97 = .ok (.if_icmp .ge 7, 3) := by decide +kernel
theorem dX9_crossingObstacle_100 : decode cX9_crossingObstacle 100 = .ok (.iconst 4, 1) := by decide +kernel
theorem dX9_crossingObstacle_101 : decode cX9_crossingObstacle 101 = .ok (.goto 4, 3) := by decide +kernel
theorem dX9_crossingObstacle_104 : decode cX9_crossingObstacle 104 = .ok (.iconst 0, 1) := by decide +kernel
theorem dX9_crossingObstacle_105 : decode cX9_crossingObstacle 105 = .ok (.ireturn, 1) := by decide +kernel
theorem dX9_coinGap_0 : decode cX9_coinGap 0 = .ok (.aload_n 0, 1) := by decide +kernel
theorem dX9_coinGap_1 : decode cX9_coinGap 1 = .ok (.iconst 0, 1) := by decide +kernel
theorem dX9_coinGap_2 : decode cX9_coinGap 2 = .ok (.putfield 1, 3) := by decide +kernel
theorem dX9_coinGap_5 : decode cX9_coinGap 5 = .ok (.aload_n 0, 1) := by decide +kernel
theorem dX9_coinGap_6 : decode cX9_coinGap 6 = .ok (.getfield 13, 3) := by decide +kernel
theorem dX9_coinGap_9 : decode cX9_coinGap 9 = .ok (.iconst 5, 1) := by decide +kernel
theorem dX9_coinGap_10 : decode cX9_coinGap 10 = .ok (.iaload, 1) := by decide +kernel
theorem dX9_coinGap_11 : decode cX9_coinGap 11 = .ok (.aload_n 0, 1) := by decide +kernel
theorem dX9_coinGap_12 : decode cX9_coinGap 12 = .ok (.getfield 13, 3) := by decide +kernel
theorem dX9_coinGap_15 : decode cX9_coinGap 15 = .ok (.bipush 6, 2) := by decide +kernel
theorem dX9_coinGap_17 : decode cX9_coinGap 17 = .ok (.iaload, 1) := by decide +kernel
theorem dX9_coinGap_18 : decode cX9_coinGap 18 = .ok (.iadd, 1) := by decide +kernel
theorem dX9_coinGap_19 : decode cX9_coinGap 19 = .ok (.aload_n 0, 1) := by decide +kernel
theorem dX9_coinGap_20 : decode cX9_coinGap 20 = .ok (.getfield 13, 3) := by decide +kernel
theorem dX9_coinGap_23 : decode cX9_coinGap 23 = .ok (.bipush 7, 2) := by decide +kernel
theorem dX9_coinGap_25 : decode cX9_coinGap 25 = .ok (.iaload, 1) := by decide +kernel
theorem dX9_coinGap_26 : decode cX9_coinGap 26 = .ok (.iadd, 1) := by decide +kernel
theorem dX9_coinGap_27 : decode cX9_coinGap 27 = .ok (.istore_n 1, 1) := by decide +kernel
theorem dX9_coinGap_28 : decode cX9_coinGap 28 = .ok (.iconst 0, 1) := by decide +kernel
theorem dX9_coinGap_29 : decode cX9_coinGap 29 = .ok (.istore_n 2, 1) := by decide +kernel
theorem dX9_coinGap_30 : decode cX9_coinGap 30 = .ok (.iload_n 2, 1) := by decide +kernel
theorem dX9_coinGap_31 : decode cX9_coinGap 31 = .ok (.aload_n 0, 1) := by decide +kernel
theorem dX9_coinGap_32 : decode cX9_coinGap 32 = .ok (.getfield 13, 3) := by decide +kernel
theorem dX9_coinGap_35 : decode cX9_coinGap 35 = .ok (.bipush 8, 2) := by decide +kernel
theorem dX9_coinGap_37 : decode cX9_coinGap 37 = .ok (.iaload, 1) := by decide +kernel
theorem dX9_coinGap_38 : decode cX9_coinGap 38 = .ok (.if_icmp .ge 18, 3) := by decide +kernel
theorem dX9_coinGap_41 : decode cX9_coinGap 41 = .ok (.iload_n 1, 1) := by decide +kernel
theorem dX9_coinGap_42 : decode cX9_coinGap 42 = .ok (.aload_n 0, 1) := by decide +kernel
theorem dX9_coinGap_43 : decode cX9_coinGap 43 = .ok (.iload_n 2, 1) := by decide +kernel
theorem dX9_coinGap_44 : decode cX9_coinGap 44 = .ok (.iconst 2, 1) := by decide +kernel
theorem dX9_coinGap_45 : decode cX9_coinGap 45 = .ok (.invokevirtual 60, 3) := by decide +kernel
theorem dX9_coinGap_48 : decode cX9_coinGap 48 = .ok (.iadd, 1) := by decide +kernel
theorem dX9_coinGap_49 : decode cX9_coinGap 49 = .ok (.istore_n 1, 1) := by decide +kernel
theorem dX9_coinGap_50 : decode cX9_coinGap 50 = .ok (.iinc 2 1, 3) := by decide +kernel
theorem dX9_coinGap_53 : decode cX9_coinGap 53 = .ok (.goto (-23), 3) := by decide +kernel
theorem dX9_coinGap_56 : decode cX9_coinGap 56 = .ok (.iload_n 1, 1) := by decide +kernel
theorem dX9_coinGap_57 : decode cX9_coinGap 57 = .ok (.aload_n 0, 1) := by decide +kernel
theorem dX9_coinGap_58 : decode cX9_coinGap 58 = .ok (.getfield 13, 3) := by decide +kernel
theorem dX9_coinGap_61 : decode cX9_coinGap 61 = .ok (.bipush 10, 2) := by decide +kernel
theorem dX9_coinGap_63 : decode cX9_coinGap 63 = .ok (.iaload, 1) := by decide +kernel
theorem dX9_coinGap_64 : decode cX9_coinGap 64 = .ok (.isub, 1) := by decide +kernel
theorem dX9_coinGap_65 : decode cX9_coinGap 65 = .ok (.invokestatic 296, 3) := by decide +kernel
theorem dX9_coinGap_68 : decode cX9_coinGap 68 = .ok (.ireturn, 1) := by decide +kernel
theorem dX9_keeps_0 : decode cX9_keeps 0 = .ok (.aload_n 0, 1) := by decide +kernel
theorem dX9_keeps_1 : decode cX9_keeps 1 = .ok (.getfield 253, 3) := by decide +kernel
theorem dX9_keeps_4 : decode cX9_keeps 4 = .ok (.bipush 8, 2) := by decide +kernel
theorem dX9_keeps_6 : decode cX9_keeps 6 = .ok (.if_icmp .ne 31, 3) := by decide +kernel
theorem dX9_keeps_9 : decode cX9_keeps 9 = .ok (.aload_n 0, 1) := by decide +kernel
theorem dX9_keeps_10 : decode cX9_keeps 10 = .ok (.getfield 26, 3) := by decide +kernel
theorem dX9_keeps_13 : decode cX9_keeps 13 = .ok (.sipush 144, 3) := by decide +kernel
theorem dX9_keeps_16 : decode cX9_keeps 16 = .ok (.aload_n 0, 1) := by decide +kernel
theorem dX9_keeps_17 : decode cX9_keeps 17 = .ok (.getfield 26, 3) := by decide +kernel
theorem dX9_keeps_20 : decode cX9_keeps 20 = .ok (.iconst 0, 1) := by decide +kernel
theorem dX9_keeps_21 : decode cX9_keeps 21 = .ok (.sipush 1008, 3) := by decide +kernel
theorem dX9_keeps_24 : decode cX9_keeps 24 = .ok (.invokestatic 243, 3) := by decide +kernel
theorem dX9_keeps_27 : decode cX9_keeps 27 = .ok (.aload_n 0, 1) := by decide +kernel
theorem dX9_keeps_28 : decode cX9_keeps 28 = .ok (.dup, 1) := by decide +kernel
theorem dX9_keeps_29 : decode cX9_keeps 29 = .ok (.getfield 253, 3) := by decide +kernel
theorem dX9_keeps_32 : decode cX9_keeps 32 = .ok (.iconst 1, 1) := by decide +kernel
theorem dX9_keeps_33 : decode cX9_keeps 33 = .ok (.isub, 1) := by decide +kernel
theorem dX9_keeps_34 : decode cX9_keeps 34 = .ok (.putfield 253, 3) := by decide +kernel
theorem dX9_keeps_37 : decode cX9_keeps 37 = .ok (.aload_n 0, 1) := by decide +kernel
theorem dX9_keeps_38 : decode cX9_keeps 38 = .ok (.getfield 13, 3) := by decide +kernel
theorem dX9_keeps_41 : decode cX9_keeps 41 = .ok (.iconst 0, 1) := by decide +kernel
theorem dX9_keeps_42 : decode cX9_keeps 42 = .ok (.aload_n 0, 1) := by decide +kernel
theorem dX9_keeps_43 : decode cX9_keeps 43 = .ok (.getfield 26, 3) := by decide +kernel
theorem dX9_keeps_46 : decode cX9_keeps 46 = .ok (.sipush 144, 3) := by decide +kernel
theorem dX9_keeps_49 : decode cX9_keeps 49 = .ok (.aload_n 0, 1) := by decide +kernel
theorem dX9_keeps_50 : decode cX9_keeps 50 = .ok (.getfield 253, 3) := by decide +kernel
theorem dX9_keeps_53 : decode cX9_keeps 53 = .ok (.imul, 1) := by decide +kernel
theorem dX9_keeps_54 : decode cX9_keeps 54 = .ok (.sipush 144, 3) := by decide +kernel
theorem dX9_keeps_57 : decode cX9_keeps 57 = .ok (.invokestatic 243, 3) := by decide +kernel
theorem dX9_keeps_60 : decode cX9_keeps 60 = .ok (.aload_n 0, 1) := by decide +kernel
theorem dX9_keeps_61 : decode cX9_keeps 61 = .ok (.dup, 1) := by decide +kernel
theorem dX9_keeps_62 : decode cX9_keeps 62 = .ok (.getfield 253, 3) := by decide +kernel
theorem dX9_keeps_65 : decode cX9_keeps 65 = .ok (.iconst 1, 1) := by decide +kernel
theorem dX9_keeps_66 : decode cX9_keeps 66 = .ok (.iadd, 1) := by decide +kernel
theorem dX9_keeps_67 : decode cX9_keeps 67 = .ok (.putfield 253, 3) := by decide +kernel
theorem dX9_keeps_70 : decode cX9_keeps 70 = .ok (.return_, 1) := by decide +kernel
theorem dX9_operates_0 : decode cX9_operates 0 = .ok (.aload_n 0, 1) := by decide +kernel
theorem dX9_operates_1 : decode cX9_operates 1 = .ok (.aload_n 0, 1) := by decide +kernel
theorem dX9_operates_2 : decode cX9_operates 2 = .ok (.iload_n 1, 1) := by decide +kernel
theorem dX9_operates_3 : decode cX9_operates 3 = .ok (.iload_n 2, 1) := by decide +kernel
theorem dX9_operates_4 : decode cX9_operates 4 = .ok (.iload_n 3, 1) := by decide +kernel
theorem dX9_operates_5 : decode cX9_operates 5 = .ok (.invokevirtual 299, 3) := by decide +kernel
theorem dX9_operates_8 : decode cX9_operates 8 = .ok (.iload 4, 2) := by decide +kernel
theorem dX9_operates_10 : decode cX9_operates 10 = .ok (.invokevirtual 239, 3) := by decide +kernel
theorem dX9_operates_13 : decode cX9_operates 13 = .ok (.ifCond .eq 5, 3) := by decide +kernel
theorem dX9_operates_16 : decode cX9_operates 16 = .ok (.iconst 0, 1) := by decide +kernel
theorem dX9_operates_17 : decode cX9_operates 17 = .ok (.ireturn, 1) := by decide +kernel
theorem dX9_operates_18 : decode cX9_operates 18 = .ok (.aload_n 0, 1) := by decide +kernel
theorem dX9_operates_19 : decode cX9_operates 19 = .ok (.invokevirtual 302, 3) := by decide +kernel
theorem dX9_operates_22 : decode cX9_operates 22 = .ok (.aload_n 0, 1) := by decide +kernel
theorem dX9_operates_23 : decode cX9_operates 23 = .ok (.iload_n 1, 1) := by decide +kernel
theorem dX9_operates_24 : decode cX9_operates 24 = .ok (.iload_n 2, 1) := by decide +kernel
theorem dX9_operates_25 : decode cX9_operates 25 = .ok (.iload_n 3, 1) := by decide +kernel
theorem dX9_operates_26 : decode cX9_operates 26 = .ok (.invokevirtual 305, 3) := by decide +kernel
theorem dX9_operates_29 : decode cX9_operates 29 = .ok (.ireturn, 1) := by decide +kernel
theorem dX9_withCoins_0 : decode cX9_withCoins 0 = .ok (.aload_n 0, 1) := by decide +kernel
theorem dX9_withCoins_1 : decode cX9_withCoins 1 = .ok (.iconst 0, 1) := by decide +kernel
theorem dX9_withCoins_2 : decode cX9_withCoins 2 = .ok (.putfield 1, 3) := by decide +kernel
theorem dX9_withCoins_5 : decode cX9_withCoins 5 = .ok (.aload_n 0, 1) := by decide +kernel
theorem dX9_withCoins_6 : decode cX9_withCoins 6 = .ok (.iload_n 2, 1) := by decide +kernel
theorem dX9_withCoins_7 : decode cX9_withCoins 7 = .ok (.invokevirtual 263, 3) := by decide +kernel
theorem dX9_withCoins_10 : decode cX9_withCoins 10 = .ok (.ifCond .ne 19, 3) := by decide +kernel
theorem dX9_withCoins_13 : decode cX9_withCoins 13 = .ok (.aload_n 0, 1) := by decide +kernel
theorem dX9_withCoins_14 : decode cX9_withCoins 14 = .ok (.iload_n 3, 1) := by decide +kernel
theorem dX9_withCoins_15 : decode cX9_withCoins 15 = .ok (.iconst 1, 1) := by decide +kernel
theorem dX9_withCoins_16 : decode cX9_withCoins 16 = .ok (.sipush 999, 3) := by decide +kernel
theorem dX9_withCoins_19 : decode cX9_withCoins 19 = .ok (.invokestatic 200, 3) := by decide +kernel
theorem dX9_withCoins_22 : decode cX9_withCoins 22 = .ok (.iconst 2, 1) := by decide +kernel
theorem dX9_withCoins_23 : decode cX9_withCoins 23 = .ok (.invokevirtual 239, 3) := by decide +kernel
theorem dX9_withCoins_26 : decode cX9_withCoins 26 = .ok (.ifCond .eq 7, 3) := by decide +kernel
theorem dX9_withCoins_29 : decode cX9_withCoins 29 = .ok (.iconst 0, 1) := by decide +kernel
theorem dX9_withCoins_30 : decode cX9_withCoins 30 = .ok (.goto 11, 3) := by decide +kernel
theorem dX9_withCoins_33 : decode cX9_withCoins 33 = .ok (.aload_n 0, 1) := by decide +kernel
theorem dX9_withCoins_34 : decode cX9_withCoins 34 = .ok (.iload_n 1, 1) := by decide +kernel
theorem dX9_withCoins_35 : decode cX9_withCoins 35 = .ok (.iload_n 2, 1) := by decide +kernel
theorem dX9_withCoins_36 : decode cX9_withCoins 36 = .ok (.iload_n 3, 1) := by decide +kernel
theorem dX9_withCoins_37 : decode cX9_withCoins 37 = .ok (.iconst 3, 1) := by decide +kernel
theorem dX9_withCoins_38 : decode cX9_withCoins 38 = .ok (.invokevirtual 309, 3) := by decide +kernel
theorem dX9_withCoins_41 : decode cX9_withCoins 41 = .ok (.ireturn, 1) := by decide +kernel
theorem dX9_dropCoins_0 : decode cX9_dropCoins 0 = .ok (.aload_n 0, 1) := by decide +kernel
theorem dX9_dropCoins_1 : decode cX9_dropCoins 1 = .ok (.iconst 0, 1) := by decide +kernel
theorem dX9_dropCoins_2 : decode cX9_dropCoins 2 = .ok (.iload_n 1, 1) := by decide +kernel
theorem dX9_dropCoins_3 : decode cX9_dropCoins 3 = .ok (.iload_n 2, 1) := by decide +kernel
theorem dX9_dropCoins_4 : decode cX9_dropCoins 4 = .ok (.invokevirtual 313, 3) := by decide +kernel
theorem dX9_dropCoins_7 : decode cX9_dropCoins 7 = .ok (.ireturn, 1) := by decide +kernel
theorem dX9_pickCoins_0 : decode cX9_pickCoins 0 = .ok (.aload_n 0, 1) := by decide +kernel
theorem dX9_pickCoins_1 : decode cX9_pickCoins 1 = .ok (.iconst 1, 1) := by decide +kernel
theorem dX9_pickCoins_2 : decode cX9_pickCoins 2 = .ok (.iload_n 1, 1) := by decide +kernel
theorem dX9_pickCoins_3 : decode cX9_pickCoins 3 = .ok (.iload_n 2, 1) := by decide +kernel
theorem dX9_pickCoins_4 : decode cX9_pickCoins 4 = .ok (.invokevirtual 313, 3) := by decide +kernel
theorem dX9_pickCoins_7 : decode cX9_pickCoins 7 = .ok (.ireturn, 1) := by decide +kernel
theorem dX9_withRoyal_0 : decode cX9_withRoyal 0 = .ok (.aload_n 0, 1) := by decide +kernel
theorem dX9_withRoyal_1 : decode cX9_withRoyal 1 = .ok (.iconst 0, 1) := by decide +kernel
theorem dX9_withRoyal_2 : decode cX9_withRoyal 2 = .ok (.putfield 1, 3) := by decide +kernel
theorem dX9_withRoyal_5 : decode cX9_withRoyal 5 = .ok (.aload_n 0, 1) := by decide +kernel
theorem dX9_withRoyal_6 : decode cX9_withRoyal 6 = .ok (.iload_n 2, 1) := by decide +kernel
theorem dX9_withRoyal_7 : decode cX9_withRoyal 7 = .ok (.invokevirtual 263, 3) := by decide +kernel
theorem dX9_withRoyal_10 : decode cX9_withRoyal 10 = .ok (.ifCond .ne 11, 3) := by decide +kernel
theorem dX9_withRoyal_13 : decode cX9_withRoyal 13 = .ok (.aload_n 0, 1) := by decide +kernel
theorem dX9_withRoyal_14 : decode cX9_withRoyal 14 = .ok (.iload_n 3, 1) := by decide +kernel
theorem dX9_withRoyal_15 : decode cX9_withRoyal 15 = .ok (.invokevirtual 272, 3) := by decide +kernel
theorem dX9_withRoyal_18 : decode cX9_withRoyal 18 = .ok (.ifCond .eq 7, 3) := by decide +kernel
theorem dX9_withRoyal_21 : decode cX9_withRoyal 21 = .ok (.iconst 0, 1) := by decide +kernel
theorem dX9_withRoyal_22 : decode cX9_withRoyal 22 = .ok (.goto 11, 3) := by decide +kernel
theorem dX9_withRoyal_25 : decode cX9_withRoyal 25 = .ok (.aload_n 0, 1) := by decide +kernel
theorem dX9_withRoyal_26 : decode cX9_withRoyal 26 = .ok (.iload_n 1, 1) := by decide +kernel
theorem dX9_withRoyal_27 : decode cX9_withRoyal 27 = .ok (.iload_n 2, 1) := by decide +kernel
theorem dX9_withRoyal_28 : decode cX9_withRoyal 28 = .ok (.iload_n 3, 1) := by decide +kernel
theorem dX9_withRoyal_29 : decode cX9_withRoyal 29 = .ok (.iconst 3, 1) := by decide +kernel
theorem dX9_withRoyal_30 : decode cX9_withRoyal 30 = .ok (.invokevirtual 309, 3) := by decide +kernel
theorem dX9_withRoyal_33 : decode cX9_withRoyal 33 = .ok (.ireturn, 1) := by decide +kernel
theorem dX9_layRoyalCoin_0 : decode cX9_layRoyalCoin 0 = .ok (.aload_n 0, 1) := by decide +kernel
theorem dX9_layRoyalCoin_1 : decode cX9_layRoyalCoin 1 = .ok (.iconst 2, 1) := by decide +kernel
theorem dX9_layRoyalCoin_2 : decode cX9_layRoyalCoin 2 = .ok (.iload_n 1, 1) := by decide +kernel
theorem dX9_layRoyalCoin_3 : decode cX9_layRoyalCoin 3 = .ok (.iload_n 2, 1) := by decide +kernel
theorem dX9_layRoyalCoin_4 : decode cX9_layRoyalCoin 4 = .ok (.invokevirtual 316, 3) := by decide +kernel
theorem dX9_layRoyalCoin_7 : decode cX9_layRoyalCoin 7 = .ok (.ireturn, 1) := by decide +kernel
theorem dX9_liftRoyalCoin_0 : decode cX9_liftRoyalCoin 0 = .ok (.aload_n 0, 1) := by decide +kernel
theorem dX9_liftRoyalCoin_1 : decode cX9_liftRoyalCoin 1 = .ok (.iconst 3, 1) := by decide +kernel
theorem dX9_liftRoyalCoin_2 : decode cX9_liftRoyalCoin 2 = .ok (.iload_n 1, 1) := by decide +kernel
theorem dX9_liftRoyalCoin_3 : decode cX9_liftRoyalCoin 3 = .ok (.iload_n 2, 1) := by decide +kernel
theorem dX9_liftRoyalCoin_4 : decode cX9_liftRoyalCoin 4 = .ok (.invokevirtual 316, 3) := by decide +kernel
theorem dX9_liftRoyalCoin_7 : decode cX9_liftRoyalCoin 7 = .ok (.ireturn, 1) := by decide +kernel
theorem dX9_swapRags_0 : decode cX9_swapRags 0 = .ok (.aload_n 0, 1) := by decide +kernel
theorem dX9_swapRags_1 : decode cX9_swapRags 1 = .ok (.iconst 0, 1) := by decide +kernel
theorem dX9_swapRags_2 : decode cX9_swapRags 2 = .ok (.putfield 1, 3) := by decide +kernel
theorem dX9_swapRags_5 : decode cX9_swapRags 5 = .ok (.aload_n 0, 1) := by decide +kernel
theorem dX9_swapRags_6 : decode cX9_swapRags 6 = .ok (.iload_n 1, 1) := by decide +kernel
theorem dX9_swapRags_7 : decode cX9_swapRags 7 = .ok (.invokevirtual 263, 3) := by decide +kernel
theorem dX9_swapRags_10 : decode cX9_swapRags 10 = .ok (.ifCond .ne 29, 3) := by decide +kernel
theorem dX9_swapRags_13 : decode cX9_swapRags 13 = .ok (.aload_n 0, 1) := by decide +kernel
theorem dX9_swapRags_14 : decode cX9_swapRags 14 = .ok (.iload_n 2, 1) := by decide +kernel
theorem dX9_swapRags_15 : decode cX9_swapRags 15 = .ok (.invokevirtual 263, 3) := by decide +kernel
theorem dX9_swapRags_18 : decode cX9_swapRags 18 = .ok (.ifCond .ne 21, 3) := by decide +kernel
theorem dX9_swapRags_21 : decode cX9_swapRags 21 = .ok (.aload_n 0, 1) := by decide +kernel
theorem dX9_swapRags_22 : decode cX9_swapRags 22 = .ok (.iload_n 1, 1) := by decide +kernel
theorem dX9_swapRags_23 : decode cX9_swapRags 23 = .ok (.iload_n 2, 1) := by decide +kernel
theorem dX9_swapRags_24 : decode cX9_swapRags 24 = .ok (.if_icmp .eq 7, 3) := by decide +kernel
theorem dX9_swapRags_27 : decode cX9_swapRags 27 = .ok (.iconst 1, 1) := by decide +kernel
theorem dX9_swapRags_28 : decode cX9_swapRags 28 = .ok (.goto 4, 3) := by decide +kernel
theorem dX9_swapRags_31 : decode cX9_swapRags 31 = .ok (.iconst 0, 1) := by decide +kernel
theorem dX9_swapRags_32 : decode cX9_swapRags 32 = .ok (.iconst 2, 1) := by decide +kernel
theorem dX9_swapRags_33 : decode cX9_swapRags 33 = .ok (.invokevirtual 239, 3) := by decide +kernel
theorem dX9_swapRags_36 : decode cX9_swapRags 36 = .ok (.ifCond .eq 7, 3) := by decide +kernel
theorem dX9_swapRags_39 : decode cX9_swapRags 39 = .ok (.iconst 0, 1) := by decide +kernel
theorem dX9_swapRags_40 : decode cX9_swapRags 40 = .ok (.goto 11, 3) := by decide +kernel
theorem dX9_swapRags_43 : decode cX9_swapRags 43 = .ok (.aload_n 0, 1) := by decide +kernel
theorem dX9_swapRags_44 : decode cX9_swapRags 44 = .ok (.iconst 4, 1) := by decide +kernel
theorem dX9_swapRags_45 : decode cX9_swapRags 45 = .ok (.iload_n 1, 1) := by decide +kernel
theorem dX9_swapRags_46 : decode cX9_swapRags 46 = .ok (.iload_n 2, 1) := by decide +kernel
theorem dX9_swapRags_47 : decode cX9_swapRags 47 = .ok (.iconst 3, 1) := by decide +kernel
theorem dX9_swapRags_48 : decode cX9_swapRags 48 = .ok (.invokevirtual 309, 3) := by decide +kernel
theorem dX9_swapRags_51 : decode cX9_swapRags 51 = .ok (.ireturn, 1) := by decide +kernel
theorem dX9_joinQueue_0 : decode cX9_joinQueue 0 = .ok (.aload_n 0, 1) := by decide +kernel
theorem dX9_joinQueue_1 : decode cX9_joinQueue 1 = .ok (.iconst 0, 1) := by decide +kernel
theorem dX9_joinQueue_2 : decode cX9_joinQueue 2 = .ok (.putfield 1, 3) := by decide +kernel
theorem dX9_joinQueue_5 : decode cX9_joinQueue 5 = .ok (.aload_n 0, 1) := by decide +kernel
theorem dX9_joinQueue_6 : decode cX9_joinQueue 6 = .ok (.iload_n 1, 1) := by decide +kernel
theorem dX9_joinQueue_7 : decode cX9_joinQueue 7 = .ok (.invokevirtual 263, 3) := by decide +kernel
theorem dX9_joinQueue_10 : decode cX9_joinQueue 10 = .ok (.ifCond .ne 18, 3) := by decide +kernel
theorem dX9_joinQueue_13 : decode cX9_joinQueue 13 = .ok (.aload_n 0, 1) := by decide +kernel
theorem dX9_joinQueue_14 : decode cX9_joinQueue 14 = .ok (.iload_n 2, 1) := by decide +kernel
theorem dX9_joinQueue_15 : decode cX9_joinQueue 15 = .ok (.iconst 0, 1) := by decide +kernel
theorem dX9_joinQueue_16 : decode cX9_joinQueue 16 = .ok (.bipush 99, 2) := by decide +kernel
theorem dX9_joinQueue_18 : decode cX9_joinQueue 18 = .ok (.invokestatic 200, 3) := by decide +kernel
theorem dX9_joinQueue_21 : decode cX9_joinQueue 21 = .ok (.iconst 2, 1) := by decide +kernel
theorem dX9_joinQueue_22 : decode cX9_joinQueue 22 = .ok (.invokevirtual 239, 3) := by decide +kernel
theorem dX9_joinQueue_25 : decode cX9_joinQueue 25 = .ok (.ifCond .eq 7, 3) := by decide +kernel
theorem dX9_joinQueue_28 : decode cX9_joinQueue 28 = .ok (.iconst 0, 1) := by decide +kernel
theorem dX9_joinQueue_29 : decode cX9_joinQueue 29 = .ok (.goto 11, 3) := by decide +kernel
theorem dX9_joinQueue_32 : decode cX9_joinQueue 32 = .ok (.aload_n 0, 1) := by decide +kernel
theorem dX9_joinQueue_33 : decode cX9_joinQueue 33 = .ok (.iconst 5, 1) := by decide +kernel
theorem dX9_joinQueue_34 : decode cX9_joinQueue 34 = .ok (.iload_n 1, 1) := by decide +kernel
theorem dX9_joinQueue_35 : decode cX9_joinQueue 35 = .ok (.iload_n 2, 1) := by decide +kernel
theorem dX9_joinQueue_36 : decode cX9_joinQueue 36 = .ok (.iconst 3, 1) := by decide +kernel
theorem dX9_joinQueue_37 : decode cX9_joinQueue 37 = .ok (.invokevirtual 309, 3) := by decide +kernel
theorem dX9_joinQueue_40 : decode cX9_joinQueue 40 = .ok (.ireturn, 1) := by decide +kernel
theorem dX9_quitQueue_0 : decode cX9_quitQueue 0 = .ok (.aload_n 0, 1) := by decide +kernel
theorem dX9_quitQueue_1 : decode cX9_quitQueue 1 = .ok (.iconst 0, 1) := by decide +kernel
theorem dX9_quitQueue_2 : decode cX9_quitQueue 2 = .ok (.putfield 1, 3) := by decide +kernel
theorem dX9_quitQueue_5 : decode cX9_quitQueue 5 = .ok (.aload_n 0, 1) := by decide +kernel
theorem dX9_quitQueue_6 : decode cX9_quitQueue 6 = .ok (.iload_n 1, 1) := by decide +kernel
theorem dX9_quitQueue_7 : decode cX9_quitQueue 7 = .ok (.invokevirtual 263, 3) := by decide +kernel
theorem dX9_quitQueue_10 : decode cX9_quitQueue 10 = .ok (.ifCond .eq 7, 3) := by decide +kernel
theorem dX9_quitQueue_13 : decode cX9_quitQueue 13 = .ok (.iconst 0, 1) := by decide +kernel
theorem dX9_quitQueue_14 : decode cX9_quitQueue 14 = .ok (.goto 12, 3) := by decide +kernel
theorem dX9_quitQueue_17 : decode cX9_quitQueue 17 = .ok (.aload_n 0, 1) := by decide +kernel
theorem dX9_quitQueue_18 : decode cX9_quitQueue 18 = .ok (.bipush 6, 2) := by decide +kernel
theorem dX9_quitQueue_20 : decode cX9_quitQueue 20 = .ok (.iload_n 1, 1) := by decide +kernel
theorem dX9_quitQueue_21 : decode cX9_quitQueue 21 = .ok (.iconst 0, 1) := by decide +kernel
theorem dX9_quitQueue_22 : decode cX9_quitQueue 22 = .ok (.iconst 2, 1) := by decide +kernel
theorem dX9_quitQueue_23 : decode cX9_quitQueue 23 = .ok (.invokevirtual 309, 3) := by decide +kernel
theorem dX9_quitQueue_26 : decode cX9_quitQueue 26 = .ok (.ireturn, 1) := by decide +kernel
theorem dX9_setPride_0 : decode cX9_setPride 0 = .ok (.aload_n 0, 1) := by decide +kernel
theorem dX9_setPride_1 : decode cX9_setPride 1 = .ok (.iconst 0, 1) := by decide +kernel
theorem dX9_setPride_2 : decode cX9_setPride 2 = .ok (.putfield 1, 3) := by decide +kernel
theorem dX9_setPride_5 : decode cX9_setPride 5 = .ok (.aload_n 0, 1) := by decide +kernel
theorem dX9_setPride_6 : decode cX9_setPride 6 = .ok (.iload_n 1, 1) := by decide +kernel
theorem dX9_setPride_7 : decode cX9_setPride 7 = .ok (.invokevirtual 263, 3) := by decide +kernel
theorem dX9_setPride_10 : decode cX9_setPride 10 = .ok (.ifCond .ne 18, 3) := by decide +kernel
theorem dX9_setPride_13 : decode cX9_setPride 13 = .ok (.aload_n 0, 1) := by decide +kernel
theorem dX9_setPride_14 : decode cX9_setPride 14 = .ok (.iload_n 2, 1) := by decide +kernel
theorem dX9_setPride_15 : decode cX9_setPride 15 = .ok (.iconst 0, 1) := by decide +kernel
theorem dX9_setPride_16 : decode cX9_setPride 16 = .ok (.bipush 40, 2) := by decide +kernel
theorem dX9_setPride_18 : decode cX9_setPride 18 = .ok (.invokestatic 200, 3) := by decide +kernel
theorem dX9_setPride_21 : decode cX9_setPride 21 = .ok (.iconst 2, 1) := by decide +kernel
theorem dX9_setPride_22 : decode cX9_setPride 22 = .ok (.invokevirtual 239, 3) := by decide +kernel
theorem dX9_setPride_25 : decode cX9_setPride 25 = .ok (.ifCond .eq 7, 3) := by decide +kernel
theorem dX9_setPride_28 : decode cX9_setPride 28 = .ok (.iconst 0, 1) := by decide +kernel
theorem dX9_setPride_29 : decode cX9_setPride 29 = .ok (.goto 12, 3) := by decide +kernel
theorem dX9_setPride_32 : decode cX9_setPride 32 = .ok (.aload_n 0, 1) := by decide +kernel
theorem dX9_setPride_33 : decode cX9_setPride 33 = .ok (.bipush 7, 2) := by decide +kernel
theorem dX9_setPride_35 : decode cX9_setPride 35 = .ok (.iload_n 1, 1) := by decide +kernel
theorem dX9_setPride_36 : decode cX9_setPride 36 = .ok (.iload_n 2, 1) := by decide +kernel
theorem dX9_setPride_37 : decode cX9_setPride 37 = .ok (.iconst 3, 1) := by decide +kernel
theorem dX9_setPride_38 : decode cX9_setPride 38 = .ok (.invokevirtual 309, 3) := by decide +kernel
theorem dX9_setPride_41 : decode cX9_setPride 41 = .ok (.ireturn, 1) := by decide +kernel
theorem dX9_passTurns_0 : decode cX9_passTurns 0 = .ok (.aload_n 0, 1) := by decide +kernel
theorem dX9_passTurns_1 : decode cX9_passTurns 1 = .ok (.iconst 0, 1) := by decide +kernel
theorem dX9_passTurns_2 : decode cX9_passTurns 2 = .ok (.putfield 1, 3) := by decide +kernel
theorem dX9_passTurns_5 : decode cX9_passTurns 5 = .ok (.aload_n 0, 1) := by decide +kernel
theorem dX9_passTurns_6 : decode cX9_passTurns 6 = .ok (.iload_n 1, 1) := by decide +kernel
theorem dX9_passTurns_7 : decode cX9_passTurns 7 = .ok (.iconst 1, 1) := by decide +kernel
theorem dX9_passTurns_8 : decode cX9_passTurns 8 = .ok (.bipush 50, 2) := by decide +kernel
theorem dX9_passTurns_10 : decode cX9_passTurns 10 = .ok (.invokestatic 200, 3) := by decide +kernel
theorem dX9_passTurns_13 : decode cX9_passTurns 13 = .ok (.iconst 1, 1) := by decide +kernel
theorem dX9_passTurns_14 : decode cX9_passTurns 14 = .ok (.invokevirtual 239, 3) := by decide +kernel
theorem dX9_passTurns_17 : decode cX9_passTurns 17 = .ok (.ifCond .eq 7, 3) := by decide +kernel
theorem dX9_passTurns_20 : decode cX9_passTurns 20 = .ok (.iconst 0, 1) := by decide +kernel
theorem dX9_passTurns_21 : decode cX9_passTurns 21 = .ok (.goto 12, 3) := by decide +kernel
theorem dX9_passTurns_24 : decode cX9_passTurns 24 = .ok (.aload_n 0, 1) := by decide +kernel
theorem dX9_passTurns_25 : decode cX9_passTurns 25 = .ok (.bipush 8, 2) := by decide +kernel
theorem dX9_passTurns_27 : decode cX9_passTurns 27 = .ok (.iload_n 1, 1) := by decide +kernel
theorem dX9_passTurns_28 : decode cX9_passTurns 28 = .ok (.iconst 0, 1) := by decide +kernel
theorem dX9_passTurns_29 : decode cX9_passTurns 29 = .ok (.iconst 2, 1) := by decide +kernel
theorem dX9_passTurns_30 : decode cX9_passTurns 30 = .ok (.invokevirtual 309, 3) := by decide +kernel
theorem dX9_passTurns_33 : decode cX9_passTurns 33 = .ok (.ireturn, 1) := by decide +kernel
theorem dX9_orderHere_0 : decode cX9_orderHere 0 = .ok (.aload_n 0, 1) := by decide +kernel
theorem dX9_orderHere_1 : decode cX9_orderHere 1 = .ok (.ldc_w 319, 3) := by decide +kernel
theorem dX9_orderHere_4 : decode cX9_orderHere 4 = .ok (.invokevirtual 193, 3) := by decide +kernel
theorem dX9_orderHere_7 : decode cX9_orderHere 7 = .ok (.ifCond .eq 5, 3) := by decide +kernel
theorem dX9_orderHere_10 : decode cX9_orderHere 10 = .ok (.iconst 0, 1) := by decide +kernel
theorem dX9_orderHere_11 : decode cX9_orderHere 11 = .ok (.ireturn, 1) := by decide +kernel
theorem dX9_orderHere_12 : decode cX9_orderHere 12 = .ok (.aload_n 0, 1) := by decide +kernel
theorem dX9_orderHere_13 : decode cX9_orderHere 13 = .ok (.ldc_w 321, 3) := by decide +kernel
theorem dX9_orderHere_16 : decode cX9_orderHere 16 = .ok (.invokevirtual 193, 3) := by decide +kernel
theorem dX9_orderHere_19 : decode cX9_orderHere 19 = .ok (.ifCond .eq 5, 3) := by decide +kernel
theorem dX9_orderHere_22 : decode cX9_orderHere 22 = .ok (.iconst 1, 1) := by decide +kernel
theorem dX9_orderHere_23 : decode cX9_orderHere 23 = .ok (.ireturn, 1) := by decide +kernel
theorem dX9_orderHere_24 : decode cX9_orderHere 24 = .ok (.aload_n 0, 1) := by decide +kernel
theorem dX9_orderHere_25 : decode cX9_orderHere 25 = .ok (.ldc_w 323, 3) := by decide +kernel
theorem dX9_orderHere_28 : decode cX9_orderHere 28 = .ok (.invokevirtual 193, 3) := by decide +kernel
theorem dX9_orderHere_31 : decode cX9_orderHere 31 = .ok (.ifCond .eq 5, 3) := by decide +kernel
theorem dX9_orderHere_34 : decode cX9_orderHere 34 = .ok (.iconst 2, 1) := by decide +kernel
theorem dX9_orderHere_35 : decode cX9_orderHere 35 = .ok (.ireturn, 1) := by decide +kernel
theorem dX9_orderHere_36 : decode cX9_orderHere 36 = .ok (.aload_n 0, 1) := by decide +kernel
theorem dX9_orderHere_37 : decode cX9_orderHere 37 = .ok (.ldc_w 325, 3) := by decide +kernel
theorem dX9_orderHere_40 : decode cX9_orderHere 40 = .ok (.invokevirtual 193, 3) := by decide +kernel
theorem dX9_orderHere_43 : decode cX9_orderHere 43 = .ok (.ifCond .eq 5, 3) := by decide +kernel
theorem dX9_orderHere_46 : decode cX9_orderHere 46 = .ok (.iconst 3, 1) := by decide +kernel
theorem dX9_orderHere_47 : decode cX9_orderHere 47 = .ok (.ireturn, 1) := by decide +kernel
theorem dX9_orderHere_48 : decode cX9_orderHere 48 = .ok (.aload_n 0, 1) := by decide +kernel
theorem dX9_orderHere_49 : decode cX9_orderHere 49 = .ok (.ldc_w 327, 3) := by decide +kernel
theorem dX9_orderHere_52 : decode cX9_orderHere 52 = .ok (.invokevirtual 193, 3) := by decide +kernel
theorem dX9_orderHere_55 : decode cX9_orderHere 55 = .ok (.ifCond .eq 5, 3) := by decide +kernel
theorem dX9_orderHere_58 : decode cX9_orderHere 58 = .ok (.iconst 4, 1) := by decide +kernel
theorem dX9_orderHere_59 : decode cX9_orderHere 59 = .ok (.ireturn, 1) := by decide +kernel
theorem dX9_orderHere_60 : decode cX9_orderHere 60 = .ok (.aload_n 0, 1) := by decide +kernel
theorem dX9_orderHere_61 : decode cX9_orderHere 61 = .ok (.ldc_w 329, 3) := by decide +kernel
theorem dX9_orderHere_64 : decode cX9_orderHere 64 = .ok (.invokevirtual 193, 3) := by decide +kernel
theorem dX9_orderHere_67 : decode cX9_orderHere 67 = .ok (.ifCond .eq 5, 3) := by decide +kernel
theorem dX9_orderHere_70 : decode cX9_orderHere 70 = .ok (.iconst 5, 1) := by decide +kernel
theorem dX9_orderHere_71 : decode cX9_orderHere 71 = .ok (.ireturn, 1) := by decide +kernel
theorem dX9_orderHere_72 : decode cX9_orderHere 72 = .ok (.aload_n 0, 1) := by decide +kernel
theorem dX9_orderHere_73 : decode cX9_orderHere 73 = .ok (.ldc_w 331, 3) := by decide +kernel
theorem dX9_orderHere_76 : decode cX9_orderHere 76 = .ok (.invokevirtual 193, 3) := by decide +kernel
theorem dX9_orderHere_79 : decode cX9_orderHere 79 = .ok (.ifCond .eq 6, 3) := by decide +kernel
theorem dX9_orderHere_82 : decode cX9_orderHere 82 = .ok (.bipush 6, 2) := by decide +kernel
theorem dX9_orderHere_84 : decode cX9_orderHere 84 = .ok (.ireturn, 1) := by decide +kernel
theorem dX9_orderHere_85 : decode cX9_orderHere 85 = .ok (.aload_n 0, 1) := by decide +kernel
theorem dX9_orderHere_86 : decode cX9_orderHere 86 = .ok (.ldc_w 333, 3) := by decide +kernel
theorem dX9_orderHere_89 : decode cX9_orderHere 89 = .ok (.invokevirtual 193, 3) := by decide +kernel
theorem dX9_orderHere_92 : decode cX9_orderHere 92 = .ok (.ifCond .eq 6, 3) := by decide +kernel
theorem dX9_orderHere_95 : decode cX9_orderHere 95 = .ok (.bipush 7, 2) := by decide +kernel
theorem dX9_orderHere_97 : decode cX9_orderHere 97 = .ok (.ireturn, 1) := by decide +kernel
theorem dX9_orderHere_98 : decode cX9_orderHere 98 = .ok (.aload_n 0, 1) := by decide +kernel
theorem dX9_orderHere_99 : decode cX9_orderHere 99 = .ok (.ldc_w 335, 3) := by decide +kernel
theorem dX9_orderHere_102 : decode cX9_orderHere 102 = .ok (.invokevirtual 193, 3) := by decide +kernel
theorem dX9_orderHere_105 : decode cX9_orderHere 105 = .ok (.ifCond .eq 8, 3) := by decide +kernel
theorem dX9_orderHere_108 : decode cX9_orderHere 108 = .ok (.bipush 8, 2) := by decide +kernel
theorem dX9_orderHere_110 : decode cX9_orderHere 110 = .ok (.goto 4, 3) := by decide +kernel
theorem dX9_orderHere_113 : decode cX9_orderHere 113 = .ok (.iconst (-1), 1) := by decide +kernel
theorem dX9_orderHere_114 : decode cX9_orderHere 114 = .ok (.ireturn, 1) := by decide +kernel
theorem dX9_second_0 : decode cX9_second 0 = .ok (.iload_n 1, 1) := by decide +kernel
theorem dX9_second_1 : decode cX9_second 1 = .ok (.tableswitch 80 0 7 #[47, 47, 56, 56, 56, 64, 80, 72], 47) := by decide +kernel
theorem dX9_second_48 : decode cX9_second 48 = .ok (.aload_n 0, 1) := by decide +kernel
theorem dX9_second_49 : decode cX9_second 49 = .ok (.iconst 1, 1) := by decide +kernel
theorem dX9_second_50 : decode cX9_second 50 = .ok (.sipush 999, 3) := by decide +kernel
theorem dX9_second_53 : decode cX9_second 53 = .ok (.invokevirtual 214, 3) := by decide +kernel
theorem dX9_second_56 : decode cX9_second 56 = .ok (.ireturn, 1) := by decide +kernel
theorem dX9_second_57 : decode cX9_second 57 = .ok (.aload_n 0, 1) := by decide +kernel
theorem dX9_second_58 : decode cX9_second 58 = .ok (.iconst 0, 1) := by decide +kernel
theorem dX9_second_59 : decode cX9_second 59 = .ok (.bipush 9, 2) := by decide +kernel
theorem dX9_second_61 : decode cX9_second 61 = .ok (.invokevirtual 214, 3) := by decide +kernel
theorem dX9_second_64 : decode cX9_second 64 = .ok (.ireturn, 1) := by decide +kernel
theorem dX9_second_65 : decode cX9_second 65 = .ok (.aload_n 0, 1) := by decide +kernel
theorem dX9_second_66 : decode cX9_second 66 = .ok (.iconst 0, 1) := by decide +kernel
theorem dX9_second_67 : decode cX9_second 67 = .ok (.bipush 99, 2) := by decide +kernel
theorem dX9_second_69 : decode cX9_second 69 = .ok (.invokevirtual 214, 3) := by decide +kernel
theorem dX9_second_72 : decode cX9_second 72 = .ok (.ireturn, 1) := by decide +kernel
theorem dX9_second_73 : decode cX9_second 73 = .ok (.aload_n 0, 1) := by decide +kernel
theorem dX9_second_74 : decode cX9_second 74 = .ok (.iconst 0, 1) := by decide +kernel
theorem dX9_second_75 : decode cX9_second 75 = .ok (.bipush 40, 2) := by decide +kernel
theorem dX9_second_77 : decode cX9_second 77 = .ok (.invokevirtual 214, 3) := by decide +kernel
theorem dX9_second_80 : decode cX9_second 80 = .ok (.ireturn, 1) := by decide +kernel
theorem dX9_second_81 : decode cX9_second 81 = .ok (.iconst 0, 1) := by decide +kernel
theorem dX9_second_82 : decode cX9_second 82 = .ok (.ireturn, 1) := by decide +kernel
theorem dX9_readsOrder_0 : decode cX9_readsOrder 0 = .ok (.aload_n 0, 1) := by decide +kernel
theorem dX9_readsOrder_1 : decode cX9_readsOrder 1 = .ok (.invokevirtual 337, 3) := by decide +kernel
theorem dX9_readsOrder_4 : decode cX9_readsOrder 4 = .ok (.istore_n 1, 1) := by decide +kernel
theorem dX9_readsOrder_5 : decode cX9_readsOrder 5 = .ok (.iload_n 1, 1) := by decide +kernel
theorem dX9_readsOrder_6 : decode cX9_readsOrder 6 = .ok (.iconst (-1), 1) := by decide +kernel
theorem dX9_readsOrder_7 : decode cX9_readsOrder 7 = .ok (.if_icmp .ne 8, 3) := by decide +kernel
theorem dX9_readsOrder_10 : decode cX9_readsOrder 10 = .ok (.aload_n 0, 1) := by decide +kernel
theorem dX9_readsOrder_11 : decode cX9_readsOrder 11 = .ok (.iconst 1, 1) := by decide +kernel
theorem dX9_readsOrder_12 : decode cX9_readsOrder 12 = .ok (.invokevirtual 197, 3) := by decide +kernel
theorem dX9_readsOrder_15 : decode cX9_readsOrder 15 = .ok (.aload_n 0, 1) := by decide +kernel
theorem dX9_readsOrder_16 : decode cX9_readsOrder 16 = .ok (.getfield 340, 3) := by decide +kernel
theorem dX9_readsOrder_19 : decode cX9_readsOrder 19 = .ok (.bipush 20, 2) := by decide +kernel
theorem dX9_readsOrder_21 : decode cX9_readsOrder 21 = .ok (.if_icmp .ne 8, 3) := by decide +kernel
theorem dX9_readsOrder_24 : decode cX9_readsOrder 24 = .ok (.aload_n 0, 1) := by decide +kernel
theorem dX9_readsOrder_25 : decode cX9_readsOrder 25 = .ok (.iconst 3, 1) := by decide +kernel
theorem dX9_readsOrder_26 : decode cX9_readsOrder 26 = .ok (.invokevirtual 197, 3) := by decide +kernel
theorem dX9_readsOrder_29 : decode cX9_readsOrder 29 = .ok (.aload_n 0, 1) := by decide +kernel
theorem dX9_readsOrder_30 : decode cX9_readsOrder 30 = .ok (.getfield 160, 3) := by decide +kernel
theorem dX9_readsOrder_33 : decode cX9_readsOrder 33 = .ok (.ifCond .eq 4, 3) := by decide +kernel
theorem dX9_readsOrder_36 : decode cX9_readsOrder 36 = .ok (.return_, 1) := by decide +kernel
theorem dX9_readsOrder_37 : decode cX9_readsOrder 37 = .ok (.aload_n 0, 1) := by decide +kernel
theorem dX9_readsOrder_38 : decode cX9_readsOrder 38 = .ok (.invokevirtual 190, 3) := by decide +kernel
theorem dX9_readsOrder_41 : decode cX9_readsOrder 41 = .ok (.iconst 3, 1) := by decide +kernel
theorem dX9_readsOrder_42 : decode cX9_readsOrder 42 = .ok (.aload_n 0, 1) := by decide +kernel
theorem dX9_readsOrder_43 : decode cX9_readsOrder 43 = .ok (.getfield 340, 3) := by decide +kernel
theorem dX9_readsOrder_46 : decode cX9_readsOrder 46 = .ok (.imul, 1) := by decide +kernel
theorem dX9_readsOrder_47 : decode cX9_readsOrder 47 = .ok (.istore_n 2, 1) := by decide +kernel
theorem dX9_readsOrder_48 : decode cX9_readsOrder 48 = .ok (.aload_n 0, 1) := by decide +kernel
theorem dX9_readsOrder_49 : decode cX9_readsOrder 49 = .ok (.getfield 35, 3) := by decide +kernel
theorem dX9_readsOrder_52 : decode cX9_readsOrder 52 = .ok (.iload_n 2, 1) := by decide +kernel
theorem dX9_readsOrder_53 : decode cX9_readsOrder 53 = .ok (.iload_n 1, 1) := by decide +kernel
theorem dX9_readsOrder_54 : decode cX9_readsOrder 54 = .ok (.iastore, 1) := by decide +kernel
theorem dX9_readsOrder_55 : decode cX9_readsOrder 55 = .ok (.aload_n 0, 1) := by decide +kernel
theorem dX9_readsOrder_56 : decode cX9_readsOrder 56 = .ok (.getfield 35, 3) := by decide +kernel
theorem dX9_readsOrder_59 : decode cX9_readsOrder 59 = .ok (.iload_n 2, 1) := by decide +kernel
theorem dX9_readsOrder_60 : decode cX9_readsOrder 60 = .ok (.iconst 1, 1) := by decide +kernel
theorem dX9_readsOrder_61 : decode cX9_readsOrder 61 = .ok (.iadd, 1) := by decide +kernel
theorem dX9_readsOrder_62 : decode cX9_readsOrder 62 = .ok (.iload_n 1, 1) := by decide +kernel
theorem dX9_readsOrder_63 : decode cX9_readsOrder 63 = .ok (.bipush 8, 2) := by decide +kernel
theorem dX9_readsOrder_65 : decode cX9_readsOrder 65 = .ok (.if_icmp .ne 13, 3) := by decide +kernel
theorem dX9_readsOrder_68 : decode cX9_readsOrder 68 = .ok (.aload_n 0, 1) := by decide +kernel
theorem dX9_readsOrder_69 : decode cX9_readsOrder 69 = .ok (.iconst 1, 1) := by decide +kernel
theorem dX9_readsOrder_70 : decode cX9_readsOrder 70 = .ok (.bipush 50, 2) := by decide +kernel
theorem dX9_readsOrder_72 : decode cX9_readsOrder 72 = .ok (.invokevirtual 214, 3) := by decide +kernel
theorem dX9_readsOrder_75 : decode cX9_readsOrder 75 = .ok (.goto 10, 3) := by decide +kernel
theorem dX9_readsOrder_78 : decode cX9_readsOrder 78 = .ok (.aload_n 0, 1) := by decide +kernel
theorem dX9_readsOrder_79 : decode cX9_readsOrder 79 = .ok (.iconst 0, 1) := by decide +kernel
theorem dX9_readsOrder_80 : decode cX9_readsOrder 80 = .ok (.bipush 9, 2) := by decide +kernel
theorem dX9_readsOrder_82 : decode cX9_readsOrder 82 = .ok (.invokevirtual 214, 3) := by decide +kernel
theorem dX9_readsOrder_85 : decode cX9_readsOrder 85 = .ok (.iastore, 1) := by decide +kernel
theorem dX9_readsOrder_86 : decode cX9_readsOrder 86 = .ok (.aload_n 0, 1) := by decide +kernel
theorem dX9_readsOrder_87 : decode cX9_readsOrder 87 = .ok (.getfield 35, 3) := by decide +kernel
theorem dX9_readsOrder_90 : decode cX9_readsOrder 90 = .ok (.iload_n 2, 1) := by decide +kernel
theorem dX9_readsOrder_91 : decode cX9_readsOrder 91 = .ok (.iconst 2, 1) := by decide +kernel
theorem dX9_readsOrder_92 : decode cX9_readsOrder 92 = .ok (.iadd, 1) := by decide +kernel
theorem dX9_readsOrder_93 : decode cX9_readsOrder 93 = .ok (.aload_n 0, 1) := by decide +kernel
theorem dX9_readsOrder_94 : decode cX9_readsOrder 94 = .ok (.iload_n 1, 1) := by decide +kernel
theorem dX9_readsOrder_95 : decode cX9_readsOrder 95 = .ok (.invokevirtual 343, 3) := by decide +kernel
theorem dX9_readsOrder_98 : decode cX9_readsOrder 98 = .ok (.iastore, 1) := by decide +kernel
theorem dX9_readsOrder_99 : decode cX9_readsOrder 99 = .ok (.aload_n 0, 1) := by decide +kernel
theorem dX9_readsOrder_100 : decode cX9_readsOrder 100 = .ok (.dup, 1) := by decide +kernel
theorem dX9_readsOrder_101 : decode cX9_readsOrder 101 = .ok (.getfield 340, 3) := by decide +kernel
theorem dX9_readsOrder_104 : decode cX9_readsOrder 104 = .ok (.iconst 1, 1) := by decide +kernel
theorem dX9_readsOrder_105 : decode cX9_readsOrder 105 = .ok (.iadd, 1) := by decide +kernel
theorem dX9_readsOrder_106 : decode cX9_readsOrder 106 = .ok (.putfield 340, 3) := by decide +kernel
theorem dX9_readsOrder_109 : decode cX9_readsOrder 109 = .ok (.aload_n 0, 1) := by decide +kernel
theorem dX9_readsOrder_110 : decode cX9_readsOrder 110 = .ok (.invokevirtual 217, 3) := by decide +kernel
theorem dX9_readsOrder_113 : decode cX9_readsOrder 113 = .ok (.return_, 1) := by decide +kernel
theorem dX9_areThere_0 : decode cX9_areThere 0 = .ok (.iload_n 1, 1) := by decide +kernel
theorem dX9_areThere_1 : decode cX9_areThere 1 = .ok (.bipush 8, 2) := by decide +kernel
theorem dX9_areThere_3 : decode cX9_areThere 3 = .ok (.if_icmp .ne 5, 3) := by decide +kernel
theorem dX9_areThere_6 : decode cX9_areThere 6 = .ok (.iconst 1, 1) := by decide +kernel
theorem dX9_areThere_7 : decode cX9_areThere 7 = .ok (.ireturn, 1) := by decide +kernel
theorem dX9_areThere_8 : decode cX9_areThere 8 = .ok (.iload_n 2, 1) := by decide +kernel
theorem dX9_areThere_9 : decode cX9_areThere 9 = .ok (.aload_n 0, 1) := by decide +kernel
theorem dX9_areThere_10 : decode cX9_areThere 10 = .ok (.getfield 13, 3) := by decide +kernel
theorem dX9_areThere_13 : decode cX9_areThere 13 = .ok (.bipush 8, 2) := by decide +kernel
theorem dX9_areThere_15 : decode cX9_areThere 15 = .ok (.iaload, 1) := by decide +kernel
theorem dX9_areThere_16 : decode cX9_areThere 16 = .ok (.if_icmp .lt 5, 3) := by decide +kernel
theorem dX9_areThere_19 : decode cX9_areThere 19 = .ok (.iconst 0, 1) := by decide +kernel
theorem dX9_areThere_20 : decode cX9_areThere 20 = .ok (.ireturn, 1) := by decide +kernel
theorem dX9_areThere_21 : decode cX9_areThere 21 = .ok (.iload_n 1, 1) := by decide +kernel
theorem dX9_areThere_22 : decode cX9_areThere 22 = .ok (.tableswitch 73 2 4 #[26, 26, 51], 26) := by decide +kernel
theorem dX9_areThere_48 : decode cX9_areThere 48 = .ok (.iload_n 3, 1) := by decide +kernel
theorem dX9_areThere_49 : decode cX9_areThere 49 = .ok (.aload_n 0, 1) := by decide +kernel
theorem dX9_areThere_50 : decode cX9_areThere 50 = .ok (.getfield 13, 3) := by decide +kernel
theorem dX9_areThere_53 : decode cX9_areThere 53 = .ok (.bipush 8, 2) := by decide +kernel
theorem dX9_areThere_55 : decode cX9_areThere 55 = .ok (.iaload, 1) := by decide +kernel
theorem dX9_areThere_56 : decode cX9_areThere 56 = .ok (.if_icmp .ge 15, 3) := by decide +kernel
theorem dX9_areThere_59 : decode cX9_areThere 59 = .ok (.aload_n 0, 1) := by decide +kernel
theorem dX9_areThere_60 : decode cX9_areThere 60 = .ok (.iload_n 3, 1) := by decide +kernel
theorem dX9_areThere_61 : decode cX9_areThere 61 = .ok (.invokevirtual 64, 3) := by decide +kernel
theorem dX9_areThere_64 : decode cX9_areThere 64 = .ok (.ifCond .eq 7, 3) := by decide +kernel
theorem dX9_areThere_67 : decode cX9_areThere 67 = .ok (.iconst 1, 1) := by decide +kernel
theorem dX9_areThere_68 : decode cX9_areThere 68 = .ok (.goto 4, 3) := by decide +kernel
theorem dX9_areThere_71 : decode cX9_areThere 71 = .ok (.iconst 0, 1) := by decide +kernel
theorem dX9_areThere_72 : decode cX9_areThere 72 = .ok (.ireturn, 1) := by decide +kernel
theorem dX9_areThere_73 : decode cX9_areThere 73 = .ok (.iload_n 3, 1) := by decide +kernel
theorem dX9_areThere_74 : decode cX9_areThere 74 = .ok (.aload_n 0, 1) := by decide +kernel
theorem dX9_areThere_75 : decode cX9_areThere 75 = .ok (.getfield 13, 3) := by decide +kernel
theorem dX9_areThere_78 : decode cX9_areThere 78 = .ok (.bipush 8, 2) := by decide +kernel
theorem dX9_areThere_80 : decode cX9_areThere 80 = .ok (.iaload, 1) := by decide +kernel
theorem dX9_areThere_81 : decode cX9_areThere 81 = .ok (.if_icmp .ge 12, 3) := by decide +kernel
theorem dX9_areThere_84 : decode cX9_areThere 84 = .ok (.iload_n 2, 1) := by decide +kernel
theorem dX9_areThere_85 : decode cX9_areThere 85 = .ok (.iload_n 3, 1) := by decide +kernel
theorem dX9_areThere_86 : decode cX9_areThere 86 = .ok (.if_icmp .eq 7, 3) := by decide +kernel
theorem dX9_areThere_89 : decode cX9_areThere 89 = .ok (.iconst 1, 1) := by decide +kernel
theorem dX9_areThere_90 : decode cX9_areThere 90 = .ok (.goto 4, 3) := by decide +kernel
theorem dX9_areThere_93 : decode cX9_areThere 93 = .ok (.iconst 0, 1) := by decide +kernel
theorem dX9_areThere_94 : decode cX9_areThere 94 = .ok (.ireturn, 1) := by decide +kernel
theorem dX9_areThere_95 : decode cX9_areThere 95 = .ok (.iconst 1, 1) := by decide +kernel
theorem dX9_areThere_96 : decode cX9_areThere 96 = .ok (.ireturn, 1) := by decide +kernel
theorem dX9_isDoneNow_0 : decode cX9_isDoneNow 0 = .ok (.aload_n 0, 1) := by decide +kernel
theorem dX9_isDoneNow_1 : decode cX9_isDoneNow 1 = .ok (.getfield 35, 3) := by decide +kernel
theorem dX9_isDoneNow_4 : decode cX9_isDoneNow 4 = .ok (.iload_n 1, 1) := by decide +kernel
theorem dX9_isDoneNow_5 : decode cX9_isDoneNow 5 = .ok (.iaload, 1) := by decide +kernel
theorem dX9_isDoneNow_6 : decode cX9_isDoneNow 6 = .ok (.istore_n 2, 1) := by decide +kernel
theorem dX9_isDoneNow_7 : decode cX9_isDoneNow 7 = .ok (.aload_n 0, 1) := by decide +kernel
theorem dX9_isDoneNow_8 : decode cX9_isDoneNow 8 = .ok (.getfield 35, 3) := by decide +kernel
theorem dX9_isDoneNow_11 : decode cX9_isDoneNow 11 = .ok (.iload_n 1, 1) := by decide +kernel
theorem dX9_isDoneNow_12 : decode cX9_isDoneNow 12 = .ok (.iconst 1, 1) := by decide +kernel
theorem dX9_isDoneNow_13 : decode cX9_isDoneNow 13 = .ok (.iadd, 1) := by decide +kernel
theorem dX9_isDoneNow_14 : decode cX9_isDoneNow 14 = .ok (.iaload, 1) := by decide +kernel
theorem dX9_isDoneNow_15 : decode cX9_isDoneNow 15 = .ok (.istore_n 3, 1) := by decide +kernel
theorem dX9_isDoneNow_16 : decode cX9_isDoneNow 16 = .ok (.aload_n 0, 1) := by decide +kernel
theorem dX9_isDoneNow_17 : decode cX9_isDoneNow 17 = .ok (.getfield 35, 3) := by decide +kernel
theorem dX9_isDoneNow_20 : decode cX9_isDoneNow 20 = .ok (.iload_n 1, 1) := by decide +kernel
theorem dX9_isDoneNow_21 : decode cX9_isDoneNow 21 = .ok (.iconst 2, 1) := by decide +kernel
theorem dX9_isDoneNow_22 : decode cX9_isDoneNow 22 = .ok (.iadd, 1) := by decide +kernel
theorem dX9_isDoneNow_23 : decode cX9_isDoneNow 23 = .ok (.iaload, 1) := by decide +kernel
theorem dX9_isDoneNow_24 : decode cX9_isDoneNow 24 = .ok (.istore 4, 2) := by decide +kernel
theorem dX9_isDoneNow_26 : decode cX9_isDoneNow 26 = .ok (.aload_n 0, 1) := by decide +kernel
theorem dX9_isDoneNow_27 : decode cX9_isDoneNow 27 = .ok (.iload_n 2, 1) := by decide +kernel
theorem dX9_isDoneNow_28 : decode cX9_isDoneNow 28 = .ok (.iload_n 3, 1) := by decide +kernel
theorem dX9_isDoneNow_29 : decode cX9_isDoneNow 29 = .ok (.iload 4, 2) := by decide +kernel
theorem dX9_isDoneNow_31 : decode cX9_isDoneNow 31 = .ok (.invokevirtual 346, 3) := by decide +kernel
theorem dX9_isDoneNow_34 : decode cX9_isDoneNow 34 = .ok (.ifCond .eq 14, 3) := by decide +kernel
theorem dX9_isDoneNow_37 : decode cX9_isDoneNow 37 = .ok (.aload_n 0, 1) := by decide +kernel
theorem dX9_isDoneNow_38 : decode cX9_isDoneNow 38 = .ok (.iload_n 2, 1) := by decide +kernel
theorem dX9_isDoneNow_39 : decode cX9_isDoneNow 39 = .ok (.iload_n 3, 1) := by decide +kernel
theorem dX9_isDoneNow_40 : decode cX9_isDoneNow 40 = .ok (.iload 4, 2) := by decide +kernel
theorem dX9_isDoneNow_42 : decode cX9_isDoneNow 42 = .ok (.invokevirtual 299, 3) := by decide +kernel
theorem dX9_isDoneNow_45 : decode cX9_isDoneNow 45 = .ok (.ifCond .ne 5, 3) := by decide +kernel
theorem dX9_isDoneNow_48 : decode cX9_isDoneNow 48 = .ok (.iconst 0, 1) := by decide +kernel
theorem dX9_isDoneNow_49 : decode cX9_isDoneNow 49 = .ok (.ireturn, 1) := by decide +kernel
theorem dX9_isDoneNow_50 : decode cX9_isDoneNow 50 = .ok (.aload_n 0, 1) := by decide +kernel
theorem dX9_isDoneNow_51 : decode cX9_isDoneNow 51 = .ok (.iload_n 2, 1) := by decide +kernel
theorem dX9_isDoneNow_52 : decode cX9_isDoneNow 52 = .ok (.iload_n 3, 1) := by decide +kernel
theorem dX9_isDoneNow_53 : decode cX9_isDoneNow 53 = .ok (.iload 4, 2) := by decide +kernel
theorem dX9_isDoneNow_55 : decode cX9_isDoneNow 55 = .ok (.invokevirtual 305, 3) := by decide +kernel
theorem dX9_isDoneNow_58 : decode cX9_isDoneNow 58 = .ok (.istore 5, 2) := by decide +kernel
theorem dX9_isDoneNow_60 : decode cX9_isDoneNow 60 = .ok (.iconst 1, 1) := by decide +kernel
theorem dX9_isDoneNow_61 : decode cX9_isDoneNow 61 = .ok (.ireturn, 1) := by decide +kernel
theorem dX9_runScript_0 : decode cX9_runScript 0 = .ok (.aload_n 0, 1) := by decide +kernel
theorem dX9_runScript_1 : decode cX9_runScript 1 = .ok (.iconst 0, 1) := by decide +kernel
theorem dX9_runScript_2 : decode cX9_runScript 2 = .ok (.putfield 1, 3) := by decide +kernel
theorem dX9_runScript_5 : decode cX9_runScript 5 = .ok (.aload_n 0, 1) := by decide +kernel
theorem dX9_runScript_6 : decode cX9_runScript 6 = .ok (.iload_n 1, 1) := by decide +kernel
theorem dX9_runScript_7 : decode cX9_runScript 7 = .ok (.iconst 0, 1) := by decide +kernel
theorem dX9_runScript_8 : decode cX9_runScript 8 = .ok (.aload_n 0, 1) := by decide +kernel
theorem dX9_runScript_9 : decode cX9_runScript 9 = .ok (.getfield 53, 3) := by decide +kernel
theorem dX9_runScript_12 : decode cX9_runScript 12 = .ok (.invokestatic 200, 3) := by decide +kernel
theorem dX9_runScript_15 : decode cX9_runScript 15 = .ok (.iconst 1, 1) := by decide +kernel
theorem dX9_runScript_16 : decode cX9_runScript 16 = .ok (.invokevirtual 239, 3) := by decide +kernel
theorem dX9_runScript_19 : decode cX9_runScript 19 = .ok (.ifCond .eq 5, 3) := by decide +kernel
theorem dX9_runScript_22 : decode cX9_runScript 22 = .ok (.iconst 0, 1) := by decide +kernel
theorem dX9_runScript_23 : decode cX9_runScript 23 = .ok (.ireturn, 1) := by decide +kernel
theorem dX9_runScript_24 : decode cX9_runScript 24 = .ok (.aload_n 0, 1) := by decide +kernel
theorem dX9_runScript_25 : decode cX9_runScript 25 = .ok (.iload_n 1, 1) := by decide +kernel
theorem dX9_runScript_26 : decode cX9_runScript 26 = .ok (.invokevirtual 247, 3) := by decide +kernel
theorem dX9_runScript_29 : decode cX9_runScript 29 = .ok (.aload_n 0, 1) := by decide +kernel
theorem dX9_runScript_30 : decode cX9_runScript 30 = .ok (.iconst 0, 1) := by decide +kernel
theorem dX9_runScript_31 : decode cX9_runScript 31 = .ok (.putfield 340, 3) := by decide +kernel
theorem dX9_runScript_34 : decode cX9_runScript 34 = .ok (.aload_n 0, 1) := by decide +kernel
theorem dX9_runScript_35 : decode cX9_runScript 35 = .ok (.getfield 160, 3) := by decide +kernel
theorem dX9_runScript_38 : decode cX9_runScript 38 = .ok (.ifCond .ne 17, 3) := by decide +kernel
theorem dX9_runScript_41 : decode cX9_runScript 41 = .ok (.aload_n 0, 1) := by decide +kernel
theorem dX9_runScript_42 : decode cX9_runScript 42 = .ok (.getfield 178, 3) := by decide +kernel
theorem dX9_runScript_45 : decode cX9_runScript 45 = .ok (.ifCond .eq 10, 3) := by decide +kernel
theorem dX9_runScript_48 : decode cX9_runScript 48 = .ok (.aload_n 0, 1) := by decide +kernel
theorem dX9_runScript_49 : decode cX9_runScript 49 = .ok (.invokevirtual 349, 3) := by decide +kernel
theorem dX9_runScript_52 : decode cX9_runScript 52 = .ok (.goto (-18), 3) := by decide +kernel
theorem dX9_runScript_55 : decode cX9_runScript 55 = .ok (.aload_n 0, 1) := by decide +kernel
theorem dX9_runScript_56 : decode cX9_runScript 56 = .ok (.getfield 160, 3) := by decide +kernel
theorem dX9_runScript_59 : decode cX9_runScript 59 = .ok (.ifCond .eq 5, 3) := by decide +kernel
theorem dX9_runScript_62 : decode cX9_runScript 62 = .ok (.iconst (-1), 1) := by decide +kernel
theorem dX9_runScript_63 : decode cX9_runScript 63 = .ok (.ireturn, 1) := by decide +kernel
theorem dX9_runScript_64 : decode cX9_runScript 64 = .ok (.aload_n 0, 1) := by decide +kernel
theorem dX9_runScript_65 : decode cX9_runScript 65 = .ok (.invokevirtual 302, 3) := by decide +kernel
theorem dX9_runScript_68 : decode cX9_runScript 68 = .ok (.iconst 0, 1) := by decide +kernel
theorem dX9_runScript_69 : decode cX9_runScript 69 = .ok (.istore_n 2, 1) := by decide +kernel
theorem dX9_runScript_70 : decode cX9_runScript 70 = .ok (.iload_n 2, 1) := by decide +kernel
theorem dX9_runScript_71 : decode cX9_runScript 71 = .ok (.aload_n 0, 1) := by decide +kernel
theorem dX9_runScript_72 : decode cX9_runScript 72 = .ok (.getfield 340, 3) := by decide +kernel
theorem dX9_runScript_75 : decode cX9_runScript 75 = .ok (.if_icmp .ge 19, 3) := by decide +kernel
theorem dX9_runScript_78 : decode cX9_runScript 78 = .ok (.aload_n 0, 1) := by decide +kernel
theorem dX9_runScript_79 : decode cX9_runScript 79 = .ok (.iconst 3, 1) := by decide +kernel
theorem dX9_runScript_80 : decode cX9_runScript 80 = .ok (.iload_n 2, 1) := by decide +kernel
theorem dX9_runScript_81 : decode cX9_runScript 81 = .ok (.imul, 1) := by decide +kernel
theorem dX9_runScript_82 : decode cX9_runScript 82 = .ok (.invokevirtual 352, 3) := by decide +kernel
theorem dX9_runScript_85 : decode cX9_runScript 85 = .ok (.ifCond .eq 9, 3) := by decide +kernel
theorem dX9_runScript_88 : decode cX9_runScript 88 = .ok (.iinc 2 1, 3) := by decide +kernel
theorem dX9_runScript_91 : decode cX9_runScript 91 = .ok (.goto (-21), 3) := by decide +kernel
theorem dX9_runScript_94 : decode cX9_runScript 94 = .ok (.iload_n 2, 1) := by decide +kernel
theorem dX9_runScript_95 : decode cX9_runScript 95 = .ok (.ireturn, 1) := by decide +kernel
theorem dX9_writes_0 : decode cX9_writes 0 = .ok (.aload_n 0, 1) := by decide +kernel
theorem dX9_writes_1 : decode cX9_writes 1 = .ok (.getfield 38, 3) := by decide +kernel
theorem dX9_writes_4 : decode cX9_writes 4 = .ok (.aload_n 0, 1) := by decide +kernel
theorem dX9_writes_5 : decode cX9_writes 5 = .ok (.getfield 355, 3) := by decide +kernel
theorem dX9_writes_8 : decode cX9_writes 8 = .ok (.iload_n 1, 1) := by decide +kernel
theorem dX9_writes_9 : decode cX9_writes 9 = .ok (.iastore, 1) := by decide +kernel
theorem dX9_writes_10 : decode cX9_writes 10 = .ok (.aload_n 0, 1) := by decide +kernel
theorem dX9_writes_11 : decode cX9_writes 11 = .ok (.dup, 1) := by decide +kernel
theorem dX9_writes_12 : decode cX9_writes 12 = .ok (.getfield 355, 3) := by decide +kernel
theorem dX9_writes_15 : decode cX9_writes 15 = .ok (.iconst 1, 1) := by decide +kernel
theorem dX9_writes_16 : decode cX9_writes 16 = .ok (.iadd, 1) := by decide +kernel
theorem dX9_writes_17 : decode cX9_writes 17 = .ok (.putfield 355, 3) := by decide +kernel
theorem dX9_writes_20 : decode cX9_writes 20 = .ok (.return_, 1) := by decide +kernel
theorem dX9_writesNumber_0 : decode cX9_writesNumber 0 = .ok (.iload_n 1, 1) := by decide +kernel
theorem dX9_writesNumber_1 : decode cX9_writesNumber 1 = .ok (.bipush 9, 2) := by decide +kernel
theorem dX9_writesNumber_3 : decode cX9_writesNumber 3 = .ok (.if_icmp .le 14, 3) := by decide +kernel
theorem dX9_writesNumber_6 : decode cX9_writesNumber 6 = .ok (.aload_n 0, 1) := by decide +kernel
theorem dX9_writesNumber_7 : decode cX9_writesNumber 7 = .ok (.bipush 48, 2) := by decide +kernel
theorem dX9_writesNumber_9 : decode cX9_writesNumber 9 = .ok (.iload_n 1, 1) := by decide +kernel
theorem dX9_writesNumber_10 : decode cX9_writesNumber 10 = .ok (.bipush 10, 2) := by decide +kernel
theorem dX9_writesNumber_12 : decode cX9_writesNumber 12 = .ok (.idiv, 1) := by decide +kernel
theorem dX9_writesNumber_13 : decode cX9_writesNumber 13 = .ok (.iadd, 1) := by decide +kernel
theorem dX9_writesNumber_14 : decode cX9_writesNumber 14 = .ok (.invokevirtual 358, 3) := by decide +kernel
theorem dX9_writesNumber_17 : decode cX9_writesNumber 17 = .ok (.aload_n 0, 1) := by decide +kernel
theorem dX9_writesNumber_18 : decode cX9_writesNumber 18 = .ok (.bipush 48, 2) := by decide +kernel
theorem dX9_writesNumber_20 : decode cX9_writesNumber 20 = .ok (.iload_n 1, 1) := by decide +kernel
theorem dX9_writesNumber_21 : decode cX9_writesNumber 21 = .ok (.bipush 10, 2) := by decide +kernel
theorem dX9_writesNumber_23 : decode cX9_writesNumber 23 = .ok (.irem, 1) := by decide +kernel
theorem dX9_writesNumber_24 : decode cX9_writesNumber 24 = .ok (.iadd, 1) := by decide +kernel
theorem dX9_writesNumber_25 : decode cX9_writesNumber 25 = .ok (.invokevirtual 358, 3) := by decide +kernel
theorem dX9_writesNumber_28 : decode cX9_writesNumber 28 = .ok (.return_, 1) := by decide +kernel
theorem dX9_writeQueue_0 : decode cX9_writeQueue 0 = .ok (.aload_n 0, 1) := by decide +kernel
theorem dX9_writeQueue_1 : decode cX9_writeQueue 1 = .ok (.iconst 0, 1) := by decide +kernel
theorem dX9_writeQueue_2 : decode cX9_writeQueue 2 = .ok (.putfield 1, 3) := by decide +kernel
theorem dX9_writeQueue_5 : decode cX9_writeQueue 5 = .ok (.aload_n 0, 1) := by decide +kernel
theorem dX9_writeQueue_6 : decode cX9_writeQueue 6 = .ok (.iconst 0, 1) := by decide +kernel
theorem dX9_writeQueue_7 : decode cX9_writeQueue 7 = .ok (.putfield 355, 3) := by decide +kernel
theorem dX9_writeQueue_10 : decode cX9_writeQueue 10 = .ok (.iconst 0, 1) := by decide +kernel
theorem dX9_writeQueue_11 : decode cX9_writeQueue 11 = .ok (.istore_n 2, 1) := by decide +kernel
theorem dX9_writeQueue_12 : decode cX9_writeQueue 12 = .ok (.iload_n 2, 1) := by decide +kernel
theorem dX9_writeQueue_13 : decode cX9_writeQueue 13 = .ok (.aload_n 0, 1) := by decide +kernel
theorem dX9_writeQueue_14 : decode cX9_writeQueue 14 = .ok (.iload_n 1, 1) := by decide +kernel
theorem dX9_writeQueue_15 : decode cX9_writeQueue 15 = .ok (.invokestatic 85, 3) := by decide +kernel
theorem dX9_writeQueue_18 : decode cX9_writeQueue 18 = .ok (.invokevirtual 278, 3) := by decide +kernel
theorem dX9_writeQueue_21 : decode cX9_writeQueue 21 = .ok (.if_icmp .ge 72, 3) := by decide +kernel
theorem dX9_writeQueue_24 : decode cX9_writeQueue 24 = .ok (.aload_n 0, 1) := by decide +kernel
theorem dX9_writeQueue_25 : decode cX9_writeQueue 25 = .ok (.iload_n 1, 1) := by decide +kernel
theorem dX9_writeQueue_26 : decode cX9_writeQueue 26 = .ok (.invokestatic 85, 3) := by decide +kernel
theorem dX9_writeQueue_29 : decode cX9_writeQueue 29 = .ok (.iload_n 2, 1) := by decide +kernel
theorem dX9_writeQueue_30 : decode cX9_writeQueue 30 = .ok (.invokevirtual 118, 3) := by decide +kernel
theorem dX9_writeQueue_33 : decode cX9_writeQueue 33 = .ok (.istore_n 3, 1) := by decide +kernel
theorem dX9_writeQueue_34 : decode cX9_writeQueue 34 = .ok (.iload_n 2, 1) := by decide +kernel
theorem dX9_writeQueue_35 : decode cX9_writeQueue 35 = .ok (.ifCond .le 9, 3) := by decide +kernel
theorem dX9_writeQueue_38 : decode cX9_writeQueue 38 = .ok (.aload_n 0, 1) := by decide +kernel
theorem dX9_writeQueue_39 : decode cX9_writeQueue 39 = .ok (.bipush 32, 2) := by decide +kernel
theorem dX9_writeQueue_41 : decode cX9_writeQueue 41 = .ok (.invokevirtual 358, 3) := by decide +kernel
theorem dX9_writeQueue_44 : decode cX9_writeQueue 44 = .ok (.aload_n 0, 1) := by decide +kernel
theorem dX9_writeQueue_45 : decode cX9_writeQueue 45 = .ok (.iload_n 3, 1) := by decide +kernel
theorem dX9_writeQueue_46 : decode cX9_writeQueue 46 = .ok (.invokevirtual 361, 3) := by decide +kernel
theorem dX9_writeQueue_49 : decode cX9_writeQueue 49 = .ok (.aload_n 0, 1) := by decide +kernel
theorem dX9_writeQueue_50 : decode cX9_writeQueue 50 = .ok (.bipush 58, 2) := by decide +kernel
theorem dX9_writeQueue_52 : decode cX9_writeQueue 52 = .ok (.invokevirtual 358, 3) := by decide +kernel
theorem dX9_writeQueue_55 : decode cX9_writeQueue 55 = .ok (.aload_n 0, 1) := by decide +kernel
theorem dX9_writeQueue_56 : decode cX9_writeQueue 56 = .ok (.aload_n 0, 1) := by decide +kernel
theorem dX9_writeQueue_57 : decode cX9_writeQueue 57 = .ok (.iload_n 3, 1) := by decide +kernel
theorem dX9_writeQueue_58 : decode cX9_writeQueue 58 = .ok (.bipush 6, 2) := by decide +kernel
theorem dX9_writeQueue_60 : decode cX9_writeQueue 60 = .ok (.invokevirtual 60, 3) := by decide +kernel
theorem dX9_writeQueue_63 : decode cX9_writeQueue 63 = .ok (.iconst 1, 1) := by decide +kernel
theorem dX9_writeQueue_64 : decode cX9_writeQueue 64 = .ok (.isub, 1) := by decide +kernel
theorem dX9_writeQueue_65 : decode cX9_writeQueue 65 = .ok (.invokevirtual 361, 3) := by decide +kernel
theorem dX9_writeQueue_68 : decode cX9_writeQueue 68 = .ok (.aload_n 0, 1) := by decide +kernel
theorem dX9_writeQueue_69 : decode cX9_writeQueue 69 = .ok (.iload_n 3, 1) := by decide +kernel
theorem dX9_writeQueue_70 : decode cX9_writeQueue 70 = .ok (.aload_n 0, 1) := by decide +kernel
theorem dX9_writeQueue_71 : decode cX9_writeQueue 71 = .ok (.iload_n 3, 1) := by decide +kernel
theorem dX9_writeQueue_72 : decode cX9_writeQueue 72 = .ok (.invokevirtual 102, 3) := by decide +kernel
theorem dX9_writeQueue_75 : decode cX9_writeQueue 75 = .ok (.invokevirtual 75, 3) := by decide +kernel
theorem dX9_writeQueue_78 : decode cX9_writeQueue 78 = .ok (.ifCond .eq 9, 3) := by decide +kernel
theorem dX9_writeQueue_81 : decode cX9_writeQueue 81 = .ok (.aload_n 0, 1) := by decide +kernel
theorem dX9_writeQueue_82 : decode cX9_writeQueue 82 = .ok (.bipush 33, 2) := by decide +kernel
theorem dX9_writeQueue_84 : decode cX9_writeQueue 84 = .ok (.invokevirtual 358, 3) := by decide +kernel
theorem dX9_writeQueue_87 : decode cX9_writeQueue 87 = .ok (.iinc 2 1, 3) := by decide +kernel
theorem dX9_writeQueue_90 : decode cX9_writeQueue 90 = .ok (.goto (-78), 3) := by decide +kernel
theorem dX9_writeQueue_93 : decode cX9_writeQueue 93 = .ok (.aload_n 0, 1) := by decide +kernel
theorem dX9_writeQueue_94 : decode cX9_writeQueue 94 = .ok (.getfield 355, 3) := by decide +kernel
theorem dX9_writeQueue_97 : decode cX9_writeQueue 97 = .ok (.ireturn, 1) := by decide +kernel
theorem dX9_outputByte_0 : decode cX9_outputByte 0 = .ok (.aload_n 0, 1) := by decide +kernel
theorem dX9_outputByte_1 : decode cX9_outputByte 1 = .ok (.iconst 0, 1) := by decide +kernel
theorem dX9_outputByte_2 : decode cX9_outputByte 2 = .ok (.putfield 1, 3) := by decide +kernel
theorem dX9_outputByte_5 : decode cX9_outputByte 5 = .ok (.aload_n 0, 1) := by decide +kernel
theorem dX9_outputByte_6 : decode cX9_outputByte 6 = .ok (.iload_n 1, 1) := by decide +kernel
theorem dX9_outputByte_7 : decode cX9_outputByte 7 = .ok (.iconst 0, 1) := by decide +kernel
theorem dX9_outputByte_8 : decode cX9_outputByte 8 = .ok (.aload_n 0, 1) := by decide +kernel
theorem dX9_outputByte_9 : decode cX9_outputByte 9 = .ok (.getfield 355, 3) := by decide +kernel
theorem dX9_outputByte_12 : decode cX9_outputByte 12 = .ok (.iconst 1, 1) := by decide +kernel
theorem dX9_outputByte_13 : decode cX9_outputByte 13 = .ok (.isub, 1) := by decide +kernel
theorem dX9_outputByte_14 : decode cX9_outputByte 14 = .ok (.invokestatic 200, 3) := by decide +kernel
theorem dX9_outputByte_17 : decode cX9_outputByte 17 = .ok (.iconst 1, 1) := by decide +kernel
theorem dX9_outputByte_18 : decode cX9_outputByte 18 = .ok (.invokevirtual 239, 3) := by decide +kernel
theorem dX9_outputByte_21 : decode cX9_outputByte 21 = .ok (.ifCond .eq 7, 3) := by decide +kernel
theorem dX9_outputByte_24 : decode cX9_outputByte 24 = .ok (.iconst 0, 1) := by decide +kernel
theorem dX9_outputByte_25 : decode cX9_outputByte 25 = .ok (.goto 9, 3) := by decide +kernel
theorem dX9_outputByte_28 : decode cX9_outputByte 28 = .ok (.aload_n 0, 1) := by decide +kernel
theorem dX9_outputByte_29 : decode cX9_outputByte 29 = .ok (.getfield 38, 3) := by decide +kernel
theorem dX9_outputByte_32 : decode cX9_outputByte 32 = .ok (.iload_n 1, 1) := by decide +kernel
theorem dX9_outputByte_33 : decode cX9_outputByte 33 = .ok (.iaload, 1) := by decide +kernel
theorem dX9_outputByte_34 : decode cX9_outputByte 34 = .ok (.ireturn, 1) := by decide +kernel
theorem dX9_undoableCount_0 : decode cX9_undoableCount 0 = .ok (.aload_n 0, 1) := by decide +kernel
theorem dX9_undoableCount_1 : decode cX9_undoableCount 1 = .ok (.iconst 0, 1) := by decide +kernel
theorem dX9_undoableCount_2 : decode cX9_undoableCount 2 = .ok (.putfield 1, 3) := by decide +kernel
theorem dX9_undoableCount_5 : decode cX9_undoableCount 5 = .ok (.aload_n 0, 1) := by decide +kernel
theorem dX9_undoableCount_6 : decode cX9_undoableCount 6 = .ok (.getfield 253, 3) := by decide +kernel
theorem dX9_undoableCount_9 : decode cX9_undoableCount 9 = .ok (.ireturn, 1) := by decide +kernel
theorem dX9_undo_0 : decode cX9_undo 0 = .ok (.aload_n 0, 1) := by decide +kernel
theorem dX9_undo_1 : decode cX9_undo 1 = .ok (.iconst 0, 1) := by decide +kernel
theorem dX9_undo_2 : decode cX9_undo 2 = .ok (.putfield 1, 3) := by decide +kernel
theorem dX9_undo_5 : decode cX9_undo 5 = .ok (.aload_n 0, 1) := by decide +kernel
theorem dX9_undo_6 : decode cX9_undo 6 = .ok (.aload_n 0, 1) := by decide +kernel
theorem dX9_undo_7 : decode cX9_undo 7 = .ok (.getfield 253, 3) := by decide +kernel
theorem dX9_undo_10 : decode cX9_undo 10 = .ok (.ifCond .le 7, 3) := by decide +kernel
theorem dX9_undo_13 : decode cX9_undo 13 = .ok (.iconst 1, 1) := by decide +kernel
theorem dX9_undo_14 : decode cX9_undo 14 = .ok (.goto 4, 3) := by decide +kernel
theorem dX9_undo_17 : decode cX9_undo 17 = .ok (.iconst 0, 1) := by decide +kernel
theorem dX9_undo_18 : decode cX9_undo 18 = .ok (.iconst 1, 1) := by decide +kernel
theorem dX9_undo_19 : decode cX9_undo 19 = .ok (.invokevirtual 239, 3) := by decide +kernel
theorem dX9_undo_22 : decode cX9_undo 22 = .ok (.ifCond .eq 5, 3) := by decide +kernel
theorem dX9_undo_25 : decode cX9_undo 25 = .ok (.iconst 0, 1) := by decide +kernel
theorem dX9_undo_26 : decode cX9_undo 26 = .ok (.ireturn, 1) := by decide +kernel
theorem dX9_undo_27 : decode cX9_undo 27 = .ok (.aload_n 0, 1) := by decide +kernel
theorem dX9_undo_28 : decode cX9_undo 28 = .ok (.dup, 1) := by decide +kernel
theorem dX9_undo_29 : decode cX9_undo 29 = .ok (.getfield 253, 3) := by decide +kernel
theorem dX9_undo_32 : decode cX9_undo 32 = .ok (.iconst 1, 1) := by decide +kernel
theorem dX9_undo_33 : decode cX9_undo 33 = .ok (.isub, 1) := by decide +kernel
theorem dX9_undo_34 : decode cX9_undo 34 = .ok (.putfield 253, 3) := by decide +kernel
theorem dX9_undo_37 : decode cX9_undo 37 = .ok (.aload_n 0, 1) := by decide +kernel
theorem dX9_undo_38 : decode cX9_undo 38 = .ok (.getfield 26, 3) := by decide +kernel
theorem dX9_undo_41 : decode cX9_undo 41 = .ok (.sipush 144, 3) := by decide +kernel
theorem dX9_undo_44 : decode cX9_undo 44 = .ok (.aload_n 0, 1) := by decide +kernel
theorem dX9_undo_45 : decode cX9_undo 45 = .ok (.getfield 253, 3) := by decide +kernel
theorem dX9_undo_48 : decode cX9_undo 48 = .ok (.imul, 1) := by decide +kernel
theorem dX9_undo_49 : decode cX9_undo 49 = .ok (.aload_n 0, 1) := by decide +kernel
theorem dX9_undo_50 : decode cX9_undo 50 = .ok (.getfield 13, 3) := by decide +kernel
theorem dX9_undo_53 : decode cX9_undo 53 = .ok (.iconst 0, 1) := by decide +kernel
theorem dX9_undo_54 : decode cX9_undo 54 = .ok (.sipush 144, 3) := by decide +kernel
theorem dX9_undo_57 : decode cX9_undo 57 = .ok (.invokestatic 243, 3) := by decide +kernel
theorem dX9_undo_60 : decode cX9_undo 60 = .ok (.aload_n 0, 1) := by decide +kernel
theorem dX9_undo_61 : decode cX9_undo 61 = .ok (.getfield 253, 3) := by decide +kernel
theorem dX9_undo_64 : decode cX9_undo 64 = .ok (.ireturn, 1) := by decide +kernel
theorem dX9_saveSnapshot_0 : decode cX9_saveSnapshot 0 = .ok (.aload_n 0, 1) := by decide +kernel
theorem dX9_saveSnapshot_1 : decode cX9_saveSnapshot 1 = .ok (.iconst 0, 1) := by decide +kernel
theorem dX9_saveSnapshot_2 : decode cX9_saveSnapshot 2 = .ok (.putfield 1, 3) := by decide +kernel
theorem dX9_saveSnapshot_5 : decode cX9_saveSnapshot 5 = .ok (.aload_n 0, 1) := by decide +kernel
theorem dX9_saveSnapshot_6 : decode cX9_saveSnapshot 6 = .ok (.getfield 13, 3) := by decide +kernel
theorem dX9_saveSnapshot_9 : decode cX9_saveSnapshot 9 = .ok (.iconst 0, 1) := by decide +kernel
theorem dX9_saveSnapshot_10 : decode cX9_saveSnapshot 10 = .ok (.aload_n 0, 1) := by decide +kernel
theorem dX9_saveSnapshot_11 : decode cX9_saveSnapshot 11 = .ok (.getfield 20, 3) := by decide +kernel
theorem dX9_saveSnapshot_14 : decode cX9_saveSnapshot 14 = .ok (.iconst 0, 1) := by decide +kernel
theorem dX9_saveSnapshot_15 : decode cX9_saveSnapshot 15 = .ok (.sipush 144, 3) := by decide +kernel
theorem dX9_saveSnapshot_18 : decode cX9_saveSnapshot 18 = .ok (.invokestatic 243, 3) := by decide +kernel
theorem dX9_saveSnapshot_21 : decode cX9_saveSnapshot 21 = .ok (.aload_n 0, 1) := by decide +kernel
theorem dX9_saveSnapshot_22 : decode cX9_saveSnapshot 22 = .ok (.iconst 1, 1) := by decide +kernel
theorem dX9_saveSnapshot_23 : decode cX9_saveSnapshot 23 = .ok (.putfield 256, 3) := by decide +kernel
theorem dX9_saveSnapshot_26 : decode cX9_saveSnapshot 26 = .ok (.return_, 1) := by decide +kernel
theorem dX9_restoreSnapshot_0 : decode cX9_restoreSnapshot 0 = .ok (.aload_n 0, 1) := by decide +kernel
theorem dX9_restoreSnapshot_1 : decode cX9_restoreSnapshot 1 = .ok (.iconst 0, 1) := by decide +kernel
theorem dX9_restoreSnapshot_2 : decode cX9_restoreSnapshot 2 = .ok (.putfield 1, 3) := by decide +kernel
theorem dX9_restoreSnapshot_5 : decode cX9_restoreSnapshot 5 = .ok (.aload_n 0, 1) := by decide +kernel
theorem dX9_restoreSnapshot_6 : decode cX9_restoreSnapshot 6 = .ok (.aload_n 0, 1) := by decide +kernel
theorem dX9_restoreSnapshot_7 : decode cX9_restoreSnapshot 7 = .ok (.getfield 256, 3) := by decide +kernel
theorem dX9_restoreSnapshot_10 : decode cX9_restoreSnapshot 10 = .ok (.iconst 1, 1) := by decide +kernel
theorem dX9_restoreSnapshot_11 : decode cX9_restoreSnapshot 11 = .ok (.invokevirtual 239, 3) := by decide +kernel
theorem dX9_restoreSnapshot_14 : decode cX9_restoreSnapshot 14 = .ok (.ifCond .eq 5, 3) := by decide +kernel
theorem dX9_restoreSnapshot_17 : decode cX9_restoreSnapshot 17 = .ok (.iconst 0, 1) := by decide +kernel
theorem dX9_restoreSnapshot_18 : decode cX9_restoreSnapshot 18 = .ok (.ireturn, 1) := by decide +kernel
theorem dX9_restoreSnapshot_19 : decode cX9_restoreSnapshot 19 = .ok (.aload_n 0, 1) := by decide +kernel
theorem dX9_restoreSnapshot_20 : decode cX9_restoreSnapshot 20 = .ok (.getfield 20, 3) := by decide +kernel
theorem dX9_restoreSnapshot_23 : decode cX9_restoreSnapshot 23 = .ok (.iconst 0, 1) := by decide +kernel
theorem dX9_restoreSnapshot_24 : decode cX9_restoreSnapshot 24 = .ok (.aload_n 0, 1) := by decide +kernel
theorem dX9_restoreSnapshot_25 : decode cX9_restoreSnapshot 25 = .ok (.getfield 13, 3) := by decide +kernel
theorem dX9_restoreSnapshot_28 : decode cX9_restoreSnapshot 28 = .ok (.iconst 0, 1) := by decide +kernel
theorem dX9_restoreSnapshot_29 : decode cX9_restoreSnapshot 29 = .ok (.sipush 144, 3) := by decide +kernel
theorem dX9_restoreSnapshot_32 : decode cX9_restoreSnapshot 32 = .ok (.invokestatic 243, 3) := by decide +kernel
theorem dX9_restoreSnapshot_35 : decode cX9_restoreSnapshot 35 = .ok (.aload_n 0, 1) := by decide +kernel
theorem dX9_restoreSnapshot_36 : decode cX9_restoreSnapshot 36 = .ok (.iconst 0, 1) := by decide +kernel
theorem dX9_restoreSnapshot_37 : decode cX9_restoreSnapshot 37 = .ok (.putfield 253, 3) := by decide +kernel
theorem dX9_restoreSnapshot_40 : decode cX9_restoreSnapshot 40 = .ok (.aload_n 0, 1) := by decide +kernel
theorem dX9_restoreSnapshot_41 : decode cX9_restoreSnapshot 41 = .ok (.getfield 13, 3) := by decide +kernel
theorem dX9_restoreSnapshot_44 : decode cX9_restoreSnapshot 44 = .ok (.iconst 0, 1) := by decide +kernel
theorem dX9_restoreSnapshot_45 : decode cX9_restoreSnapshot 45 = .ok (.iaload, 1) := by decide +kernel
theorem dX9_restoreSnapshot_46 : decode cX9_restoreSnapshot 46 = .ok (.ireturn, 1) := by decide +kernel
theorem dJx29ce0_ordinal_8abf5_0 : decode cJx29ce0_ordinal_8abf5 0 = .ok (.aload_n 0, 1) := by decide +kernel
theorem dJx29ce0_ordinal_8abf5_1 : decode cJx29ce0_ordinal_8abf5 1 = .ok (.getfield 7, 3) := by decide +kernel
theorem dJx29ce0_ordinal_8abf5_4 : decode cJx29ce0_ordinal_8abf5 4 = .ok (.ireturn, 1) := by decide +kernel
theorem dJ9_abs_0f7a4_0 : decode cJ9_abs_0f7a4 0 = .ok (.iload_n 0, 1) := by decide +kernel
theorem dJ9_abs_0f7a4_1 : decode cJ9_abs_0f7a4 1 = .ok (.ifCond .ge 8, 3) := by decide +kernel
theorem dJ9_abs_0f7a4_4 : decode cJ9_abs_0f7a4 4 = .ok (.iload_n 0, 1) := by decide +kernel
theorem dJ9_abs_0f7a4_5 : decode cJ9_abs_0f7a4 5 = .ok (.ineg, 1) := by decide +kernel
theorem dJ9_abs_0f7a4_6 : decode cJ9_abs_0f7a4 6 = .ok (.goto 4, 3) := by decide +kernel
theorem dJ9_abs_0f7a4_9 : decode cJ9_abs_0f7a4 9 = .ok (.iload_n 0, 1) := by decide +kernel
theorem dJ9_abs_0f7a4_10 : decode cJ9_abs_0f7a4 10 = .ok (.ireturn, 1) := by decide +kernel
theorem dJ9_max_7cf53_0 : decode cJ9_max_7cf53 0 = .ok (.iload_n 0, 1) := by decide +kernel
theorem dJ9_max_7cf53_1 : decode cJ9_max_7cf53 1 = .ok (.iload_n 1, 1) := by decide +kernel
theorem dJ9_max_7cf53_2 : decode cJ9_max_7cf53 2 = .ok (.if_icmp .lt 7, 3) := by decide +kernel
theorem dJ9_max_7cf53_5 : decode cJ9_max_7cf53 5 = .ok (.iload_n 0, 1) := by decide +kernel
theorem dJ9_max_7cf53_6 : decode cJ9_max_7cf53 6 = .ok (.goto 4, 3) := by decide +kernel
theorem dJ9_max_7cf53_9 : decode cJ9_max_7cf53 9 = .ok (.iload_n 1, 1) := by decide +kernel
theorem dJ9_max_7cf53_10 : decode cJ9_max_7cf53 10 = .ok (.ireturn, 1) := by decide +kernel
theorem dJ9_min_7cf53_0 : decode cJ9_min_7cf53 0 = .ok (.iload_n 0, 1) := by decide +kernel
theorem dJ9_min_7cf53_1 : decode cJ9_min_7cf53 1 = .ok (.iload_n 1, 1) := by decide +kernel
theorem dJ9_min_7cf53_2 : decode cJ9_min_7cf53 2 = .ok (.if_icmp .gt 7, 3) := by decide +kernel
theorem dJ9_min_7cf53_5 : decode cJ9_min_7cf53 5 = .ok (.iload_n 0, 1) := by decide +kernel
theorem dJ9_min_7cf53_6 : decode cJ9_min_7cf53 6 = .ok (.goto 4, 3) := by decide +kernel
theorem dJ9_min_7cf53_9 : decode cJ9_min_7cf53 9 = .ok (.iload_n 1, 1) := by decide +kernel
theorem dJ9_min_7cf53_10 : decode cJ9_min_7cf53 10 = .ok (.ireturn, 1) := by decide +kernel
theorem dJ0_length_8abf5_0 : decode cJ0_length_8abf5 0 = .ok (.aload_n 0, 1) := by decide +kernel
theorem dJ0_length_8abf5_1 : decode cJ0_length_8abf5 1 = .ok (.getfield 9, 3) := by decide +kernel
theorem dJ0_length_8abf5_4 : decode cJ0_length_8abf5 4 = .ok (.arraylength, 1) := by decide +kernel
theorem dJ0_length_8abf5_5 : decode cJ0_length_8abf5 5 = .ok (.aload_n 0, 1) := by decide +kernel
theorem dJ0_length_8abf5_6 : decode cJ0_length_8abf5 6 = .ok (.invokevirtual 335, 3) := by decide +kernel
theorem dJ0_length_8abf5_9 : decode cJ0_length_8abf5 9 = .ok (.ishr, 1) := by decide +kernel
theorem dJ0_length_8abf5_10 : decode cJ0_length_8abf5 10 = .ok (.ireturn, 1) := by decide +kernel
theorem dJ0_charAt_5068e_0 : decode cJ0_charAt_5068e 0 = .ok (.aload_n 0, 1) := by decide +kernel
theorem dJ0_charAt_5068e_1 : decode cJ0_charAt_5068e 1 = .ok (.invokevirtual 492, 3) := by decide +kernel
theorem dJ0_charAt_5068e_4 : decode cJ0_charAt_5068e 4 = .ok (.ifCond .eq 12, 3) := by decide +kernel
theorem dJ0_charAt_5068e_7 : decode cJ0_charAt_5068e 7 = .ok (.aload_n 0, 1) := by decide +kernel
theorem dJ0_charAt_5068e_8 : decode cJ0_charAt_5068e 8 = .ok (.getfield 9, 3) := by decide +kernel
theorem dJ0_charAt_5068e_11 : decode cJ0_charAt_5068e 11 = .ok (.iload_n 1, 1) := by decide +kernel
theorem dJ0_charAt_5068e_12 : decode cJ0_charAt_5068e 12 = .ok (.invokestatic 495, 3) := by decide +kernel
theorem dJ0_charAt_5068e_15 : decode cJ0_charAt_5068e 15 = .ok (.ireturn, 1) := by decide +kernel
theorem dJ0_charAt_5068e_16 : decode cJ0_charAt_5068e 16 = .ok (.aload_n 0, 1) := by decide +kernel
theorem dJ0_charAt_5068e_17 : decode cJ0_charAt_5068e 17 = .ok (.getfield 9, 3) := by decide +kernel
theorem dJ0_charAt_5068e_20 : decode cJ0_charAt_5068e 20 = .ok (.iload_n 1, 1) := by decide +kernel
theorem dJ0_charAt_5068e_21 : decode cJ0_charAt_5068e 21 = .ok (.invokestatic 498, 3) := by decide +kernel
theorem dJ0_charAt_5068e_24 : decode cJ0_charAt_5068e 24 = .ok (.ireturn, 1) := by decide +kernel
theorem dJ0_coder_7d493_0 : decode cJ0_coder_7d493 0 = .ok (.getstatic 38, 3) := by decide +kernel
theorem dJ0_coder_7d493_3 : decode cJ0_coder_7d493 3 = .ok (.ifCond .eq 10, 3) := by decide +kernel
theorem dJ0_coder_7d493_6 : decode cJ0_coder_7d493 6 = .ok (.aload_n 0, 1) := by decide +kernel
theorem dJ0_coder_7d493_7 : decode cJ0_coder_7d493 7 = .ok (.getfield 15, 3) := by decide +kernel
theorem dJ0_coder_7d493_10 : decode cJ0_coder_7d493 10 = .ok (.goto 4, 3) := by decide +kernel
theorem dJ0_coder_7d493_13 : decode cJ0_coder_7d493 13 = .ok (.iconst 1, 1) := by decide +kernel
theorem dJ0_coder_7d493_14 : decode cJ0_coder_7d493 14 = .ok (.ireturn, 1) := by decide +kernel
theorem dJ0_isLatin1_aae02_0 : decode cJ0_isLatin1_aae02 0 = .ok (.getstatic 38, 3) := by decide +kernel
theorem dJ0_isLatin1_aae02_3 : decode cJ0_isLatin1_aae02 3 = .ok (.ifCond .eq 14, 3) := by decide +kernel
theorem dJ0_isLatin1_aae02_6 : decode cJ0_isLatin1_aae02 6 = .ok (.aload_n 0, 1) := by decide +kernel
theorem dJ0_isLatin1_aae02_7 : decode cJ0_isLatin1_aae02 7 = .ok (.getfield 15, 3) := by decide +kernel
theorem dJ0_isLatin1_aae02_10 : decode cJ0_isLatin1_aae02 10 = .ok (.ifCond .ne 7, 3) := by decide +kernel
theorem dJ0_isLatin1_aae02_13 : decode cJ0_isLatin1_aae02 13 = .ok (.iconst 1, 1) := by decide +kernel
theorem dJ0_isLatin1_aae02_14 : decode cJ0_isLatin1_aae02 14 = .ok (.goto 4, 3) := by decide +kernel
theorem dJ0_isLatin1_aae02_17 : decode cJ0_isLatin1_aae02 17 = .ok (.iconst 0, 1) := by decide +kernel
theorem dJ0_isLatin1_aae02_18 : decode cJ0_isLatin1_aae02 18 = .ok (.ireturn, 1) := by decide +kernel
theorem dJ0_checkIndex_df160_0 : decode cJ0_checkIndex_df160 0 = .ok (.iload_n 0, 1) := by decide +kernel
theorem dJ0_checkIndex_df160_1 : decode cJ0_checkIndex_df160 1 = .ok (.iload_n 1, 1) := by decide +kernel
theorem dJ0_checkIndex_df160_2 : decode cJ0_checkIndex_df160 2 = .ok (.getstatic 1053, 3) := by decide +kernel
theorem dJ0_checkIndex_df160_5 : decode cJ0_checkIndex_df160 5 = .ok (.invokestatic 1059, 3) := by decide +kernel
theorem dJ0_checkIndex_df160_8 : decode cJ0_checkIndex_df160 8 = .ok (.pop, 1) := by decide +kernel
theorem dJ0_checkIndex_df160_9 : decode cJ0_checkIndex_df160 9 = .ok (.return_, 1) := by decide +kernel
theorem dJ1_charAt_3b067_0 : decode cJ1_charAt_3b067 0 = .ok (.iload_n 1, 1) := by decide +kernel
theorem dJ1_charAt_3b067_1 : decode cJ1_charAt_3b067 1 = .ok (.aload_n 0, 1) := by decide +kernel
theorem dJ1_charAt_3b067_2 : decode cJ1_charAt_3b067 2 = .ok (.arraylength, 1) := by decide +kernel
theorem dJ1_charAt_3b067_3 : decode cJ1_charAt_3b067 3 = .ok (.invokestatic 9, 3) := by decide +kernel
theorem dJ1_charAt_3b067_6 : decode cJ1_charAt_3b067 6 = .ok (.aload_n 0, 1) := by decide +kernel
theorem dJ1_charAt_3b067_7 : decode cJ1_charAt_3b067 7 = .ok (.iload_n 1, 1) := by decide +kernel
theorem dJ1_charAt_3b067_8 : decode cJ1_charAt_3b067 8 = .ok (.baload, 1) := by decide +kernel
theorem dJ1_charAt_3b067_9 : decode cJ1_charAt_3b067 9 = .ok (.sipush 255, 3) := by decide +kernel
theorem dJ1_charAt_3b067_12 : decode cJ1_charAt_3b067 12 = .ok (.iand, 1) := by decide +kernel
theorem dJ1_charAt_3b067_13 : decode cJ1_charAt_3b067 13 = .ok (.i2c, 1) := by decide +kernel
theorem dJ1_charAt_3b067_14 : decode cJ1_charAt_3b067 14 = .ok (.ireturn, 1) := by decide +kernel
theorem dJ2_getChar_3b067_0 : decode cJ2_getChar_3b067 0 = .ok (.getstatic 44, 3) := by decide +kernel
theorem dJ2_getChar_3b067_3 : decode cJ2_getChar_3b067 3 = .ok (.ifCond .ne 25, 3) := by decide +kernel
theorem dJ2_getChar_3b067_6 : decode cJ2_getChar_3b067 6 = .ok (.iload_n 1, 1) := by decide +kernel
theorem dJ2_getChar_3b067_7 : decode cJ2_getChar_3b067 7 = .ok (.ifCond .lt 11, 3) := by decide +kernel
theorem dJ2_getChar_3b067_10 : decode cJ2_getChar_3b067 10 = .ok (.iload_n 1, 1) := by decide +kernel
theorem dJ2_getChar_3b067_11 : decode cJ2_getChar_3b067 11 = .ok (.aload_n 0, 1) := by decide +kernel
theorem dJ2_getChar_3b067_12 : decode cJ2_getChar_3b067 12 = .ok (.invokestatic 48, 3) := by decide +kernel
theorem dJ2_getChar_3b067_15 : decode cJ2_getChar_3b067 15 = .ok (.if_icmp .lt 13, 3) := by decide +kernel
theorem dJ2_getChar_3b067_18 : decode cJ2_getChar_3b067 18 = .ok (.new 52, 3) := by decide +kernel
theorem dJ2_getChar_3b067_21 : decode cJ2_getChar_3b067 21 = .ok (.dup, 1) := by decide +kernel
theorem dJ2_getChar_3b067_22 : decode cJ2_getChar_3b067 22 = .ok (.ldc 54, 2) := by decide +kernel
theorem dJ2_getChar_3b067_24 : decode cJ2_getChar_3b067 24 = .ok (.invokespecial 56, 3) := by decide +kernel
theorem dJ2_getChar_3b067_27 : decode cJ2_getChar_3b067 27 = .ok (.athrow, 1) := by decide +kernel
theorem dJ2_getChar_3b067_28 : decode cJ2_getChar_3b067 28 = .ok (.iload_n 1, 1) := by decide +kernel
theorem dJ2_getChar_3b067_29 : decode cJ2_getChar_3b067 29 = .ok (.iconst 1, 1) := by decide +kernel
theorem dJ2_getChar_3b067_30 : decode cJ2_getChar_3b067 30 = .ok (.ishl, 1) := by decide +kernel
theorem dJ2_getChar_3b067_31 : decode cJ2_getChar_3b067 31 = .ok (.istore_n 1, 1) := by decide +kernel
theorem dJ2_getChar_3b067_32 : decode cJ2_getChar_3b067 32 = .ok (.aload_n 0, 1) := by decide +kernel
theorem dJ2_getChar_3b067_33 : decode cJ2_getChar_3b067 33 = .ok (.iload_n 1, 1) := by decide +kernel
theorem dJ2_getChar_3b067_34 : decode cJ2_getChar_3b067 34 = .ok (.iinc 1 1, 3) := by decide +kernel
theorem dJ2_getChar_3b067_37 : decode cJ2_getChar_3b067 37 = .ok (.baload, 1) := by decide +kernel
theorem dJ2_getChar_3b067_38 : decode cJ2_getChar_3b067 38 = .ok (.sipush 255, 3) := by decide +kernel
theorem dJ2_getChar_3b067_41 : decode cJ2_getChar_3b067 41 = .ok (.iand, 1) := by decide +kernel
theorem dJ2_getChar_3b067_42 : decode cJ2_getChar_3b067 42 = .ok (.getstatic 59, 3) := by decide +kernel
theorem dJ2_getChar_3b067_45 : decode cJ2_getChar_3b067 45 = .ok (.ishl, 1) := by decide +kernel
theorem dJ2_getChar_3b067_46 : decode cJ2_getChar_3b067 46 = .ok (.aload_n 0, 1) := by decide +kernel
theorem dJ2_getChar_3b067_47 : decode cJ2_getChar_3b067 47 = .ok (.iload_n 1, 1) := by decide +kernel
theorem dJ2_getChar_3b067_48 : decode cJ2_getChar_3b067 48 = .ok (.baload, 1) := by decide +kernel
theorem dJ2_getChar_3b067_49 : decode cJ2_getChar_3b067 49 = .ok (.sipush 255, 3) := by decide +kernel
theorem dJ2_getChar_3b067_52 : decode cJ2_getChar_3b067 52 = .ok (.iand, 1) := by decide +kernel
theorem dJ2_getChar_3b067_53 : decode cJ2_getChar_3b067 53 = .ok (.getstatic 63, 3) := by decide +kernel
theorem dJ2_getChar_3b067_56 : decode cJ2_getChar_3b067 56 = .ok (.ishl, 1) := by decide +kernel
theorem dJ2_getChar_3b067_57 : decode cJ2_getChar_3b067 57 = .ok (.ior, 1) := by decide +kernel
theorem dJ2_getChar_3b067_58 : decode cJ2_getChar_3b067 58 = .ok (.i2c, 1) := by decide +kernel
theorem dJ2_getChar_3b067_59 : decode cJ2_getChar_3b067 59 = .ok (.ireturn, 1) := by decide +kernel
theorem dJ2_length_9d52b_0 : decode cJ2_length_9d52b 0 = .ok (.aload_n 0, 1) := by decide +kernel
theorem dJ2_length_9d52b_1 : decode cJ2_length_9d52b 1 = .ok (.arraylength, 1) := by decide +kernel
theorem dJ2_length_9d52b_2 : decode cJ2_length_9d52b 2 = .ok (.iconst 1, 1) := by decide +kernel
theorem dJ2_length_9d52b_3 : decode cJ2_length_9d52b 3 = .ok (.ishr, 1) := by decide +kernel
theorem dJ2_length_9d52b_4 : decode cJ2_length_9d52b 4 = .ok (.ireturn, 1) := by decide +kernel
theorem dJ2_charAt_3b067_0 : decode cJ2_charAt_3b067 0 = .ok (.iload_n 1, 1) := by decide +kernel
theorem dJ2_charAt_3b067_1 : decode cJ2_charAt_3b067 1 = .ok (.aload_n 0, 1) := by decide +kernel
theorem dJ2_charAt_3b067_2 : decode cJ2_charAt_3b067 2 = .ok (.invokestatic 67, 3) := by decide +kernel
theorem dJ2_charAt_3b067_5 : decode cJ2_charAt_3b067 5 = .ok (.aload_n 0, 1) := by decide +kernel
theorem dJ2_charAt_3b067_6 : decode cJ2_charAt_3b067 6 = .ok (.iload_n 1, 1) := by decide +kernel
theorem dJ2_charAt_3b067_7 : decode cJ2_charAt_3b067 7 = .ok (.invokestatic 71, 3) := by decide +kernel
theorem dJ2_charAt_3b067_10 : decode cJ2_charAt_3b067 10 = .ok (.ireturn, 1) := by decide +kernel
theorem dJ2_checkIndex_2214a_0 : decode cJ2_checkIndex_2214a 0 = .ok (.iload_n 0, 1) := by decide +kernel
theorem dJ2_checkIndex_2214a_1 : decode cJ2_checkIndex_2214a 1 = .ok (.aload_n 1, 1) := by decide +kernel
theorem dJ2_checkIndex_2214a_2 : decode cJ2_checkIndex_2214a 2 = .ok (.invokestatic 48, 3) := by decide +kernel
theorem dJ2_checkIndex_2214a_5 : decode cJ2_checkIndex_2214a 5 = .ok (.invokestatic 414, 3) := by decide +kernel
theorem dJ2_checkIndex_2214a_8 : decode cJ2_checkIndex_2214a 8 = .ok (.return_, 1) := by decide +kernel
theorem dJ3_checkIndex_8e157_0 : decode cJ3_checkIndex_8e157 0 = .ok (.iload_n 0, 1) := by decide +kernel
theorem dJ3_checkIndex_8e157_1 : decode cJ3_checkIndex_8e157 1 = .ok (.ifCond .lt 8, 3) := by decide +kernel
theorem dJ3_checkIndex_8e157_4 : decode cJ3_checkIndex_8e157 4 = .ok (.iload_n 0, 1) := by decide +kernel
theorem dJ3_checkIndex_8e157_5 : decode cJ3_checkIndex_8e157 5 = .ok (.iload_n 1, 1) := by decide +kernel
theorem dJ3_checkIndex_8e157_6 : decode cJ3_checkIndex_8e157 6 = .ok (.if_icmp .lt 10, 3) := by decide +kernel
theorem dJ3_checkIndex_8e157_9 : decode cJ3_checkIndex_8e157 9 = .ok (.aload_n 2, 1) := by decide +kernel
theorem dJ3_checkIndex_8e157_10 : decode cJ3_checkIndex_8e157 10 = .ok (.iload_n 0, 1) := by decide +kernel
theorem dJ3_checkIndex_8e157_11 : decode cJ3_checkIndex_8e157 11 = .ok (.iload_n 1, 1) := by decide +kernel
theorem dJ3_checkIndex_8e157_12 : decode cJ3_checkIndex_8e157 12 = .ok (.invokestatic 95, 3) := by decide +kernel
theorem dJ3_checkIndex_8e157_15 : decode cJ3_checkIndex_8e157 15 = .ok (.athrow, 1) := by decide +kernel
theorem dJ3_checkIndex_8e157_16 : decode cJ3_checkIndex_8e157 16 = .ok (.iload_n 0, 1) := by decide +kernel
theorem dJ3_checkIndex_8e157_17 : decode cJ3_checkIndex_8e157 17 = .ok (.ireturn, 1) := by decide +kernel
theorem dL_loadGame_0 : decode cL_loadGame 0 = .ok (.aload_n 2, 1) := by decide +kernel
theorem dL_loadGame_1 : decode cL_loadGame 1 = .ok (.iconst 0, 1) := by decide +kernel
theorem dL_loadGame_2 : decode cL_loadGame 2 = .ok (.aload_n 0, 1) := by decide +kernel
theorem dL_loadGame_3 : decode cL_loadGame 3 = .ok (.iload_n 1, 1) := by decide +kernel
theorem dL_loadGame_4 : decode cL_loadGame 4 = .ok (.invokevirtual 7, 3) := by decide +kernel
theorem dL_loadGame_7 : decode cL_loadGame 7 = .ok (.i2l, 1) := by decide +kernel
theorem dL_loadGame_8 : decode cL_loadGame 8 = .ok (.lastore, 1) := by decide +kernel
theorem dL_loadGame_9 : decode cL_loadGame 9 = .ok (.goto 6, 3) := by decide +kernel
theorem dL_loadGame_12 : decode cL_loadGame 12 = .ok (.astore_n 3, 1) := by decide +kernel
theorem dL_loadGame_13 : decode cL_loadGame 13 = .ok (.iconst 1, 1) := by decide +kernel
theorem dL_loadGame_14 : decode cL_loadGame 14 = .ok (.ireturn, 1) := by decide +kernel
theorem dL_loadGame_15 : decode cL_loadGame 15 = .ok (.iconst 0, 1) := by decide +kernel
theorem dL_loadGame_16 : decode cL_loadGame 16 = .ok (.ireturn, 1) := by decide +kernel
theorem dL_isKing_0 : decode cL_isKing 0 = .ok (.aload_n 2, 1) := by decide +kernel
theorem dL_isKing_1 : decode cL_isKing 1 = .ok (.iconst 0, 1) := by decide +kernel
theorem dL_isKing_2 : decode cL_isKing 2 = .ok (.aload_n 0, 1) := by decide +kernel
theorem dL_isKing_3 : decode cL_isKing 3 = .ok (.iload_n 1, 1) := by decide +kernel
theorem dL_isKing_4 : decode cL_isKing 4 = .ok (.invokevirtual 15, 3) := by decide +kernel
theorem dL_isKing_7 : decode cL_isKing 7 = .ok (.ifCond .eq 7, 3) := by decide +kernel
theorem dL_isKing_10 : decode cL_isKing 10 = .ok (.lconst 1, 1) := by decide +kernel
theorem dL_isKing_11 : decode cL_isKing 11 = .ok (.goto 4, 3) := by decide +kernel
theorem dL_isKing_14 : decode cL_isKing 14 = .ok (.lconst 0, 1) := by decide +kernel
theorem dL_isKing_15 : decode cL_isKing 15 = .ok (.lastore, 1) := by decide +kernel
theorem dL_isKing_16 : decode cL_isKing 16 = .ok (.goto 6, 3) := by decide +kernel
theorem dL_isKing_19 : decode cL_isKing 19 = .ok (.astore_n 3, 1) := by decide +kernel
theorem dL_isKing_20 : decode cL_isKing 20 = .ok (.iconst 1, 1) := by decide +kernel
theorem dL_isKing_21 : decode cL_isKing 21 = .ok (.ireturn, 1) := by decide +kernel
theorem dL_isKing_22 : decode cL_isKing 22 = .ok (.iconst 0, 1) := by decide +kernel
theorem dL_isKing_23 : decode cL_isKing 23 = .ok (.ireturn, 1) := by decide +kernel
theorem dL_isEast_0 : decode cL_isEast 0 = .ok (.aload_n 2, 1) := by decide +kernel
theorem dL_isEast_1 : decode cL_isEast 1 = .ok (.iconst 0, 1) := by decide +kernel
theorem dL_isEast_2 : decode cL_isEast 2 = .ok (.aload_n 0, 1) := by decide +kernel
theorem dL_isEast_3 : decode cL_isEast 3 = .ok (.iload_n 1, 1) := by decide +kernel
theorem dL_isEast_4 : decode cL_isEast 4 = .ok (.invokevirtual 21, 3) := by decide +kernel
theorem dL_isEast_7 : decode cL_isEast 7 = .ok (.ifCond .eq 7, 3) := by decide +kernel
theorem dL_isEast_10 : decode cL_isEast 10 = .ok (.lconst 1, 1) := by decide +kernel
theorem dL_isEast_11 : decode cL_isEast 11 = .ok (.goto 4, 3) := by decide +kernel
theorem dL_isEast_14 : decode cL_isEast 14 = .ok (.lconst 0, 1) := by decide +kernel
theorem dL_isEast_15 : decode cL_isEast 15 = .ok (.lastore, 1) := by decide +kernel
theorem dL_isEast_16 : decode cL_isEast 16 = .ok (.goto 6, 3) := by decide +kernel
theorem dL_isEast_19 : decode cL_isEast 19 = .ok (.astore_n 3, 1) := by decide +kernel
theorem dL_isEast_20 : decode cL_isEast 20 = .ok (.iconst 1, 1) := by decide +kernel
theorem dL_isEast_21 : decode cL_isEast 21 = .ok (.ireturn, 1) := by decide +kernel
theorem dL_isEast_22 : decode cL_isEast 22 = .ok (.iconst 0, 1) := by decide +kernel
theorem dL_isEast_23 : decode cL_isEast 23 = .ok (.ireturn, 1) := by decide +kernel
theorem dL_coins_0 : decode cL_coins 0 = .ok (.aload_n 2, 1) := by decide +kernel
theorem dL_coins_1 : decode cL_coins 1 = .ok (.iconst 0, 1) := by decide +kernel
theorem dL_coins_2 : decode cL_coins 2 = .ok (.aload_n 0, 1) := by decide +kernel
theorem dL_coins_3 : decode cL_coins 3 = .ok (.iload_n 1, 1) := by decide +kernel
theorem dL_coins_4 : decode cL_coins 4 = .ok (.invokevirtual 24, 3) := by decide +kernel
theorem dL_coins_7 : decode cL_coins 7 = .ok (.i2l, 1) := by decide +kernel
theorem dL_coins_8 : decode cL_coins 8 = .ok (.lastore, 1) := by decide +kernel
theorem dL_coins_9 : decode cL_coins 9 = .ok (.goto 6, 3) := by decide +kernel
theorem dL_coins_12 : decode cL_coins 12 = .ok (.astore_n 3, 1) := by decide +kernel
theorem dL_coins_13 : decode cL_coins 13 = .ok (.iconst 1, 1) := by decide +kernel
theorem dL_coins_14 : decode cL_coins 14 = .ok (.ireturn, 1) := by decide +kernel
theorem dL_coins_15 : decode cL_coins 15 = .ok (.iconst 0, 1) := by decide +kernel
theorem dL_coins_16 : decode cL_coins 16 = .ok (.ireturn, 1) := by decide +kernel
theorem dL_pride_0 : decode cL_pride 0 = .ok (.aload_n 2, 1) := by decide +kernel
theorem dL_pride_1 : decode cL_pride 1 = .ok (.iconst 0, 1) := by decide +kernel
theorem dL_pride_2 : decode cL_pride 2 = .ok (.aload_n 0, 1) := by decide +kernel
theorem dL_pride_3 : decode cL_pride 3 = .ok (.iload_n 1, 1) := by decide +kernel
theorem dL_pride_4 : decode cL_pride 4 = .ok (.invokevirtual 27, 3) := by decide +kernel
theorem dL_pride_7 : decode cL_pride 7 = .ok (.i2l, 1) := by decide +kernel
theorem dL_pride_8 : decode cL_pride 8 = .ok (.lastore, 1) := by decide +kernel
theorem dL_pride_9 : decode cL_pride 9 = .ok (.goto 6, 3) := by decide +kernel
theorem dL_pride_12 : decode cL_pride 12 = .ok (.astore_n 3, 1) := by decide +kernel
theorem dL_pride_13 : decode cL_pride 13 = .ok (.iconst 1, 1) := by decide +kernel
theorem dL_pride_14 : decode cL_pride 14 = .ok (.ireturn, 1) := by decide +kernel
theorem dL_pride_15 : decode cL_pride 15 = .ok (.iconst 0, 1) := by decide +kernel
theorem dL_pride_16 : decode cL_pride 16 = .ok (.ireturn, 1) := by decide +kernel
theorem dL_rags_0 : decode cL_rags 0 = .ok (.aload_n 2, 1) := by decide +kernel
theorem dL_rags_1 : decode cL_rags 1 = .ok (.iconst 0, 1) := by decide +kernel
theorem dL_rags_2 : decode cL_rags 2 = .ok (.aload_n 0, 1) := by decide +kernel
theorem dL_rags_3 : decode cL_rags 3 = .ok (.iload_n 1, 1) := by decide +kernel
theorem dL_rags_4 : decode cL_rags 4 = .ok (.invokevirtual 30, 3) := by decide +kernel
theorem dL_rags_7 : decode cL_rags 7 = .ok (.i2l, 1) := by decide +kernel
theorem dL_rags_8 : decode cL_rags 8 = .ok (.lastore, 1) := by decide +kernel
theorem dL_rags_9 : decode cL_rags 9 = .ok (.goto 6, 3) := by decide +kernel
theorem dL_rags_12 : decode cL_rags 12 = .ok (.astore_n 3, 1) := by decide +kernel
theorem dL_rags_13 : decode cL_rags 13 = .ok (.iconst 1, 1) := by decide +kernel
theorem dL_rags_14 : decode cL_rags 14 = .ok (.ireturn, 1) := by decide +kernel
theorem dL_rags_15 : decode cL_rags 15 = .ok (.iconst 0, 1) := by decide +kernel
theorem dL_rags_16 : decode cL_rags 16 = .ok (.ireturn, 1) := by decide +kernel
theorem dL_rank_0 : decode cL_rank 0 = .ok (.aload_n 2, 1) := by decide +kernel
theorem dL_rank_1 : decode cL_rank 1 = .ok (.iconst 0, 1) := by decide +kernel
theorem dL_rank_2 : decode cL_rank 2 = .ok (.aload_n 0, 1) := by decide +kernel
theorem dL_rank_3 : decode cL_rank 3 = .ok (.iload_n 1, 1) := by decide +kernel
theorem dL_rank_4 : decode cL_rank 4 = .ok (.invokevirtual 33, 3) := by decide +kernel
theorem dL_rank_7 : decode cL_rank 7 = .ok (.i2l, 1) := by decide +kernel
theorem dL_rank_8 : decode cL_rank 8 = .ok (.lastore, 1) := by decide +kernel
theorem dL_rank_9 : decode cL_rank 9 = .ok (.goto 6, 3) := by decide +kernel
theorem dL_rank_12 : decode cL_rank 12 = .ok (.astore_n 3, 1) := by decide +kernel
theorem dL_rank_13 : decode cL_rank 13 = .ok (.iconst 1, 1) := by decide +kernel
theorem dL_rank_14 : decode cL_rank 14 = .ok (.ireturn, 1) := by decide +kernel
theorem dL_rank_15 : decode cL_rank 15 = .ok (.iconst 0, 1) := by decide +kernel
theorem dL_rank_16 : decode cL_rank 16 = .ok (.ireturn, 1) := by decide +kernel
theorem dL_wearer_0 : decode cL_wearer 0 = .ok (.aload_n 2, 1) := by decide +kernel
theorem dL_wearer_1 : decode cL_wearer 1 = .ok (.iconst 0, 1) := by decide +kernel
theorem dL_wearer_2 : decode cL_wearer 2 = .ok (.aload_n 0, 1) := by decide +kernel
theorem dL_wearer_3 : decode cL_wearer 3 = .ok (.iload_n 1, 1) := by decide +kernel
theorem dL_wearer_4 : decode cL_wearer 4 = .ok (.invokevirtual 36, 3) := by decide +kernel
theorem dL_wearer_7 : decode cL_wearer 7 = .ok (.i2l, 1) := by decide +kernel
theorem dL_wearer_8 : decode cL_wearer 8 = .ok (.lastore, 1) := by decide +kernel
theorem dL_wearer_9 : decode cL_wearer 9 = .ok (.goto 6, 3) := by decide +kernel
theorem dL_wearer_12 : decode cL_wearer 12 = .ok (.astore_n 3, 1) := by decide +kernel
theorem dL_wearer_13 : decode cL_wearer 13 = .ok (.iconst 1, 1) := by decide +kernel
theorem dL_wearer_14 : decode cL_wearer 14 = .ok (.ireturn, 1) := by decide +kernel
theorem dL_wearer_15 : decode cL_wearer 15 = .ok (.iconst 0, 1) := by decide +kernel
theorem dL_wearer_16 : decode cL_wearer 16 = .ok (.ireturn, 1) := by decide +kernel
theorem dL_crossings_0 : decode cL_crossings 0 = .ok (.aload_n 2, 1) := by decide +kernel
theorem dL_crossings_1 : decode cL_crossings 1 = .ok (.iconst 0, 1) := by decide +kernel
theorem dL_crossings_2 : decode cL_crossings 2 = .ok (.aload_n 0, 1) := by decide +kernel
theorem dL_crossings_3 : decode cL_crossings 3 = .ok (.iload_n 1, 1) := by decide +kernel
theorem dL_crossings_4 : decode cL_crossings 4 = .ok (.invokevirtual 39, 3) := by decide +kernel
theorem dL_crossings_7 : decode cL_crossings 7 = .ok (.i2l, 1) := by decide +kernel
theorem dL_crossings_8 : decode cL_crossings 8 = .ok (.lastore, 1) := by decide +kernel
theorem dL_crossings_9 : decode cL_crossings 9 = .ok (.goto 6, 3) := by decide +kernel
theorem dL_crossings_12 : decode cL_crossings 12 = .ok (.astore_n 3, 1) := by decide +kernel
theorem dL_crossings_13 : decode cL_crossings 13 = .ok (.iconst 1, 1) := by decide +kernel
theorem dL_crossings_14 : decode cL_crossings 14 = .ok (.ireturn, 1) := by decide +kernel
theorem dL_crossings_15 : decode cL_crossings 15 = .ok (.iconst 0, 1) := by decide +kernel
theorem dL_crossings_16 : decode cL_crossings 16 = .ok (.ireturn, 1) := by decide +kernel
theorem dL_bowTo_0 : decode cL_bowTo 0 = .ok (.aload_n 3, 1) := by decide +kernel
theorem dL_bowTo_1 : decode cL_bowTo 1 = .ok (.iconst 0, 1) := by decide +kernel
theorem dL_bowTo_2 : decode cL_bowTo 2 = .ok (.aload_n 0, 1) := by decide +kernel
theorem dL_bowTo_3 : decode cL_bowTo 3 = .ok (.iload_n 1, 1) := by decide +kernel
theorem dL_bowTo_4 : decode cL_bowTo 4 = .ok (.iload_n 2, 1) := by decide +kernel
theorem dL_bowTo_5 : decode cL_bowTo 5 = .ok (.invokevirtual 42, 3) := by decide +kernel
theorem dL_bowTo_8 : decode cL_bowTo 8 = .ok (.i2l, 1) := by decide +kernel
theorem dL_bowTo_9 : decode cL_bowTo 9 = .ok (.lastore, 1) := by decide +kernel
theorem dL_bowTo_10 : decode cL_bowTo 10 = .ok (.goto 11, 3) := by decide +kernel
theorem dL_bowTo_13 : decode cL_bowTo 13 = .ok (.astore 4, 2) := by decide +kernel
theorem dL_bowTo_15 : decode cL_bowTo 15 = .ok (.iconst 1, 1) := by decide +kernel
theorem dL_bowTo_16 : decode cL_bowTo 16 = .ok (.ireturn, 1) := by decide +kernel
theorem dL_bowTo_17 : decode cL_bowTo 17 = .ok (.astore 4, 2) := by decide +kernel
theorem dL_bowTo_19 : decode cL_bowTo 19 = .ok (.iconst 2, 1) := by decide +kernel
theorem dL_bowTo_20 : decode cL_bowTo 20 = .ok (.ireturn, 1) := by decide +kernel
theorem dL_bowTo_21 : decode cL_bowTo 21 = .ok (.iconst 0, 1) := by decide +kernel
theorem dL_bowTo_22 : decode cL_bowTo 22 = .ok (.ireturn, 1) := by decide +kernel
theorem dL_bowToKeeper_0 : decode cL_bowToKeeper 0 = .ok (.aload_n 2, 1) := by decide +kernel
theorem dL_bowToKeeper_1 : decode cL_bowToKeeper 1 = .ok (.iconst 0, 1) := by decide +kernel
theorem dL_bowToKeeper_2 : decode cL_bowToKeeper 2 = .ok (.aload_n 0, 1) := by decide +kernel
theorem dL_bowToKeeper_3 : decode cL_bowToKeeper 3 = .ok (.iload_n 1, 1) := by decide +kernel
theorem dL_bowToKeeper_4 : decode cL_bowToKeeper 4 = .ok (.invokevirtual 46, 3) := by decide +kernel
theorem dL_bowToKeeper_7 : decode cL_bowToKeeper 7 = .ok (.i2l, 1) := by decide +kernel
theorem dL_bowToKeeper_8 : decode cL_bowToKeeper 8 = .ok (.lastore, 1) := by decide +kernel
theorem dL_bowToKeeper_9 : decode cL_bowToKeeper 9 = .ok (.goto 6, 3) := by decide +kernel
theorem dL_bowToKeeper_12 : decode cL_bowToKeeper 12 = .ok (.astore_n 3, 1) := by decide +kernel
theorem dL_bowToKeeper_13 : decode cL_bowToKeeper 13 = .ok (.iconst 1, 1) := by decide +kernel
theorem dL_bowToKeeper_14 : decode cL_bowToKeeper 14 = .ok (.ireturn, 1) := by decide +kernel
theorem dL_bowToKeeper_15 : decode cL_bowToKeeper 15 = .ok (.iconst 0, 1) := by decide +kernel
theorem dL_bowToKeeper_16 : decode cL_bowToKeeper 16 = .ok (.ireturn, 1) := by decide +kernel
theorem dL_isTakenForKing_0 : decode cL_isTakenForKing 0 = .ok (.aload_n 2, 1) := by decide +kernel
theorem dL_isTakenForKing_1 : decode cL_isTakenForKing 1 = .ok (.iconst 0, 1) := by decide +kernel
theorem dL_isTakenForKing_2 : decode cL_isTakenForKing 2 = .ok (.aload_n 0, 1) := by decide +kernel
theorem dL_isTakenForKing_3 : decode cL_isTakenForKing 3 = .ok (.iload_n 1, 1) := by decide +kernel
theorem dL_isTakenForKing_4 : decode cL_isTakenForKing 4 = .ok (.invokevirtual 49, 3) := by decide +kernel
theorem dL_isTakenForKing_7 : decode cL_isTakenForKing 7 = .ok (.ifCond .eq 7, 3) := by decide +kernel
theorem dL_isTakenForKing_10 : decode cL_isTakenForKing 10 = .ok (.lconst 1, 1) := by decide +kernel
theorem dL_isTakenForKing_11 : decode cL_isTakenForKing 11 = .ok (.goto 4, 3) := by decide +kernel
theorem dL_isTakenForKing_14 : decode cL_isTakenForKing 14 = .ok (.lconst 0, 1) := by decide +kernel
theorem dL_isTakenForKing_15 : decode cL_isTakenForKing 15 = .ok (.lastore, 1) := by decide +kernel
theorem dL_isTakenForKing_16 : decode cL_isTakenForKing 16 = .ok (.goto 6, 3) := by decide +kernel
theorem dL_isTakenForKing_19 : decode cL_isTakenForKing 19 = .ok (.astore_n 3, 1) := by decide +kernel
theorem dL_isTakenForKing_20 : decode cL_isTakenForKing 20 = .ok (.iconst 1, 1) := by decide +kernel
theorem dL_isTakenForKing_21 : decode cL_isTakenForKing 21 = .ok (.ireturn, 1) := by decide +kernel
theorem dL_isTakenForKing_22 : decode cL_isTakenForKing 22 = .ok (.iconst 0, 1) := by decide +kernel
theorem dL_isTakenForKing_23 : decode cL_isTakenForKing 23 = .ok (.ireturn, 1) := by decide +kernel
theorem dL_tollOf_0 : decode cL_tollOf 0 = .ok (.aload_n 2, 1) := by decide +kernel
theorem dL_tollOf_1 : decode cL_tollOf 1 = .ok (.iconst 0, 1) := by decide +kernel
theorem dL_tollOf_2 : decode cL_tollOf 2 = .ok (.aload_n 0, 1) := by decide +kernel
theorem dL_tollOf_3 : decode cL_tollOf 3 = .ok (.iload_n 1, 1) := by decide +kernel
theorem dL_tollOf_4 : decode cL_tollOf 4 = .ok (.invokevirtual 52, 3) := by decide +kernel
theorem dL_tollOf_7 : decode cL_tollOf 7 = .ok (.i2l, 1) := by decide +kernel
theorem dL_tollOf_8 : decode cL_tollOf 8 = .ok (.lastore, 1) := by decide +kernel
theorem dL_tollOf_9 : decode cL_tollOf 9 = .ok (.goto 6, 3) := by decide +kernel
theorem dL_tollOf_12 : decode cL_tollOf 12 = .ok (.astore_n 3, 1) := by decide +kernel
theorem dL_tollOf_13 : decode cL_tollOf 13 = .ok (.iconst 1, 1) := by decide +kernel
theorem dL_tollOf_14 : decode cL_tollOf 14 = .ok (.ireturn, 1) := by decide +kernel
theorem dL_tollOf_15 : decode cL_tollOf 15 = .ok (.iconst 0, 1) := by decide +kernel
theorem dL_tollOf_16 : decode cL_tollOf 16 = .ok (.ireturn, 1) := by decide +kernel
theorem dL_cheapestRags_0 : decode cL_cheapestRags 0 = .ok (.aload_n 2, 1) := by decide +kernel
theorem dL_cheapestRags_1 : decode cL_cheapestRags 1 = .ok (.iconst 0, 1) := by decide +kernel
theorem dL_cheapestRags_2 : decode cL_cheapestRags 2 = .ok (.aload_n 0, 1) := by decide +kernel
theorem dL_cheapestRags_3 : decode cL_cheapestRags 3 = .ok (.iload_n 1, 1) := by decide +kernel
theorem dL_cheapestRags_4 : decode cL_cheapestRags 4 = .ok (.invokevirtual 55, 3) := by decide +kernel
theorem dL_cheapestRags_7 : decode cL_cheapestRags 7 = .ok (.i2l, 1) := by decide +kernel
theorem dL_cheapestRags_8 : decode cL_cheapestRags 8 = .ok (.lastore, 1) := by decide +kernel
theorem dL_cheapestRags_9 : decode cL_cheapestRags 9 = .ok (.goto 6, 3) := by decide +kernel
theorem dL_cheapestRags_12 : decode cL_cheapestRags 12 = .ok (.astore_n 3, 1) := by decide +kernel
theorem dL_cheapestRags_13 : decode cL_cheapestRags 13 = .ok (.iconst 1, 1) := by decide +kernel
theorem dL_cheapestRags_14 : decode cL_cheapestRags 14 = .ok (.ireturn, 1) := by decide +kernel
theorem dL_cheapestRags_15 : decode cL_cheapestRags 15 = .ok (.iconst 0, 1) := by decide +kernel
theorem dL_cheapestRags_16 : decode cL_cheapestRags 16 = .ok (.ireturn, 1) := by decide +kernel
theorem dL_royalHolder_0 : decode cL_royalHolder 0 = .ok (.aload_n 2, 1) := by decide +kernel
theorem dL_royalHolder_1 : decode cL_royalHolder 1 = .ok (.iconst 0, 1) := by decide +kernel
theorem dL_royalHolder_2 : decode cL_royalHolder 2 = .ok (.aload_n 0, 1) := by decide +kernel
theorem dL_royalHolder_3 : decode cL_royalHolder 3 = .ok (.iload_n 1, 1) := by decide +kernel
theorem dL_royalHolder_4 : decode cL_royalHolder 4 = .ok (.invokevirtual 58, 3) := by decide +kernel
theorem dL_royalHolder_7 : decode cL_royalHolder 7 = .ok (.i2l, 1) := by decide +kernel
theorem dL_royalHolder_8 : decode cL_royalHolder 8 = .ok (.lastore, 1) := by decide +kernel
theorem dL_royalHolder_9 : decode cL_royalHolder 9 = .ok (.goto 9, 3) := by decide +kernel
theorem dL_royalHolder_12 : decode cL_royalHolder 12 = .ok (.astore_n 3, 1) := by decide +kernel
theorem dL_royalHolder_13 : decode cL_royalHolder 13 = .ok (.iconst 1, 1) := by decide +kernel
theorem dL_royalHolder_14 : decode cL_royalHolder 14 = .ok (.ireturn, 1) := by decide +kernel
theorem dL_royalHolder_15 : decode cL_royalHolder 15 = .ok (.astore_n 3, 1) := by decide +kernel
theorem dL_royalHolder_16 : decode cL_royalHolder 16 = .ok (.iconst 2, 1) := by decide +kernel
theorem dL_royalHolder_17 : decode cL_royalHolder 17 = .ok (.ireturn, 1) := by decide +kernel
theorem dL_royalHolder_18 : decode cL_royalHolder 18 = .ok (.iconst 0, 1) := by decide +kernel
theorem dL_royalHolder_19 : decode cL_royalHolder 19 = .ok (.ireturn, 1) := by decide +kernel
theorem dL_isRoyalCoinEast_0 : decode cL_isRoyalCoinEast 0 = .ok (.aload_n 2, 1) := by decide +kernel
theorem dL_isRoyalCoinEast_1 : decode cL_isRoyalCoinEast 1 = .ok (.iconst 0, 1) := by decide +kernel
theorem dL_isRoyalCoinEast_2 : decode cL_isRoyalCoinEast 2 = .ok (.aload_n 0, 1) := by decide +kernel
theorem dL_isRoyalCoinEast_3 : decode cL_isRoyalCoinEast 3 = .ok (.iload_n 1, 1) := by decide +kernel
theorem dL_isRoyalCoinEast_4 : decode cL_isRoyalCoinEast 4 = .ok (.invokevirtual 61, 3) := by decide +kernel
theorem dL_isRoyalCoinEast_7 : decode cL_isRoyalCoinEast 7 = .ok (.ifCond .eq 7, 3) := by decide +kernel
theorem dL_isRoyalCoinEast_10 : decode cL_isRoyalCoinEast 10 = .ok (.lconst 1, 1) := by decide +kernel
theorem dL_isRoyalCoinEast_11 : decode cL_isRoyalCoinEast 11 = .ok (.goto 4, 3) := by decide +kernel
theorem dL_isRoyalCoinEast_14 : decode cL_isRoyalCoinEast 14 = .ok (.lconst 0, 1) := by decide +kernel
theorem dL_isRoyalCoinEast_15 : decode cL_isRoyalCoinEast 15 = .ok (.lastore, 1) := by decide +kernel
theorem dL_isRoyalCoinEast_16 : decode cL_isRoyalCoinEast 16 = .ok (.goto 9, 3) := by decide +kernel
theorem dL_isRoyalCoinEast_19 : decode cL_isRoyalCoinEast 19 = .ok (.astore_n 3, 1) := by decide +kernel
theorem dL_isRoyalCoinEast_20 : decode cL_isRoyalCoinEast 20 = .ok (.iconst 1, 1) := by decide +kernel
theorem dL_isRoyalCoinEast_21 : decode cL_isRoyalCoinEast 21 = .ok (.ireturn, 1) := by decide +kernel
theorem dL_isRoyalCoinEast_22 : decode cL_isRoyalCoinEast 22 = .ok (.astore_n 3, 1) := by decide +kernel
theorem dL_isRoyalCoinEast_23 : decode cL_isRoyalCoinEast 23 = .ok (.iconst 2, 1) := by decide +kernel
theorem dL_isRoyalCoinEast_24 : decode cL_isRoyalCoinEast 24 = .ok (.ireturn, 1) := by decide +kernel
theorem dL_isRoyalCoinEast_25 : decode cL_isRoyalCoinEast 25 = .ok (.iconst 0, 1) := by decide +kernel
theorem dL_isRoyalCoinEast_26 : decode cL_isRoyalCoinEast 26 = .ok (.ireturn, 1) := by decide +kernel
theorem dL_isCounted_0 : decode cL_isCounted 0 = .ok (.aload_n 2, 1) := by decide +kernel
theorem dL_isCounted_1 : decode cL_isCounted 1 = .ok (.iconst 0, 1) := by decide +kernel
theorem dL_isCounted_2 : decode cL_isCounted 2 = .ok (.aload_n 0, 1) := by decide +kernel
theorem dL_isCounted_3 : decode cL_isCounted 3 = .ok (.iload_n 1, 1) := by decide +kernel
theorem dL_isCounted_4 : decode cL_isCounted 4 = .ok (.invokevirtual 64, 3) := by decide +kernel
theorem dL_isCounted_7 : decode cL_isCounted 7 = .ok (.ifCond .eq 7, 3) := by decide +kernel
theorem dL_isCounted_10 : decode cL_isCounted 10 = .ok (.lconst 1, 1) := by decide +kernel
theorem dL_isCounted_11 : decode cL_isCounted 11 = .ok (.goto 4, 3) := by decide +kernel
theorem dL_isCounted_14 : decode cL_isCounted 14 = .ok (.lconst 0, 1) := by decide +kernel
theorem dL_isCounted_15 : decode cL_isCounted 15 = .ok (.lastore, 1) := by decide +kernel
theorem dL_isCounted_16 : decode cL_isCounted 16 = .ok (.goto 9, 3) := by decide +kernel
theorem dL_isCounted_19 : decode cL_isCounted 19 = .ok (.astore_n 3, 1) := by decide +kernel
theorem dL_isCounted_20 : decode cL_isCounted 20 = .ok (.iconst 1, 1) := by decide +kernel
theorem dL_isCounted_21 : decode cL_isCounted 21 = .ok (.ireturn, 1) := by decide +kernel
theorem dL_isCounted_22 : decode cL_isCounted 22 = .ok (.astore_n 3, 1) := by decide +kernel
theorem dL_isCounted_23 : decode cL_isCounted 23 = .ok (.iconst 2, 1) := by decide +kernel
theorem dL_isCounted_24 : decode cL_isCounted 24 = .ok (.ireturn, 1) := by decide +kernel
theorem dL_isCounted_25 : decode cL_isCounted 25 = .ok (.iconst 0, 1) := by decide +kernel
theorem dL_isCounted_26 : decode cL_isCounted 26 = .ok (.ireturn, 1) := by decide +kernel
theorem dL_royalCoins_0 : decode cL_royalCoins 0 = .ok (.aload_n 2, 1) := by decide +kernel
theorem dL_royalCoins_1 : decode cL_royalCoins 1 = .ok (.iconst 0, 1) := by decide +kernel
theorem dL_royalCoins_2 : decode cL_royalCoins 2 = .ok (.aload_n 0, 1) := by decide +kernel
theorem dL_royalCoins_3 : decode cL_royalCoins 3 = .ok (.iload_n 1, 1) := by decide +kernel
theorem dL_royalCoins_4 : decode cL_royalCoins 4 = .ok (.invokevirtual 67, 3) := by decide +kernel
theorem dL_royalCoins_7 : decode cL_royalCoins 7 = .ok (.i2l, 1) := by decide +kernel
theorem dL_royalCoins_8 : decode cL_royalCoins 8 = .ok (.lastore, 1) := by decide +kernel
theorem dL_royalCoins_9 : decode cL_royalCoins 9 = .ok (.goto 6, 3) := by decide +kernel
theorem dL_royalCoins_12 : decode cL_royalCoins 12 = .ok (.astore_n 3, 1) := by decide +kernel
theorem dL_royalCoins_13 : decode cL_royalCoins 13 = .ok (.iconst 1, 1) := by decide +kernel
theorem dL_royalCoins_14 : decode cL_royalCoins 14 = .ok (.ireturn, 1) := by decide +kernel
theorem dL_royalCoins_15 : decode cL_royalCoins 15 = .ok (.iconst 0, 1) := by decide +kernel
theorem dL_royalCoins_16 : decode cL_royalCoins 16 = .ok (.ireturn, 1) := by decide +kernel
theorem dL_offer_0 : decode cL_offer 0 = .ok (.aload_n 2, 1) := by decide +kernel
theorem dL_offer_1 : decode cL_offer 1 = .ok (.iconst 0, 1) := by decide +kernel
theorem dL_offer_2 : decode cL_offer 2 = .ok (.aload_n 0, 1) := by decide +kernel
theorem dL_offer_3 : decode cL_offer 3 = .ok (.iload_n 1, 1) := by decide +kernel
theorem dL_offer_4 : decode cL_offer 4 = .ok (.invokevirtual 70, 3) := by decide +kernel
theorem dL_offer_7 : decode cL_offer 7 = .ok (.i2l, 1) := by decide +kernel
theorem dL_offer_8 : decode cL_offer 8 = .ok (.lastore, 1) := by decide +kernel
theorem dL_offer_9 : decode cL_offer 9 = .ok (.goto 6, 3) := by decide +kernel
theorem dL_offer_12 : decode cL_offer 12 = .ok (.astore_n 3, 1) := by decide +kernel
theorem dL_offer_13 : decode cL_offer 13 = .ok (.iconst 1, 1) := by decide +kernel
theorem dL_offer_14 : decode cL_offer 14 = .ok (.ireturn, 1) := by decide +kernel
theorem dL_offer_15 : decode cL_offer 15 = .ok (.iconst 0, 1) := by decide +kernel
theorem dL_offer_16 : decode cL_offer 16 = .ok (.ireturn, 1) := by decide +kernel
theorem dL_isOpen_0 : decode cL_isOpen 0 = .ok (.aload_n 2, 1) := by decide +kernel
theorem dL_isOpen_1 : decode cL_isOpen 1 = .ok (.iconst 0, 1) := by decide +kernel
theorem dL_isOpen_2 : decode cL_isOpen 2 = .ok (.aload_n 0, 1) := by decide +kernel
theorem dL_isOpen_3 : decode cL_isOpen 3 = .ok (.iload_n 1, 1) := by decide +kernel
theorem dL_isOpen_4 : decode cL_isOpen 4 = .ok (.invokevirtual 73, 3) := by decide +kernel
theorem dL_isOpen_7 : decode cL_isOpen 7 = .ok (.ifCond .eq 7, 3) := by decide +kernel
theorem dL_isOpen_10 : decode cL_isOpen 10 = .ok (.lconst 1, 1) := by decide +kernel
theorem dL_isOpen_11 : decode cL_isOpen 11 = .ok (.goto 4, 3) := by decide +kernel
theorem dL_isOpen_14 : decode cL_isOpen 14 = .ok (.lconst 0, 1) := by decide +kernel
theorem dL_isOpen_15 : decode cL_isOpen 15 = .ok (.lastore, 1) := by decide +kernel
theorem dL_isOpen_16 : decode cL_isOpen 16 = .ok (.goto 6, 3) := by decide +kernel
theorem dL_isOpen_19 : decode cL_isOpen 19 = .ok (.astore_n 3, 1) := by decide +kernel
theorem dL_isOpen_20 : decode cL_isOpen 20 = .ok (.iconst 1, 1) := by decide +kernel
theorem dL_isOpen_21 : decode cL_isOpen 21 = .ok (.ireturn, 1) := by decide +kernel
theorem dL_isOpen_22 : decode cL_isOpen 22 = .ok (.iconst 0, 1) := by decide +kernel
theorem dL_isOpen_23 : decode cL_isOpen 23 = .ok (.ireturn, 1) := by decide +kernel
theorem dL_firstPlaceOffer_0 : decode cL_firstPlaceOffer 0 = .ok (.aload_n 2, 1) := by decide +kernel
theorem dL_firstPlaceOffer_1 : decode cL_firstPlaceOffer 1 = .ok (.iconst 0, 1) := by decide +kernel
theorem dL_firstPlaceOffer_2 : decode cL_firstPlaceOffer 2 = .ok (.aload_n 0, 1) := by decide +kernel
theorem dL_firstPlaceOffer_3 : decode cL_firstPlaceOffer 3 = .ok (.iload_n 1, 1) := by decide +kernel
theorem dL_firstPlaceOffer_4 : decode cL_firstPlaceOffer 4 = .ok (.invokevirtual 76, 3) := by decide +kernel
theorem dL_firstPlaceOffer_7 : decode cL_firstPlaceOffer 7 = .ok (.i2l, 1) := by decide +kernel
theorem dL_firstPlaceOffer_8 : decode cL_firstPlaceOffer 8 = .ok (.lastore, 1) := by decide +kernel
theorem dL_firstPlaceOffer_9 : decode cL_firstPlaceOffer 9 = .ok (.goto 6, 3) := by decide +kernel
theorem dL_firstPlaceOffer_12 : decode cL_firstPlaceOffer 12 = .ok (.astore_n 3, 1) := by decide +kernel
theorem dL_firstPlaceOffer_13 : decode cL_firstPlaceOffer 13 = .ok (.iconst 1, 1) := by decide +kernel
theorem dL_firstPlaceOffer_14 : decode cL_firstPlaceOffer 14 = .ok (.ireturn, 1) := by decide +kernel
theorem dL_firstPlaceOffer_15 : decode cL_firstPlaceOffer 15 = .ok (.iconst 0, 1) := by decide +kernel
theorem dL_firstPlaceOffer_16 : decode cL_firstPlaceOffer 16 = .ok (.ireturn, 1) := by decide +kernel
theorem dL_turnsUntilCrossing_0 : decode cL_turnsUntilCrossing 0 = .ok (.aload_n 2, 1) := by decide +kernel
theorem dL_turnsUntilCrossing_1 : decode cL_turnsUntilCrossing 1 = .ok (.iconst 0, 1) := by decide +kernel
theorem dL_turnsUntilCrossing_2 : decode cL_turnsUntilCrossing 2 = .ok (.aload_n 0, 1) := by decide +kernel
theorem dL_turnsUntilCrossing_3 : decode cL_turnsUntilCrossing 3 = .ok (.iload_n 1, 1) := by decide +kernel
theorem dL_turnsUntilCrossing_4 : decode cL_turnsUntilCrossing 4 = .ok (.invokevirtual 79, 3) := by decide +kernel
theorem dL_turnsUntilCrossing_7 : decode cL_turnsUntilCrossing 7 = .ok (.i2l, 1) := by decide +kernel
theorem dL_turnsUntilCrossing_8 : decode cL_turnsUntilCrossing 8 = .ok (.lastore, 1) := by decide +kernel
theorem dL_turnsUntilCrossing_9 : decode cL_turnsUntilCrossing 9 = .ok (.goto 6, 3) := by decide +kernel
theorem dL_turnsUntilCrossing_12 : decode cL_turnsUntilCrossing 12 = .ok (.astore_n 3, 1) := by decide +kernel
theorem dL_turnsUntilCrossing_13 : decode cL_turnsUntilCrossing 13 = .ok (.iconst 1, 1) := by decide +kernel
theorem dL_turnsUntilCrossing_14 : decode cL_turnsUntilCrossing 14 = .ok (.ireturn, 1) := by decide +kernel
theorem dL_turnsUntilCrossing_15 : decode cL_turnsUntilCrossing 15 = .ok (.iconst 0, 1) := by decide +kernel
theorem dL_turnsUntilCrossing_16 : decode cL_turnsUntilCrossing 16 = .ok (.ireturn, 1) := by decide +kernel
theorem dL_tollBoxAfter_0 : decode cL_tollBoxAfter 0 = .ok (.aload_n 2, 1) := by decide +kernel
theorem dL_tollBoxAfter_1 : decode cL_tollBoxAfter 1 = .ok (.iconst 0, 1) := by decide +kernel
theorem dL_tollBoxAfter_2 : decode cL_tollBoxAfter 2 = .ok (.aload_n 0, 1) := by decide +kernel
theorem dL_tollBoxAfter_3 : decode cL_tollBoxAfter 3 = .ok (.iload_n 1, 1) := by decide +kernel
theorem dL_tollBoxAfter_4 : decode cL_tollBoxAfter 4 = .ok (.invokevirtual 82, 3) := by decide +kernel
theorem dL_tollBoxAfter_7 : decode cL_tollBoxAfter 7 = .ok (.i2l, 1) := by decide +kernel
theorem dL_tollBoxAfter_8 : decode cL_tollBoxAfter 8 = .ok (.lastore, 1) := by decide +kernel
theorem dL_tollBoxAfter_9 : decode cL_tollBoxAfter 9 = .ok (.goto 6, 3) := by decide +kernel
theorem dL_tollBoxAfter_12 : decode cL_tollBoxAfter 12 = .ok (.astore_n 3, 1) := by decide +kernel
theorem dL_tollBoxAfter_13 : decode cL_tollBoxAfter 13 = .ok (.iconst 1, 1) := by decide +kernel
theorem dL_tollBoxAfter_14 : decode cL_tollBoxAfter 14 = .ok (.ireturn, 1) := by decide +kernel
theorem dL_tollBoxAfter_15 : decode cL_tollBoxAfter 15 = .ok (.iconst 0, 1) := by decide +kernel
theorem dL_tollBoxAfter_16 : decode cL_tollBoxAfter 16 = .ok (.ireturn, 1) := by decide +kernel
theorem dL_limitAngleAfter_0 : decode cL_limitAngleAfter 0 = .ok (.aload_n 2, 1) := by decide +kernel
theorem dL_limitAngleAfter_1 : decode cL_limitAngleAfter 1 = .ok (.iconst 0, 1) := by decide +kernel
theorem dL_limitAngleAfter_2 : decode cL_limitAngleAfter 2 = .ok (.aload_n 0, 1) := by decide +kernel
theorem dL_limitAngleAfter_3 : decode cL_limitAngleAfter 3 = .ok (.iload_n 1, 1) := by decide +kernel
theorem dL_limitAngleAfter_4 : decode cL_limitAngleAfter 4 = .ok (.invokevirtual 85, 3) := by decide +kernel
theorem dL_limitAngleAfter_7 : decode cL_limitAngleAfter 7 = .ok (.i2l, 1) := by decide +kernel
theorem dL_limitAngleAfter_8 : decode cL_limitAngleAfter 8 = .ok (.lastore, 1) := by decide +kernel
theorem dL_limitAngleAfter_9 : decode cL_limitAngleAfter 9 = .ok (.goto 6, 3) := by decide +kernel
theorem dL_limitAngleAfter_12 : decode cL_limitAngleAfter 12 = .ok (.astore_n 3, 1) := by decide +kernel
theorem dL_limitAngleAfter_13 : decode cL_limitAngleAfter 13 = .ok (.iconst 1, 1) := by decide +kernel
theorem dL_limitAngleAfter_14 : decode cL_limitAngleAfter 14 = .ok (.ireturn, 1) := by decide +kernel
theorem dL_limitAngleAfter_15 : decode cL_limitAngleAfter 15 = .ok (.iconst 0, 1) := by decide +kernel
theorem dL_limitAngleAfter_16 : decode cL_limitAngleAfter 16 = .ok (.ireturn, 1) := by decide +kernel
theorem dL_crossingObstacle_0 : decode cL_crossingObstacle 0 = .ok (.aload_n 2, 1) := by decide +kernel
theorem dL_crossingObstacle_1 : decode cL_crossingObstacle 1 = .ok (.iconst 0, 1) := by decide +kernel
theorem dL_crossingObstacle_2 : decode cL_crossingObstacle 2 = .ok (.aload_n 0, 1) := by decide +kernel
theorem dL_crossingObstacle_3 : decode cL_crossingObstacle 3 = .ok (.iload_n 1, 1) := by decide +kernel
theorem dL_crossingObstacle_4 : decode cL_crossingObstacle 4 = .ok (.invokevirtual 88, 3) := by decide +kernel
theorem dL_crossingObstacle_7 : decode cL_crossingObstacle 7 = .ok (.i2l, 1) := by decide +kernel
theorem dL_crossingObstacle_8 : decode cL_crossingObstacle 8 = .ok (.lastore, 1) := by decide +kernel
theorem dL_crossingObstacle_9 : decode cL_crossingObstacle 9 = .ok (.goto 6, 3) := by decide +kernel
theorem dL_crossingObstacle_12 : decode cL_crossingObstacle 12 = .ok (.astore_n 3, 1) := by decide +kernel
theorem dL_crossingObstacle_13 : decode cL_crossingObstacle 13 = .ok (.iconst 1, 1) := by decide +kernel
theorem dL_crossingObstacle_14 : decode cL_crossingObstacle 14 = .ok (.ireturn, 1) := by decide +kernel
theorem dL_crossingObstacle_15 : decode cL_crossingObstacle 15 = .ok (.iconst 0, 1) := by decide +kernel
theorem dL_crossingObstacle_16 : decode cL_crossingObstacle 16 = .ok (.ireturn, 1) := by decide +kernel
theorem dL_dropCoins_0 : decode cL_dropCoins 0 = .ok (.aload_n 3, 1) := by decide +kernel
theorem dL_dropCoins_1 : decode cL_dropCoins 1 = .ok (.iconst 0, 1) := by decide +kernel
theorem dL_dropCoins_2 : decode cL_dropCoins 2 = .ok (.aload_n 0, 1) := by decide +kernel
theorem dL_dropCoins_3 : decode cL_dropCoins 3 = .ok (.iload_n 1, 1) := by decide +kernel
theorem dL_dropCoins_4 : decode cL_dropCoins 4 = .ok (.iload_n 2, 1) := by decide +kernel
theorem dL_dropCoins_5 : decode cL_dropCoins 5 = .ok (.invokevirtual 91, 3) := by decide +kernel
theorem dL_dropCoins_8 : decode cL_dropCoins 8 = .ok (.i2l, 1) := by decide +kernel
theorem dL_dropCoins_9 : decode cL_dropCoins 9 = .ok (.lastore, 1) := by decide +kernel
theorem dL_dropCoins_10 : decode cL_dropCoins 10 = .ok (.goto 15, 3) := by decide +kernel
theorem dL_dropCoins_13 : decode cL_dropCoins 13 = .ok (.astore 4, 2) := by decide +kernel
theorem dL_dropCoins_15 : decode cL_dropCoins 15 = .ok (.iconst 1, 1) := by decide +kernel
theorem dL_dropCoins_16 : decode cL_dropCoins 16 = .ok (.ireturn, 1) := by decide +kernel
theorem dL_dropCoins_17 : decode cL_dropCoins 17 = .ok (.astore 4, 2) := by decide +kernel
theorem dL_dropCoins_19 : decode cL_dropCoins 19 = .ok (.iconst 2, 1) := by decide +kernel
theorem dL_dropCoins_20 : decode cL_dropCoins 20 = .ok (.ireturn, 1) := by decide +kernel
theorem dL_dropCoins_21 : decode cL_dropCoins 21 = .ok (.astore 4, 2) := by decide +kernel
theorem dL_dropCoins_23 : decode cL_dropCoins 23 = .ok (.iconst 3, 1) := by decide +kernel
theorem dL_dropCoins_24 : decode cL_dropCoins 24 = .ok (.ireturn, 1) := by decide +kernel
theorem dL_dropCoins_25 : decode cL_dropCoins 25 = .ok (.iconst 0, 1) := by decide +kernel
theorem dL_dropCoins_26 : decode cL_dropCoins 26 = .ok (.ireturn, 1) := by decide +kernel
theorem dL_pickCoins_0 : decode cL_pickCoins 0 = .ok (.aload_n 3, 1) := by decide +kernel
theorem dL_pickCoins_1 : decode cL_pickCoins 1 = .ok (.iconst 0, 1) := by decide +kernel
theorem dL_pickCoins_2 : decode cL_pickCoins 2 = .ok (.aload_n 0, 1) := by decide +kernel
theorem dL_pickCoins_3 : decode cL_pickCoins 3 = .ok (.iload_n 1, 1) := by decide +kernel
theorem dL_pickCoins_4 : decode cL_pickCoins 4 = .ok (.iload_n 2, 1) := by decide +kernel
theorem dL_pickCoins_5 : decode cL_pickCoins 5 = .ok (.invokevirtual 96, 3) := by decide +kernel
theorem dL_pickCoins_8 : decode cL_pickCoins 8 = .ok (.i2l, 1) := by decide +kernel
theorem dL_pickCoins_9 : decode cL_pickCoins 9 = .ok (.lastore, 1) := by decide +kernel
theorem dL_pickCoins_10 : decode cL_pickCoins 10 = .ok (.goto 15, 3) := by decide +kernel
theorem dL_pickCoins_13 : decode cL_pickCoins 13 = .ok (.astore 4, 2) := by decide +kernel
theorem dL_pickCoins_15 : decode cL_pickCoins 15 = .ok (.iconst 1, 1) := by decide +kernel
theorem dL_pickCoins_16 : decode cL_pickCoins 16 = .ok (.ireturn, 1) := by decide +kernel
theorem dL_pickCoins_17 : decode cL_pickCoins 17 = .ok (.astore 4, 2) := by decide +kernel
theorem dL_pickCoins_19 : decode cL_pickCoins 19 = .ok (.iconst 2, 1) := by decide +kernel
theorem dL_pickCoins_20 : decode cL_pickCoins 20 = .ok (.ireturn, 1) := by decide +kernel
theorem dL_pickCoins_21 : decode cL_pickCoins 21 = .ok (.astore 4, 2) := by decide +kernel
theorem dL_pickCoins_23 : decode cL_pickCoins 23 = .ok (.iconst 3, 1) := by decide +kernel
theorem dL_pickCoins_24 : decode cL_pickCoins 24 = .ok (.ireturn, 1) := by decide +kernel
theorem dL_pickCoins_25 : decode cL_pickCoins 25 = .ok (.iconst 0, 1) := by decide +kernel
theorem dL_pickCoins_26 : decode cL_pickCoins 26 = .ok (.ireturn, 1) := by decide +kernel
theorem dL_layRoyalCoin_0 : decode cL_layRoyalCoin 0 = .ok (.aload_n 3, 1) := by decide +kernel
theorem dL_layRoyalCoin_1 : decode cL_layRoyalCoin 1 = .ok (.iconst 0, 1) := by decide +kernel
theorem dL_layRoyalCoin_2 : decode cL_layRoyalCoin 2 = .ok (.aload_n 0, 1) := by decide +kernel
theorem dL_layRoyalCoin_3 : decode cL_layRoyalCoin 3 = .ok (.iload_n 1, 1) := by decide +kernel
theorem dL_layRoyalCoin_4 : decode cL_layRoyalCoin 4 = .ok (.iload_n 2, 1) := by decide +kernel
theorem dL_layRoyalCoin_5 : decode cL_layRoyalCoin 5 = .ok (.invokevirtual 99, 3) := by decide +kernel
theorem dL_layRoyalCoin_8 : decode cL_layRoyalCoin 8 = .ok (.i2l, 1) := by decide +kernel
theorem dL_layRoyalCoin_9 : decode cL_layRoyalCoin 9 = .ok (.lastore, 1) := by decide +kernel
theorem dL_layRoyalCoin_10 : decode cL_layRoyalCoin 10 = .ok (.goto 15, 3) := by decide +kernel
theorem dL_layRoyalCoin_13 : decode cL_layRoyalCoin 13 = .ok (.astore 4, 2) := by decide +kernel
theorem dL_layRoyalCoin_15 : decode cL_layRoyalCoin 15 = .ok (.iconst 1, 1) := by decide +kernel
theorem dL_layRoyalCoin_16 : decode cL_layRoyalCoin 16 = .ok (.ireturn, 1) := by decide +kernel
theorem dL_layRoyalCoin_17 : decode cL_layRoyalCoin 17 = .ok (.astore 4, 2) := by decide +kernel
theorem dL_layRoyalCoin_19 : decode cL_layRoyalCoin 19 = .ok (.iconst 2, 1) := by decide +kernel
theorem dL_layRoyalCoin_20 : decode cL_layRoyalCoin 20 = .ok (.ireturn, 1) := by decide +kernel
theorem dL_layRoyalCoin_21 : decode cL_layRoyalCoin 21 = .ok (.astore 4, 2) := by decide +kernel
theorem dL_layRoyalCoin_23 : decode cL_layRoyalCoin 23 = .ok (.iconst 3, 1) := by decide +kernel
theorem dL_layRoyalCoin_24 : decode cL_layRoyalCoin 24 = .ok (.ireturn, 1) := by decide +kernel
theorem dL_layRoyalCoin_25 : decode cL_layRoyalCoin 25 = .ok (.iconst 0, 1) := by decide +kernel
theorem dL_layRoyalCoin_26 : decode cL_layRoyalCoin 26 = .ok (.ireturn, 1) := by decide +kernel
theorem dL_liftRoyalCoin_0 : decode cL_liftRoyalCoin 0 = .ok (.aload_n 3, 1) := by decide +kernel
theorem dL_liftRoyalCoin_1 : decode cL_liftRoyalCoin 1 = .ok (.iconst 0, 1) := by decide +kernel
theorem dL_liftRoyalCoin_2 : decode cL_liftRoyalCoin 2 = .ok (.aload_n 0, 1) := by decide +kernel
theorem dL_liftRoyalCoin_3 : decode cL_liftRoyalCoin 3 = .ok (.iload_n 1, 1) := by decide +kernel
theorem dL_liftRoyalCoin_4 : decode cL_liftRoyalCoin 4 = .ok (.iload_n 2, 1) := by decide +kernel
theorem dL_liftRoyalCoin_5 : decode cL_liftRoyalCoin 5 = .ok (.invokevirtual 102, 3) := by decide +kernel
theorem dL_liftRoyalCoin_8 : decode cL_liftRoyalCoin 8 = .ok (.i2l, 1) := by decide +kernel
theorem dL_liftRoyalCoin_9 : decode cL_liftRoyalCoin 9 = .ok (.lastore, 1) := by decide +kernel
theorem dL_liftRoyalCoin_10 : decode cL_liftRoyalCoin 10 = .ok (.goto 15, 3) := by decide +kernel
theorem dL_liftRoyalCoin_13 : decode cL_liftRoyalCoin 13 = .ok (.astore 4, 2) := by decide +kernel
theorem dL_liftRoyalCoin_15 : decode cL_liftRoyalCoin 15 = .ok (.iconst 1, 1) := by decide +kernel
theorem dL_liftRoyalCoin_16 : decode cL_liftRoyalCoin 16 = .ok (.ireturn, 1) := by decide +kernel
theorem dL_liftRoyalCoin_17 : decode cL_liftRoyalCoin 17 = .ok (.astore 4, 2) := by decide +kernel
theorem dL_liftRoyalCoin_19 : decode cL_liftRoyalCoin 19 = .ok (.iconst 2, 1) := by decide +kernel
theorem dL_liftRoyalCoin_20 : decode cL_liftRoyalCoin 20 = .ok (.ireturn, 1) := by decide +kernel
theorem dL_liftRoyalCoin_21 : decode cL_liftRoyalCoin 21 = .ok (.astore 4, 2) := by decide +kernel
theorem dL_liftRoyalCoin_23 : decode cL_liftRoyalCoin 23 = .ok (.iconst 3, 1) := by decide +kernel
theorem dL_liftRoyalCoin_24 : decode cL_liftRoyalCoin 24 = .ok (.ireturn, 1) := by decide +kernel
theorem dL_liftRoyalCoin_25 : decode cL_liftRoyalCoin 25 = .ok (.iconst 0, 1) := by decide +kernel
theorem dL_liftRoyalCoin_26 : decode cL_liftRoyalCoin 26 = .ok (.ireturn, 1) := by decide +kernel
theorem dL_swapRags_0 : decode cL_swapRags 0 = .ok (.aload_n 3, 1) := by decide +kernel
theorem dL_swapRags_1 : decode cL_swapRags 1 = .ok (.iconst 0, 1) := by decide +kernel
theorem dL_swapRags_2 : decode cL_swapRags 2 = .ok (.aload_n 0, 1) := by decide +kernel
theorem dL_swapRags_3 : decode cL_swapRags 3 = .ok (.iload_n 1, 1) := by decide +kernel
theorem dL_swapRags_4 : decode cL_swapRags 4 = .ok (.iload_n 2, 1) := by decide +kernel
theorem dL_swapRags_5 : decode cL_swapRags 5 = .ok (.invokevirtual 105, 3) := by decide +kernel
theorem dL_swapRags_8 : decode cL_swapRags 8 = .ok (.i2l, 1) := by decide +kernel
theorem dL_swapRags_9 : decode cL_swapRags 9 = .ok (.lastore, 1) := by decide +kernel
theorem dL_swapRags_10 : decode cL_swapRags 10 = .ok (.goto 15, 3) := by decide +kernel
theorem dL_swapRags_13 : decode cL_swapRags 13 = .ok (.astore 4, 2) := by decide +kernel
theorem dL_swapRags_15 : decode cL_swapRags 15 = .ok (.iconst 1, 1) := by decide +kernel
theorem dL_swapRags_16 : decode cL_swapRags 16 = .ok (.ireturn, 1) := by decide +kernel
theorem dL_swapRags_17 : decode cL_swapRags 17 = .ok (.astore 4, 2) := by decide +kernel
theorem dL_swapRags_19 : decode cL_swapRags 19 = .ok (.iconst 2, 1) := by decide +kernel
theorem dL_swapRags_20 : decode cL_swapRags 20 = .ok (.ireturn, 1) := by decide +kernel
theorem dL_swapRags_21 : decode cL_swapRags 21 = .ok (.astore 4, 2) := by decide +kernel
theorem dL_swapRags_23 : decode cL_swapRags 23 = .ok (.iconst 3, 1) := by decide +kernel
theorem dL_swapRags_24 : decode cL_swapRags 24 = .ok (.ireturn, 1) := by decide +kernel
theorem dL_swapRags_25 : decode cL_swapRags 25 = .ok (.iconst 0, 1) := by decide +kernel
theorem dL_swapRags_26 : decode cL_swapRags 26 = .ok (.ireturn, 1) := by decide +kernel
theorem dL_joinQueue_0 : decode cL_joinQueue 0 = .ok (.aload_n 3, 1) := by decide +kernel
theorem dL_joinQueue_1 : decode cL_joinQueue 1 = .ok (.iconst 0, 1) := by decide +kernel
theorem dL_joinQueue_2 : decode cL_joinQueue 2 = .ok (.aload_n 0, 1) := by decide +kernel
theorem dL_joinQueue_3 : decode cL_joinQueue 3 = .ok (.iload_n 1, 1) := by decide +kernel
theorem dL_joinQueue_4 : decode cL_joinQueue 4 = .ok (.iload_n 2, 1) := by decide +kernel
theorem dL_joinQueue_5 : decode cL_joinQueue 5 = .ok (.invokevirtual 108, 3) := by decide +kernel
theorem dL_joinQueue_8 : decode cL_joinQueue 8 = .ok (.i2l, 1) := by decide +kernel
theorem dL_joinQueue_9 : decode cL_joinQueue 9 = .ok (.lastore, 1) := by decide +kernel
theorem dL_joinQueue_10 : decode cL_joinQueue 10 = .ok (.goto 15, 3) := by decide +kernel
theorem dL_joinQueue_13 : decode cL_joinQueue 13 = .ok (.astore 4, 2) := by decide +kernel
theorem dL_joinQueue_15 : decode cL_joinQueue 15 = .ok (.iconst 1, 1) := by decide +kernel
theorem dL_joinQueue_16 : decode cL_joinQueue 16 = .ok (.ireturn, 1) := by decide +kernel
theorem dL_joinQueue_17 : decode cL_joinQueue 17 = .ok (.astore 4, 2) := by decide +kernel
theorem dL_joinQueue_19 : decode cL_joinQueue 19 = .ok (.iconst 2, 1) := by decide +kernel
theorem dL_joinQueue_20 : decode cL_joinQueue 20 = .ok (.ireturn, 1) := by decide +kernel
theorem dL_joinQueue_21 : decode cL_joinQueue 21 = .ok (.astore 4, 2) := by decide +kernel
theorem dL_joinQueue_23 : decode cL_joinQueue 23 = .ok (.iconst 3, 1) := by decide +kernel
theorem dL_joinQueue_24 : decode cL_joinQueue 24 = .ok (.ireturn, 1) := by decide +kernel
theorem dL_joinQueue_25 : decode cL_joinQueue 25 = .ok (.iconst 0, 1) := by decide +kernel
theorem dL_joinQueue_26 : decode cL_joinQueue 26 = .ok (.ireturn, 1) := by decide +kernel
theorem dL_quitQueue_0 : decode cL_quitQueue 0 = .ok (.aload_n 2, 1) := by decide +kernel
theorem dL_quitQueue_1 : decode cL_quitQueue 1 = .ok (.iconst 0, 1) := by decide +kernel
theorem dL_quitQueue_2 : decode cL_quitQueue 2 = .ok (.aload_n 0, 1) := by decide +kernel
theorem dL_quitQueue_3 : decode cL_quitQueue 3 = .ok (.iload_n 1, 1) := by decide +kernel
theorem dL_quitQueue_4 : decode cL_quitQueue 4 = .ok (.invokevirtual 111, 3) := by decide +kernel
theorem dL_quitQueue_7 : decode cL_quitQueue 7 = .ok (.i2l, 1) := by decide +kernel
theorem dL_quitQueue_8 : decode cL_quitQueue 8 = .ok (.lastore, 1) := by decide +kernel
theorem dL_quitQueue_9 : decode cL_quitQueue 9 = .ok (.goto 9, 3) := by decide +kernel
theorem dL_quitQueue_12 : decode cL_quitQueue 12 = .ok (.astore_n 3, 1) := by decide +kernel
theorem dL_quitQueue_13 : decode cL_quitQueue 13 = .ok (.iconst 1, 1) := by decide +kernel
theorem dL_quitQueue_14 : decode cL_quitQueue 14 = .ok (.ireturn, 1) := by decide +kernel
theorem dL_quitQueue_15 : decode cL_quitQueue 15 = .ok (.astore_n 3, 1) := by decide +kernel
theorem dL_quitQueue_16 : decode cL_quitQueue 16 = .ok (.iconst 2, 1) := by decide +kernel
theorem dL_quitQueue_17 : decode cL_quitQueue 17 = .ok (.ireturn, 1) := by decide +kernel
theorem dL_quitQueue_18 : decode cL_quitQueue 18 = .ok (.iconst 0, 1) := by decide +kernel
theorem dL_quitQueue_19 : decode cL_quitQueue 19 = .ok (.ireturn, 1) := by decide +kernel
theorem dL_setPride_0 : decode cL_setPride 0 = .ok (.aload_n 3, 1) := by decide +kernel
theorem dL_setPride_1 : decode cL_setPride 1 = .ok (.iconst 0, 1) := by decide +kernel
theorem dL_setPride_2 : decode cL_setPride 2 = .ok (.aload_n 0, 1) := by decide +kernel
theorem dL_setPride_3 : decode cL_setPride 3 = .ok (.iload_n 1, 1) := by decide +kernel
theorem dL_setPride_4 : decode cL_setPride 4 = .ok (.iload_n 2, 1) := by decide +kernel
theorem dL_setPride_5 : decode cL_setPride 5 = .ok (.invokevirtual 114, 3) := by decide +kernel
theorem dL_setPride_8 : decode cL_setPride 8 = .ok (.i2l, 1) := by decide +kernel
theorem dL_setPride_9 : decode cL_setPride 9 = .ok (.lastore, 1) := by decide +kernel
theorem dL_setPride_10 : decode cL_setPride 10 = .ok (.goto 11, 3) := by decide +kernel
theorem dL_setPride_13 : decode cL_setPride 13 = .ok (.astore 4, 2) := by decide +kernel
theorem dL_setPride_15 : decode cL_setPride 15 = .ok (.iconst 1, 1) := by decide +kernel
theorem dL_setPride_16 : decode cL_setPride 16 = .ok (.ireturn, 1) := by decide +kernel
theorem dL_setPride_17 : decode cL_setPride 17 = .ok (.astore 4, 2) := by decide +kernel
theorem dL_setPride_19 : decode cL_setPride 19 = .ok (.iconst 2, 1) := by decide +kernel
theorem dL_setPride_20 : decode cL_setPride 20 = .ok (.ireturn, 1) := by decide +kernel
theorem dL_setPride_21 : decode cL_setPride 21 = .ok (.iconst 0, 1) := by decide +kernel
theorem dL_setPride_22 : decode cL_setPride 22 = .ok (.ireturn, 1) := by decide +kernel
theorem dL_passTurns_0 : decode cL_passTurns 0 = .ok (.aload_n 2, 1) := by decide +kernel
theorem dL_passTurns_1 : decode cL_passTurns 1 = .ok (.iconst 0, 1) := by decide +kernel
theorem dL_passTurns_2 : decode cL_passTurns 2 = .ok (.aload_n 0, 1) := by decide +kernel
theorem dL_passTurns_3 : decode cL_passTurns 3 = .ok (.iload_n 1, 1) := by decide +kernel
theorem dL_passTurns_4 : decode cL_passTurns 4 = .ok (.invokevirtual 117, 3) := by decide +kernel
theorem dL_passTurns_7 : decode cL_passTurns 7 = .ok (.i2l, 1) := by decide +kernel
theorem dL_passTurns_8 : decode cL_passTurns 8 = .ok (.lastore, 1) := by decide +kernel
theorem dL_passTurns_9 : decode cL_passTurns 9 = .ok (.goto 9, 3) := by decide +kernel
theorem dL_passTurns_12 : decode cL_passTurns 12 = .ok (.astore_n 3, 1) := by decide +kernel
theorem dL_passTurns_13 : decode cL_passTurns 13 = .ok (.iconst 1, 1) := by decide +kernel
theorem dL_passTurns_14 : decode cL_passTurns 14 = .ok (.ireturn, 1) := by decide +kernel
theorem dL_passTurns_15 : decode cL_passTurns 15 = .ok (.astore_n 3, 1) := by decide +kernel
theorem dL_passTurns_16 : decode cL_passTurns 16 = .ok (.iconst 2, 1) := by decide +kernel
theorem dL_passTurns_17 : decode cL_passTurns 17 = .ok (.ireturn, 1) := by decide +kernel
theorem dL_passTurns_18 : decode cL_passTurns 18 = .ok (.iconst 0, 1) := by decide +kernel
theorem dL_passTurns_19 : decode cL_passTurns 19 = .ok (.ireturn, 1) := by decide +kernel
theorem dL_runScript_0 : decode cL_runScript 0 = .ok (.aload_n 2, 1) := by decide +kernel
theorem dL_runScript_1 : decode cL_runScript 1 = .ok (.iconst 0, 1) := by decide +kernel
theorem dL_runScript_2 : decode cL_runScript 2 = .ok (.aload_n 0, 1) := by decide +kernel
theorem dL_runScript_3 : decode cL_runScript 3 = .ok (.iload_n 1, 1) := by decide +kernel
theorem dL_runScript_4 : decode cL_runScript 4 = .ok (.invokevirtual 120, 3) := by decide +kernel
theorem dL_runScript_7 : decode cL_runScript 7 = .ok (.i2l, 1) := by decide +kernel
theorem dL_runScript_8 : decode cL_runScript 8 = .ok (.lastore, 1) := by decide +kernel
theorem dL_runScript_9 : decode cL_runScript 9 = .ok (.goto 6, 3) := by decide +kernel
theorem dL_runScript_12 : decode cL_runScript 12 = .ok (.astore_n 3, 1) := by decide +kernel
theorem dL_runScript_13 : decode cL_runScript 13 = .ok (.iconst 1, 1) := by decide +kernel
theorem dL_runScript_14 : decode cL_runScript 14 = .ok (.ireturn, 1) := by decide +kernel
theorem dL_runScript_15 : decode cL_runScript 15 = .ok (.iconst 0, 1) := by decide +kernel
theorem dL_runScript_16 : decode cL_runScript 16 = .ok (.ireturn, 1) := by decide +kernel
theorem dL_outputByte_0 : decode cL_outputByte 0 = .ok (.aload_n 2, 1) := by decide +kernel
theorem dL_outputByte_1 : decode cL_outputByte 1 = .ok (.iconst 0, 1) := by decide +kernel
theorem dL_outputByte_2 : decode cL_outputByte 2 = .ok (.aload_n 0, 1) := by decide +kernel
theorem dL_outputByte_3 : decode cL_outputByte 3 = .ok (.iload_n 1, 1) := by decide +kernel
theorem dL_outputByte_4 : decode cL_outputByte 4 = .ok (.invokevirtual 123, 3) := by decide +kernel
theorem dL_outputByte_7 : decode cL_outputByte 7 = .ok (.i2l, 1) := by decide +kernel
theorem dL_outputByte_8 : decode cL_outputByte 8 = .ok (.lastore, 1) := by decide +kernel
theorem dL_outputByte_9 : decode cL_outputByte 9 = .ok (.goto 6, 3) := by decide +kernel
theorem dL_outputByte_12 : decode cL_outputByte 12 = .ok (.astore_n 3, 1) := by decide +kernel
theorem dL_outputByte_13 : decode cL_outputByte 13 = .ok (.iconst 1, 1) := by decide +kernel
theorem dL_outputByte_14 : decode cL_outputByte 14 = .ok (.ireturn, 1) := by decide +kernel
theorem dL_outputByte_15 : decode cL_outputByte 15 = .ok (.iconst 0, 1) := by decide +kernel
theorem dL_outputByte_16 : decode cL_outputByte 16 = .ok (.ireturn, 1) := by decide +kernel
theorem dL_undo_0 : decode cL_undo 0 = .ok (.aload_n 1, 1) := by decide +kernel
theorem dL_undo_1 : decode cL_undo 1 = .ok (.iconst 0, 1) := by decide +kernel
theorem dL_undo_2 : decode cL_undo 2 = .ok (.aload_n 0, 1) := by decide +kernel
theorem dL_undo_3 : decode cL_undo 3 = .ok (.invokevirtual 126, 3) := by decide +kernel
theorem dL_undo_6 : decode cL_undo 6 = .ok (.i2l, 1) := by decide +kernel
theorem dL_undo_7 : decode cL_undo 7 = .ok (.lastore, 1) := by decide +kernel
theorem dL_undo_8 : decode cL_undo 8 = .ok (.goto 6, 3) := by decide +kernel
theorem dL_undo_11 : decode cL_undo 11 = .ok (.astore_n 2, 1) := by decide +kernel
theorem dL_undo_12 : decode cL_undo 12 = .ok (.iconst 1, 1) := by decide +kernel
theorem dL_undo_13 : decode cL_undo 13 = .ok (.ireturn, 1) := by decide +kernel
theorem dL_undo_14 : decode cL_undo 14 = .ok (.iconst 0, 1) := by decide +kernel
theorem dL_undo_15 : decode cL_undo 15 = .ok (.ireturn, 1) := by decide +kernel
theorem dL_restoreSnapshot_0 : decode cL_restoreSnapshot 0 = .ok (.aload_n 1, 1) := by decide +kernel
theorem dL_restoreSnapshot_1 : decode cL_restoreSnapshot 1 = .ok (.iconst 0, 1) := by decide +kernel
theorem dL_restoreSnapshot_2 : decode cL_restoreSnapshot 2 = .ok (.aload_n 0, 1) := by decide +kernel
theorem dL_restoreSnapshot_3 : decode cL_restoreSnapshot 3 = .ok (.invokevirtual 130, 3) := by decide +kernel
theorem dL_restoreSnapshot_6 : decode cL_restoreSnapshot 6 = .ok (.i2l, 1) := by decide +kernel
theorem dL_restoreSnapshot_7 : decode cL_restoreSnapshot 7 = .ok (.lastore, 1) := by decide +kernel
theorem dL_restoreSnapshot_8 : decode cL_restoreSnapshot 8 = .ok (.goto 6, 3) := by decide +kernel
theorem dL_restoreSnapshot_11 : decode cL_restoreSnapshot 11 = .ok (.astore_n 2, 1) := by decide +kernel
theorem dL_restoreSnapshot_12 : decode cL_restoreSnapshot 12 = .ok (.iconst 1, 1) := by decide +kernel
theorem dL_restoreSnapshot_13 : decode cL_restoreSnapshot 13 = .ok (.ireturn, 1) := by decide +kernel
theorem dL_restoreSnapshot_14 : decode cL_restoreSnapshot 14 = .ok (.iconst 0, 1) := by decide +kernel
theorem dL_restoreSnapshot_15 : decode cL_restoreSnapshot 15 = .ok (.ireturn, 1) := by decide +kernel
