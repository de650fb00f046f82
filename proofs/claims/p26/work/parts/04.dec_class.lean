theorem dX0_init_0 : decode cX0_init 0 = .ok (.aload_n 0, 1) := by decide +kernel
theorem dX0_init_1 : decode cX0_init 1 = .ok (.invokespecial 3, 3) := by decide +kernel
theorem dX0_init_4 : decode cX0_init 4 = .ok (.aload_n 0, 1) := by decide +kernel
theorem dX0_init_5 : decode cX0_init 5 = .ok (.sipush 500, 3) := by decide +kernel
theorem dX0_init_8 : decode cX0_init 8 = .ok (.newarray .int, 2) := by decide +kernel
theorem dX0_init_10 : decode cX0_init 10 = .ok (.putfield 9, 3) := by decide +kernel
theorem dX0_init_13 : decode cX0_init 13 = .ok (.aload_n 0, 1) := by decide +kernel
theorem dX0_init_14 : decode cX0_init 14 = .ok (.sipush 500, 3) := by decide +kernel
theorem dX0_init_17 : decode cX0_init 17 = .ok (.newarray .int, 2) := by decide +kernel
theorem dX0_init_19 : decode cX0_init 19 = .ok (.putfield 15, 3) := by decide +kernel
theorem dX0_init_22 : decode cX0_init 22 = .ok (.aload_n 0, 1) := by decide +kernel
theorem dX0_init_23 : decode cX0_init 23 = .ok (.sipush 500, 3) := by decide +kernel
theorem dX0_init_26 : decode cX0_init 26 = .ok (.newarray .boolean, 2) := by decide +kernel
theorem dX0_init_28 : decode cX0_init 28 = .ok (.putfield 18, 3) := by decide +kernel
theorem dX0_init_31 : decode cX0_init 31 = .ok (.aload_n 0, 1) := by decide +kernel
theorem dX0_init_32 : decode cX0_init 32 = .ok (.iconst (-1), 1) := by decide +kernel
theorem dX0_init_33 : decode cX0_init 33 = .ok (.putfield 22, 3) := by decide +kernel
theorem dX0_init_36 : decode cX0_init 36 = .ok (.return_, 1) := by decide +kernel
theorem dX0_begin_0 : decode cX0_begin 0 = .ok (.aload_n 0, 1) := by decide +kernel
theorem dX0_begin_1 : decode cX0_begin 1 = .ok (.iconst 0, 1) := by decide +kernel
theorem dX0_begin_2 : decode cX0_begin 2 = .ok (.putfield 26, 3) := by decide +kernel
theorem dX0_begin_5 : decode cX0_begin 5 = .ok (.aload_n 0, 1) := by decide +kernel
theorem dX0_begin_6 : decode cX0_begin 6 = .ok (.iconst (-1), 1) := by decide +kernel
theorem dX0_begin_7 : decode cX0_begin 7 = .ok (.putfield 22, 3) := by decide +kernel
theorem dX0_begin_10 : decode cX0_begin 10 = .ok (.aload_n 0, 1) := by decide +kernel
theorem dX0_begin_11 : decode cX0_begin 11 = .ok (.iconst 0, 1) := by decide +kernel
theorem dX0_begin_12 : decode cX0_begin 12 = .ok (.putfield 29, 3) := by decide +kernel
theorem dX0_begin_15 : decode cX0_begin 15 = .ok (.aload_n 0, 1) := by decide +kernel
theorem dX0_begin_16 : decode cX0_begin 16 = .ok (.iconst 0, 1) := by decide +kernel
theorem dX0_begin_17 : decode cX0_begin 17 = .ok (.putfield 32, 3) := by decide +kernel
theorem dX0_begin_20 : decode cX0_begin 20 = .ok (.return_, 1) := by decide +kernel
theorem dX0_look_0 : decode cX0_look 0 = .ok (.aload_n 0, 1) := by decide +kernel
theorem dX0_look_1 : decode cX0_look 1 = .ok (.getfield 32, 3) := by decide +kernel
theorem dX0_look_4 : decode cX0_look 4 = .ok (.istore_n 3, 1) := by decide +kernel
theorem dX0_look_5 : decode cX0_look 5 = .ok (.aload_n 0, 1) := by decide +kernel
theorem dX0_look_6 : decode cX0_look 6 = .ok (.aload_n 0, 1) := by decide +kernel
theorem dX0_look_7 : decode cX0_look 7 = .ok (.getfield 22, 3) := by decide +kernel
theorem dX0_look_10 : decode cX0_look 10 = .ok (.iconst (-1), 1) := by decide +kernel
theorem dX0_look_11 : decode cX0_look 11 = .ok (.if_icmp .eq 25, 3) := by decide +kernel
theorem dX0_look_14 : decode cX0_look 14 = .ok (.aload_n 1, 1) := by decide +kernel
theorem dX0_look_15 : decode cX0_look 15 = .ok (.aload_n 0, 1) := by decide +kernel
theorem dX0_look_16 : decode cX0_look 16 = .ok (.getfield 22, 3) := by decide +kernel
theorem dX0_look_19 : decode cX0_look 19 = .ok (.iload_n 2, 1) := by decide +kernel
theorem dX0_look_20 : decode cX0_look 20 = .ok (.iload_n 2, 1) := by decide +kernel
theorem dX0_look_21 : decode cX0_look 21 = .ok (.aload_n 0, 1) := by decide +kernel
theorem dX0_look_22 : decode cX0_look 22 = .ok (.getfield 29, 3) := by decide +kernel
theorem dX0_look_25 : decode cX0_look 25 = .ok (.iadd, 1) := by decide +kernel
theorem dX0_look_26 : decode cX0_look 26 = .ok (.invokevirtual 36, 3) := by decide +kernel
theorem dX0_look_29 : decode cX0_look 29 = .ok (.ifCond .eq 7, 3) := by decide +kernel
theorem dX0_look_32 : decode cX0_look 32 = .ok (.iconst 1, 1) := by decide +kernel
theorem dX0_look_33 : decode cX0_look 33 = .ok (.goto 4, 3) := by decide +kernel
theorem dX0_look_36 : decode cX0_look 36 = .ok (.iconst 0, 1) := by decide +kernel
theorem dX0_look_37 : decode cX0_look 37 = .ok (.putfield 32, 3) := by decide +kernel
theorem dX0_look_40 : decode cX0_look 40 = .ok (.aload_n 0, 1) := by decide +kernel
theorem dX0_look_41 : decode cX0_look 41 = .ok (.getfield 32, 3) := by decide +kernel
theorem dX0_look_44 : decode cX0_look 44 = .ok (.ifCond .ne 4, 3) := by decide +kernel
theorem dX0_look_47 : decode cX0_look 47 = .ok (.return_, 1) := by decide +kernel
theorem dX0_look_48 : decode cX0_look 48 = .ok (.iload_n 3, 1) := by decide +kernel
theorem dX0_look_49 : decode cX0_look 49 = .ok (.ifCond .ne 45, 3) := by decide +kernel
theorem dX0_look_52 : decode cX0_look 52 = .ok (.aload_n 0, 1) := by decide +kernel
theorem dX0_look_53 : decode cX0_look 53 = .ok (.getfield 26, 3) := by decide +kernel
theorem dX0_look_56 : decode cX0_look 56 = .ok (.aload_n 0, 1) := by decide +kernel
theorem dX0_look_57 : decode cX0_look 57 = .ok (.getfield 9, 3) := by decide +kernel
theorem dX0_look_60 : decode cX0_look 60 = .ok (.arraylength, 1) := by decide +kernel
theorem dX0_look_61 : decode cX0_look 61 = .ok (.if_icmp .ge 33, 3) := by decide +kernel
theorem dX0_look_64 : decode cX0_look 64 = .ok (.aload_n 0, 1) := by decide +kernel
theorem dX0_look_65 : decode cX0_look 65 = .ok (.getfield 9, 3) := by decide +kernel
theorem dX0_look_68 : decode cX0_look 68 = .ok (.aload_n 0, 1) := by decide +kernel
theorem dX0_look_69 : decode cX0_look 69 = .ok (.getfield 26, 3) := by decide +kernel
theorem dX0_look_72 : decode cX0_look 72 = .ok (.iload_n 2, 1) := by decide +kernel
theorem dX0_look_73 : decode cX0_look 73 = .ok (.iastore, 1) := by decide +kernel
theorem dX0_look_74 : decode cX0_look 74 = .ok (.aload_n 0, 1) := by decide +kernel
theorem dX0_look_75 : decode cX0_look 75 = .ok (.getfield 18, 3) := by decide +kernel
theorem dX0_look_78 : decode cX0_look 78 = .ok (.aload_n 0, 1) := by decide +kernel
theorem dX0_look_79 : decode cX0_look 79 = .ok (.getfield 26, 3) := by decide +kernel
theorem dX0_look_82 : decode cX0_look 82 = .ok (.iconst 0, 1) := by decide +kernel
theorem dX0_look_83 : decode cX0_look 83 = .ok (.bastore, 1) := by decide +kernel
theorem dX0_look_84 : decode cX0_look 84 = .ok (.aload_n 0, 1) := by decide +kernel
theorem dX0_look_85 : decode cX0_look 85 = .ok (.dup, 1) := by decide +kernel
theorem dX0_look_86 : decode cX0_look 86 = .ok (.getfield 26, 3) := by decide +kernel
theorem dX0_look_89 : decode cX0_look 89 = .ok (.iconst 1, 1) := by decide +kernel
theorem dX0_look_90 : decode cX0_look 90 = .ok (.iadd, 1) := by decide +kernel
theorem dX0_look_91 : decode cX0_look 91 = .ok (.putfield 26, 3) := by decide +kernel
theorem dX0_look_94 : decode cX0_look 94 = .ok (.aload_n 0, 1) := by decide +kernel
theorem dX0_look_95 : decode cX0_look 95 = .ok (.getfield 26, 3) := by decide +kernel
theorem dX0_look_98 : decode cX0_look 98 = .ok (.iconst 1, 1) := by decide +kernel
theorem dX0_look_99 : decode cX0_look 99 = .ok (.isub, 1) := by decide +kernel
theorem dX0_look_100 : decode cX0_look 100 = .ok (.istore 4, 2) := by decide +kernel
theorem dX0_look_102 : decode cX0_look 102 = .ok (.iload 4, 2) := by decide +kernel
theorem dX0_look_104 : decode cX0_look 104 = .ok (.ifCond .lt 45, 3) := by decide +kernel
theorem dX0_look_107 : decode cX0_look 107 = .ok (.aload_n 0, 1) := by decide +kernel
theorem dX0_look_108 : decode cX0_look 108 = .ok (.getfield 15, 3) := by decide +kernel
theorem dX0_look_111 : decode cX0_look 111 = .ok (.iload 4, 2) := by decide +kernel
theorem dX0_look_113 : decode cX0_look 113 = .ok (.iload_n 2, 1) := by decide +kernel
theorem dX0_look_114 : decode cX0_look 114 = .ok (.iastore, 1) := by decide +kernel
theorem dX0_look_115 : decode cX0_look 115 = .ok (.aload_n 0, 1) := by decide +kernel
theorem dX0_look_116 : decode cX0_look 116 = .ok (.getfield 18, 3) := by decide +kernel
theorem dX0_look_119 : decode cX0_look 119 = .ok (.iload 4, 2) := by decide +kernel
theorem dX0_look_121 : decode cX0_look 121 = .ok (.aload_n 0, 1) := by decide +kernel
theorem dX0_look_122 : decode cX0_look 122 = .ok (.getfield 18, 3) := by decide +kernel
theorem dX0_look_125 : decode cX0_look 125 = .ok (.iload 4, 2) := by decide +kernel
theorem dX0_look_127 : decode cX0_look 127 = .ok (.baload, 1) := by decide +kernel
theorem dX0_look_128 : decode cX0_look 128 = .ok (.ifCond .ne 15, 3) := by decide +kernel
theorem dX0_look_131 : decode cX0_look 131 = .ok (.aload_n 1, 1) := by decide +kernel
theorem dX0_look_132 : decode cX0_look 132 = .ok (.iload_n 2, 1) := by decide +kernel
theorem dX0_look_133 : decode cX0_look 133 = .ok (.invokevirtual 42, 3) := by decide +kernel
theorem dX0_look_136 : decode cX0_look 136 = .ok (.aload_n 0, 1) := by decide +kernel
theorem dX0_look_137 : decode cX0_look 137 = .ok (.getfield 22, 3) := by decide +kernel
theorem dX0_look_140 : decode cX0_look 140 = .ok (.if_icmp .le 7, 3) := by decide +kernel
theorem dX0_look_143 : decode cX0_look 143 = .ok (.iconst 1, 1) := by decide +kernel
theorem dX0_look_144 : decode cX0_look 144 = .ok (.goto 4, 3) := by decide +kernel
theorem dX0_look_147 : decode cX0_look 147 = .ok (.iconst 0, 1) := by decide +kernel
theorem dX0_look_148 : decode cX0_look 148 = .ok (.bastore, 1) := by decide +kernel
theorem dX0_look_149 : decode cX0_look 149 = .ok (.return_, 1) := by decide +kernel
theorem dX0_answer_0 : decode cX0_answer 0 = .ok (.iload_n 2, 1) := by decide +kernel
theorem dX0_answer_1 : decode cX0_answer 1 = .ok (.lookupswitch 41 #[(0, 27), (1, 34)], 27) := by decide +kernel
theorem dX0_answer_28 : decode cX0_answer 28 = .ok (.aload_n 0, 1) := by decide +kernel
theorem dX0_answer_29 : decode cX0_answer 29 = .ok (.getfield 9, 3) := by decide +kernel
theorem dX0_answer_32 : decode cX0_answer 32 = .ok (.iload_n 1, 1) := by decide +kernel
theorem dX0_answer_33 : decode cX0_answer 33 = .ok (.iaload, 1) := by decide +kernel
theorem dX0_answer_34 : decode cX0_answer 34 = .ok (.ireturn, 1) := by decide +kernel
theorem dX0_answer_35 : decode cX0_answer 35 = .ok (.aload_n 0, 1) := by decide +kernel
theorem dX0_answer_36 : decode cX0_answer 36 = .ok (.getfield 15, 3) := by decide +kernel
theorem dX0_answer_39 : decode cX0_answer 39 = .ok (.iload_n 1, 1) := by decide +kernel
theorem dX0_answer_40 : decode cX0_answer 40 = .ok (.iaload, 1) := by decide +kernel
theorem dX0_answer_41 : decode cX0_answer 41 = .ok (.ireturn, 1) := by decide +kernel
theorem dX0_answer_42 : decode cX0_answer 42 = .ok (.aload_n 0, 1) := by decide +kernel
theorem dX0_answer_43 : decode cX0_answer 43 = .ok (.getfield 18, 3) := by decide +kernel
theorem dX0_answer_46 : decode cX0_answer 46 = .ok (.iload_n 1, 1) := by decide +kernel
theorem dX0_answer_47 : decode cX0_answer 47 = .ok (.baload, 1) := by decide +kernel
theorem dX0_answer_48 : decode cX0_answer 48 = .ok (.ifCond .eq 7, 3) := by decide +kernel
theorem dX0_answer_51 : decode cX0_answer 51 = .ok (.iconst 1, 1) := by decide +kernel
theorem dX0_answer_52 : decode cX0_answer 52 = .ok (.goto 4, 3) := by decide +kernel
theorem dX0_answer_55 : decode cX0_answer 55 = .ok (.iconst 0, 1) := by decide +kernel
theorem dX0_answer_56 : decode cX0_answer 56 = .ok (.ireturn, 1) := by decide +kernel
theorem dX1_init_0 : decode cX1_init 0 = .ok (.aload_n 0, 1) := by decide +kernel
theorem dX1_init_1 : decode cX1_init 1 = .ok (.invokespecial 3, 3) := by decide +kernel
theorem dX1_init_4 : decode cX1_init 4 = .ok (.return_, 1) := by decide +kernel
theorem dX1_begin_0 : decode cX1_begin 0 = .ok (.aload_n 0, 1) := by decide +kernel
theorem dX1_begin_1 : decode cX1_begin 1 = .ok (.iload_n 1, 1) := by decide +kernel
theorem dX1_begin_2 : decode cX1_begin 2 = .ok (.putfield 9, 3) := by decide +kernel
theorem dX1_begin_5 : decode cX1_begin 5 = .ok (.aload_n 0, 1) := by decide +kernel
theorem dX1_begin_6 : decode cX1_begin 6 = .ok (.iload_n 2, 1) := by decide +kernel
theorem dX1_begin_7 : decode cX1_begin 7 = .ok (.putfield 15, 3) := by decide +kernel
theorem dX1_begin_10 : decode cX1_begin 10 = .ok (.aload_n 0, 1) := by decide +kernel
theorem dX1_begin_11 : decode cX1_begin 11 = .ok (.iload_n 3, 1) := by decide +kernel
theorem dX1_begin_12 : decode cX1_begin 12 = .ok (.putfield 18, 3) := by decide +kernel
theorem dX1_begin_15 : decode cX1_begin 15 = .ok (.aload_n 0, 1) := by decide +kernel
theorem dX1_begin_16 : decode cX1_begin 16 = .ok (.iload 4, 2) := by decide +kernel
theorem dX1_begin_18 : decode cX1_begin 18 = .ok (.putfield 21, 3) := by decide +kernel
theorem dX1_begin_21 : decode cX1_begin 21 = .ok (.aload_n 0, 1) := by decide +kernel
theorem dX1_begin_22 : decode cX1_begin 22 = .ok (.iload 5, 2) := by decide +kernel
theorem dX1_begin_24 : decode cX1_begin 24 = .ok (.putfield 24, 3) := by decide +kernel
theorem dX1_begin_27 : decode cX1_begin 27 = .ok (.aload_n 0, 1) := by decide +kernel
theorem dX1_begin_28 : decode cX1_begin 28 = .ok (.iconst 0, 1) := by decide +kernel
theorem dX1_begin_29 : decode cX1_begin 29 = .ok (.putfield 27, 3) := by decide +kernel
theorem dX1_begin_32 : decode cX1_begin 32 = .ok (.aload_n 0, 1) := by decide +kernel
theorem dX1_begin_33 : decode cX1_begin 33 = .ok (.iconst 0, 1) := by decide +kernel
theorem dX1_begin_34 : decode cX1_begin 34 = .ok (.putfield 30, 3) := by decide +kernel
theorem dX1_begin_37 : decode cX1_begin 37 = .ok (.aload_n 0, 1) := by decide +kernel
theorem dX1_begin_38 : decode cX1_begin 38 = .ok (.iconst 0, 1) := by decide +kernel
theorem dX1_begin_39 : decode cX1_begin 39 = .ok (.putfield 33, 3) := by decide +kernel
theorem dX1_begin_42 : decode cX1_begin 42 = .ok (.aload_n 0, 1) := by decide +kernel
theorem dX1_begin_43 : decode cX1_begin 43 = .ok (.iconst 0, 1) := by decide +kernel
theorem dX1_begin_44 : decode cX1_begin 44 = .ok (.putfield 36, 3) := by decide +kernel
theorem dX1_begin_47 : decode cX1_begin 47 = .ok (.aload_n 0, 1) := by decide +kernel
theorem dX1_begin_48 : decode cX1_begin 48 = .ok (.iconst 0, 1) := by decide +kernel
theorem dX1_begin_49 : decode cX1_begin 49 = .ok (.putfield 39, 3) := by decide +kernel
theorem dX1_begin_52 : decode cX1_begin 52 = .ok (.return_, 1) := by decide +kernel
theorem dX1_take_0 : decode cX1_take 0 = .ok (.aload_n 0, 1) := by decide +kernel
theorem dX1_take_1 : decode cX1_take 1 = .ok (.aload_n 1, 1) := by decide +kernel
theorem dX1_take_2 : decode cX1_take 2 = .ok (.getfield 43, 3) := by decide +kernel
theorem dX1_take_5 : decode cX1_take 5 = .ok (.ifCond .le 14, 3) := by decide +kernel
theorem dX1_take_8 : decode cX1_take 8 = .ok (.aload_n 1, 1) := by decide +kernel
theorem dX1_take_9 : decode cX1_take 9 = .ok (.invokevirtual 48, 3) := by decide +kernel
theorem dX1_take_12 : decode cX1_take 12 = .ok (.aload_n 0, 1) := by decide +kernel
theorem dX1_take_13 : decode cX1_take 13 = .ok (.getfield 18, 3) := by decide +kernel
theorem dX1_take_16 : decode cX1_take 16 = .ok (.if_icmp .le 7, 3) := by decide +kernel
theorem dX1_take_19 : decode cX1_take 19 = .ok (.iconst 1, 1) := by decide +kernel
theorem dX1_take_20 : decode cX1_take 20 = .ok (.goto 4, 3) := by decide +kernel
theorem dX1_take_23 : decode cX1_take 23 = .ok (.iconst 0, 1) := by decide +kernel
theorem dX1_take_24 : decode cX1_take 24 = .ok (.putfield 39, 3) := by decide +kernel
theorem dX1_take_27 : decode cX1_take 27 = .ok (.aload_n 0, 1) := by decide +kernel
theorem dX1_take_28 : decode cX1_take 28 = .ok (.getfield 39, 3) := by decide +kernel
theorem dX1_take_31 : decode cX1_take 31 = .ok (.ifCond .eq 14, 3) := by decide +kernel
theorem dX1_take_34 : decode cX1_take 34 = .ok (.aload_n 0, 1) := by decide +kernel
theorem dX1_take_35 : decode cX1_take 35 = .ok (.dup, 1) := by decide +kernel
theorem dX1_take_36 : decode cX1_take 36 = .ok (.getfield 36, 3) := by decide +kernel
theorem dX1_take_39 : decode cX1_take 39 = .ok (.iconst 1, 1) := by decide +kernel
theorem dX1_take_40 : decode cX1_take 40 = .ok (.iadd, 1) := by decide +kernel
theorem dX1_take_41 : decode cX1_take 41 = .ok (.putfield 36, 3) := by decide +kernel
theorem dX1_take_44 : decode cX1_take 44 = .ok (.return_, 1) := by decide +kernel
theorem dX1_take_45 : decode cX1_take 45 = .ok (.aload_n 0, 1) := by decide +kernel
theorem dX1_take_46 : decode cX1_take 46 = .ok (.getfield 15, 3) := by decide +kernel
theorem dX1_take_49 : decode cX1_take 49 = .ok (.aload_n 1, 1) := by decide +kernel
theorem dX1_take_50 : decode cX1_take 50 = .ok (.getfield 43, 3) := by decide +kernel
theorem dX1_take_53 : decode cX1_take 53 = .ok (.invokestatic 52, 3) := by decide +kernel
theorem dX1_take_56 : decode cX1_take 56 = .ok (.aload_n 0, 1) := by decide +kernel
theorem dX1_take_57 : decode cX1_take 57 = .ok (.getfield 21, 3) := by decide +kernel
theorem dX1_take_60 : decode cX1_take 60 = .ok (.aload_n 0, 1) := by decide +kernel
theorem dX1_take_61 : decode cX1_take 61 = .ok (.getfield 27, 3) := by decide +kernel
theorem dX1_take_64 : decode cX1_take 64 = .ok (.isub, 1) := by decide +kernel
theorem dX1_take_65 : decode cX1_take 65 = .ok (.invokestatic 52, 3) := by decide +kernel
theorem dX1_take_68 : decode cX1_take 68 = .ok (.istore_n 3, 1) := by decide +kernel
theorem dX1_take_69 : decode cX1_take 69 = .ok (.aload_n 1, 1) := by decide +kernel
theorem dX1_take_70 : decode cX1_take 70 = .ok (.iload_n 3, 1) := by decide +kernel
theorem dX1_take_71 : decode cX1_take 71 = .ok (.invokevirtual 58, 3) := by decide +kernel
theorem dX1_take_74 : decode cX1_take 74 = .ok (.istore 4, 2) := by decide +kernel
theorem dX1_take_76 : decode cX1_take 76 = .ok (.aload_n 0, 1) := by decide +kernel
theorem dX1_take_77 : decode cX1_take 77 = .ok (.dup, 1) := by decide +kernel
theorem dX1_take_78 : decode cX1_take 78 = .ok (.getfield 27, 3) := by decide +kernel
theorem dX1_take_81 : decode cX1_take 81 = .ok (.iload_n 3, 1) := by decide +kernel
theorem dX1_take_82 : decode cX1_take 82 = .ok (.iadd, 1) := by decide +kernel
theorem dX1_take_83 : decode cX1_take 83 = .ok (.putfield 27, 3) := by decide +kernel
theorem dX1_take_86 : decode cX1_take 86 = .ok (.aload_n 0, 1) := by decide +kernel
theorem dX1_take_87 : decode cX1_take 87 = .ok (.dup, 1) := by decide +kernel
theorem dX1_take_88 : decode cX1_take 88 = .ok (.getfield 30, 3) := by decide +kernel
theorem dX1_take_91 : decode cX1_take 91 = .ok (.iload_n 3, 1) := by decide +kernel
theorem dX1_take_92 : decode cX1_take 92 = .ok (.iadd, 1) := by decide +kernel
theorem dX1_take_93 : decode cX1_take 93 = .ok (.putfield 30, 3) := by decide +kernel
theorem dX1_take_96 : decode cX1_take 96 = .ok (.aload_n 2, 1) := by decide +kernel
theorem dX1_take_97 : decode cX1_take 97 = .ok (.iconst 3, 1) := by decide +kernel
theorem dX1_take_98 : decode cX1_take 98 = .ok (.dup2, 1) := by decide +kernel
theorem dX1_take_99 : decode cX1_take 99 = .ok (.laload, 1) := by decide +kernel
theorem dX1_take_100 : decode cX1_take 100 = .ok (.iload_n 3, 1) := by decide +kernel
theorem dX1_take_101 : decode cX1_take 101 = .ok (.i2l, 1) := by decide +kernel
theorem dX1_take_102 : decode cX1_take 102 = .ok (.ladd, 1) := by decide +kernel
theorem dX1_take_103 : decode cX1_take 103 = .ok (.lastore, 1) := by decide +kernel
theorem dX1_take_104 : decode cX1_take 104 = .ok (.aload_n 2, 1) := by decide +kernel
theorem dX1_take_105 : decode cX1_take 105 = .ok (.bipush 6, 2) := by decide +kernel
theorem dX1_take_107 : decode cX1_take 107 = .ok (.dup2, 1) := by decide +kernel
theorem dX1_take_108 : decode cX1_take 108 = .ok (.laload, 1) := by decide +kernel
theorem dX1_take_109 : decode cX1_take 109 = .ok (.iload 4, 2) := by decide +kernel
theorem dX1_take_111 : decode cX1_take 111 = .ok (.i2l, 1) := by decide +kernel
theorem dX1_take_112 : decode cX1_take 112 = .ok (.ladd, 1) := by decide +kernel
theorem dX1_take_113 : decode cX1_take 113 = .ok (.lastore, 1) := by decide +kernel
theorem dX1_take_114 : decode cX1_take 114 = .ok (.return_, 1) := by decide +kernel
theorem dX1_supply_0 : decode cX1_supply 0 = .ok (.aload_n 0, 1) := by decide +kernel
theorem dX1_supply_1 : decode cX1_supply 1 = .ok (.getfield 24, 3) := by decide +kernel
theorem dX1_supply_4 : decode cX1_supply 4 = .ok (.aload_n 0, 1) := by decide +kernel
theorem dX1_supply_5 : decode cX1_supply 5 = .ok (.getfield 27, 3) := by decide +kernel
theorem dX1_supply_8 : decode cX1_supply 8 = .ok (.invokestatic 52, 3) := by decide +kernel
theorem dX1_supply_11 : decode cX1_supply 11 = .ok (.istore_n 1, 1) := by decide +kernel
theorem dX1_supply_12 : decode cX1_supply 12 = .ok (.aload_n 0, 1) := by decide +kernel
theorem dX1_supply_13 : decode cX1_supply 13 = .ok (.dup, 1) := by decide +kernel
theorem dX1_supply_14 : decode cX1_supply 14 = .ok (.getfield 27, 3) := by decide +kernel
theorem dX1_supply_17 : decode cX1_supply 17 = .ok (.iload_n 1, 1) := by decide +kernel
theorem dX1_supply_18 : decode cX1_supply 18 = .ok (.isub, 1) := by decide +kernel
theorem dX1_supply_19 : decode cX1_supply 19 = .ok (.putfield 27, 3) := by decide +kernel
theorem dX1_supply_22 : decode cX1_supply 22 = .ok (.aload_n 0, 1) := by decide +kernel
theorem dX1_supply_23 : decode cX1_supply 23 = .ok (.dup, 1) := by decide +kernel
theorem dX1_supply_24 : decode cX1_supply 24 = .ok (.getfield 33, 3) := by decide +kernel
theorem dX1_supply_27 : decode cX1_supply 27 = .ok (.aload_n 0, 1) := by decide +kernel
theorem dX1_supply_28 : decode cX1_supply 28 = .ok (.getfield 24, 3) := by decide +kernel
theorem dX1_supply_31 : decode cX1_supply 31 = .ok (.iload_n 1, 1) := by decide +kernel
theorem dX1_supply_32 : decode cX1_supply 32 = .ok (.isub, 1) := by decide +kernel
theorem dX1_supply_33 : decode cX1_supply 33 = .ok (.iadd, 1) := by decide +kernel
theorem dX1_supply_34 : decode cX1_supply 34 = .ok (.putfield 33, 3) := by decide +kernel
theorem dX1_supply_37 : decode cX1_supply 37 = .ok (.return_, 1) := by decide +kernel
theorem dX1_answer_0 : decode cX1_answer 0 = .ok (.iload_n 1, 1) := by decide +kernel
theorem dX1_answer_1 : decode cX1_answer 1 = .ok (.tableswitch 59 0 3 #[31, 36, 41, 46], 31) := by decide +kernel
theorem dX1_answer_32 : decode cX1_answer 32 = .ok (.aload_n 0, 1) := by decide +kernel
theorem dX1_answer_33 : decode cX1_answer 33 = .ok (.getfield 27, 3) := by decide +kernel
theorem dX1_answer_36 : decode cX1_answer 36 = .ok (.ireturn, 1) := by decide +kernel
theorem dX1_answer_37 : decode cX1_answer 37 = .ok (.aload_n 0, 1) := by decide +kernel
theorem dX1_answer_38 : decode cX1_answer 38 = .ok (.getfield 30, 3) := by decide +kernel
theorem dX1_answer_41 : decode cX1_answer 41 = .ok (.ireturn, 1) := by decide +kernel
theorem dX1_answer_42 : decode cX1_answer 42 = .ok (.aload_n 0, 1) := by decide +kernel
theorem dX1_answer_43 : decode cX1_answer 43 = .ok (.getfield 33, 3) := by decide +kernel
theorem dX1_answer_46 : decode cX1_answer 46 = .ok (.ireturn, 1) := by decide +kernel
theorem dX1_answer_47 : decode cX1_answer 47 = .ok (.aload_n 0, 1) := by decide +kernel
theorem dX1_answer_48 : decode cX1_answer 48 = .ok (.getfield 39, 3) := by decide +kernel
theorem dX1_answer_51 : decode cX1_answer 51 = .ok (.ifCond .eq 7, 3) := by decide +kernel
theorem dX1_answer_54 : decode cX1_answer 54 = .ok (.iconst 1, 1) := by decide +kernel
theorem dX1_answer_55 : decode cX1_answer 55 = .ok (.goto 4, 3) := by decide +kernel
theorem dX1_answer_58 : decode cX1_answer 58 = .ok (.iconst 0, 1) := by decide +kernel
theorem dX1_answer_59 : decode cX1_answer 59 = .ok (.ireturn, 1) := by decide +kernel
theorem dX1_answer_60 : decode cX1_answer 60 = .ok (.aload_n 0, 1) := by decide +kernel
theorem dX1_answer_61 : decode cX1_answer 61 = .ok (.getfield 36, 3) := by decide +kernel
theorem dX1_answer_64 : decode cX1_answer 64 = .ok (.ireturn, 1) := by decide +kernel
theorem dX2_init_0 : decode cX2_init 0 = .ok (.aload_n 0, 1) := by decide +kernel
theorem dX2_init_1 : decode cX2_init 1 = .ok (.invokespecial 1, 3) := by decide +kernel
theorem dX2_init_4 : decode cX2_init 4 = .ok (.return_, 1) := by decide +kernel
theorem dX2_begin_0 : decode cX2_begin 0 = .ok (.aload_n 0, 1) := by decide +kernel
theorem dX2_begin_1 : decode cX2_begin 1 = .ok (.iload_n 1, 1) := by decide +kernel
theorem dX2_begin_2 : decode cX2_begin 2 = .ok (.putfield 7, 3) := by decide +kernel
theorem dX2_begin_5 : decode cX2_begin 5 = .ok (.aload_n 0, 1) := by decide +kernel
theorem dX2_begin_6 : decode cX2_begin 6 = .ok (.iconst 0, 1) := by decide +kernel
theorem dX2_begin_7 : decode cX2_begin 7 = .ok (.putfield 13, 3) := by decide +kernel
theorem dX2_begin_10 : decode cX2_begin 10 = .ok (.return_, 1) := by decide +kernel
theorem dX2_salinity_0 : decode cX2_salinity 0 = .ok (.aload_n 0, 1) := by decide +kernel
theorem dX2_salinity_1 : decode cX2_salinity 1 = .ok (.getfield 7, 3) := by decide +kernel
theorem dX2_salinity_4 : decode cX2_salinity 4 = .ok (.ifCond .gt 7, 3) := by decide +kernel
theorem dX2_salinity_7 : decode cX2_salinity 7 = .ok (.iconst 0, 1) := by decide +kernel
theorem dX2_salinity_8 : decode cX2_salinity 8 = .ok (.goto 12, 3) := by decide +kernel
theorem dX2_salinity_11 : decode cX2_salinity 11 = .ok (.aload_n 0, 1) := by decide +kernel
theorem dX2_salinity_12 : decode cX2_salinity 12 = .ok (.getfield 13, 3) := by decide +kernel
theorem dX2_salinity_15 : decode cX2_salinity 15 = .ok (.aload_n 0, 1) := by decide +kernel
theorem dX2_salinity_16 : decode cX2_salinity 16 = .ok (.getfield 7, 3) := by decide +kernel
theorem dX2_salinity_19 : decode cX2_salinity 19 = .ok (.idiv, 1) := by decide +kernel
theorem dX2_salinity_20 : decode cX2_salinity 20 = .ok (.ireturn, 1) := by decide +kernel
theorem dX2_saltWith_0 : decode cX2_saltWith 0 = .ok (.iload_n 1, 1) := by decide +kernel
theorem dX2_saltWith_1 : decode cX2_saltWith 1 = .ok (.aload_n 0, 1) := by decide +kernel
theorem dX2_saltWith_2 : decode cX2_saltWith 2 = .ok (.getfield 13, 3) := by decide +kernel
theorem dX2_saltWith_5 : decode cX2_saltWith 5 = .ok (.aload_n 0, 1) := by decide +kernel
theorem dX2_saltWith_6 : decode cX2_saltWith 6 = .ok (.getfield 7, 3) := by decide +kernel
theorem dX2_saltWith_9 : decode cX2_saltWith 9 = .ok (.invokestatic 16, 3) := by decide +kernel
theorem dX2_saltWith_12 : decode cX2_saltWith 12 = .ok (.ireturn, 1) := by decide +kernel
theorem dX2_giveOut_0 : decode cX2_giveOut 0 = .ok (.iload_n 1, 1) := by decide +kernel
theorem dX2_giveOut_1 : decode cX2_giveOut 1 = .ok (.aload_n 0, 1) := by decide +kernel
theorem dX2_giveOut_2 : decode cX2_giveOut 2 = .ok (.getfield 13, 3) := by decide +kernel
theorem dX2_giveOut_5 : decode cX2_giveOut 5 = .ok (.aload_n 0, 1) := by decide +kernel
theorem dX2_giveOut_6 : decode cX2_giveOut 6 = .ok (.getfield 7, 3) := by decide +kernel
theorem dX2_giveOut_9 : decode cX2_giveOut 9 = .ok (.invokestatic 16, 3) := by decide +kernel
theorem dX2_giveOut_12 : decode cX2_giveOut 12 = .ok (.istore_n 2, 1) := by decide +kernel
theorem dX2_giveOut_13 : decode cX2_giveOut 13 = .ok (.aload_n 0, 1) := by decide +kernel
theorem dX2_giveOut_14 : decode cX2_giveOut 14 = .ok (.dup, 1) := by decide +kernel
theorem dX2_giveOut_15 : decode cX2_giveOut 15 = .ok (.getfield 7, 3) := by decide +kernel
theorem dX2_giveOut_18 : decode cX2_giveOut 18 = .ok (.iload_n 1, 1) := by decide +kernel
theorem dX2_giveOut_19 : decode cX2_giveOut 19 = .ok (.isub, 1) := by decide +kernel
theorem dX2_giveOut_20 : decode cX2_giveOut 20 = .ok (.putfield 7, 3) := by decide +kernel
theorem dX2_giveOut_23 : decode cX2_giveOut 23 = .ok (.aload_n 0, 1) := by decide +kernel
theorem dX2_giveOut_24 : decode cX2_giveOut 24 = .ok (.dup, 1) := by decide +kernel
theorem dX2_giveOut_25 : decode cX2_giveOut 25 = .ok (.getfield 13, 3) := by decide +kernel
theorem dX2_giveOut_28 : decode cX2_giveOut 28 = .ok (.iload_n 2, 1) := by decide +kernel
theorem dX2_giveOut_29 : decode cX2_giveOut 29 = .ok (.isub, 1) := by decide +kernel
theorem dX2_giveOut_30 : decode cX2_giveOut 30 = .ok (.putfield 13, 3) := by decide +kernel
theorem dX2_giveOut_33 : decode cX2_giveOut 33 = .ok (.iload_n 2, 1) := by decide +kernel
theorem dX2_giveOut_34 : decode cX2_giveOut 34 = .ok (.ireturn, 1) := by decide +kernel
theorem dX2_takeIn_0 : decode cX2_takeIn 0 = .ok (.aload_n 0, 1) := by decide +kernel
theorem dX2_takeIn_1 : decode cX2_takeIn 1 = .ok (.dup, 1) := by decide +kernel
theorem dX2_takeIn_2 : decode cX2_takeIn 2 = .ok (.getfield 7, 3) := by decide +kernel
theorem dX2_takeIn_5 : decode cX2_takeIn 5 = .ok (.iload_n 1, 1) := by decide +kernel
theorem dX2_takeIn_6 : decode cX2_takeIn 6 = .ok (.iadd, 1) := by decide +kernel
theorem dX2_takeIn_7 : decode cX2_takeIn 7 = .ok (.putfield 7, 3) := by decide +kernel
theorem dX2_takeIn_10 : decode cX2_takeIn 10 = .ok (.aload_n 0, 1) := by decide +kernel
theorem dX2_takeIn_11 : decode cX2_takeIn 11 = .ok (.dup, 1) := by decide +kernel
theorem dX2_takeIn_12 : decode cX2_takeIn 12 = .ok (.getfield 13, 3) := by decide +kernel
theorem dX2_takeIn_15 : decode cX2_takeIn 15 = .ok (.iload_n 2, 1) := by decide +kernel
theorem dX2_takeIn_16 : decode cX2_takeIn 16 = .ok (.iadd, 1) := by decide +kernel
theorem dX2_takeIn_17 : decode cX2_takeIn 17 = .ok (.putfield 13, 3) := by decide +kernel
theorem dX2_takeIn_20 : decode cX2_takeIn 20 = .ok (.return_, 1) := by decide +kernel
theorem dX3_init_0 : decode cX3_init 0 = .ok (.aload_n 0, 1) := by decide +kernel
theorem dX3_init_1 : decode cX3_init 1 = .ok (.invokespecial 3, 3) := by decide +kernel
theorem dX3_init_4 : decode cX3_init 4 = .ok (.aload_n 0, 1) := by decide +kernel
theorem dX3_init_5 : decode cX3_init 5 = .ok (.new 9, 3) := by decide +kernel
theorem dX3_init_8 : decode cX3_init 8 = .ok (.dup, 1) := by decide +kernel
theorem dX3_init_9 : decode cX3_init 9 = .ok (.invokespecial 11, 3) := by decide +kernel
theorem dX3_init_12 : decode cX3_init 12 = .ok (.putfield 12, 3) := by decide +kernel
theorem dX3_init_15 : decode cX3_init 15 = .ok (.aload_n 0, 1) := by decide +kernel
theorem dX3_init_16 : decode cX3_init 16 = .ok (.new 18, 3) := by decide +kernel
theorem dX3_init_19 : decode cX3_init 19 = .ok (.dup, 1) := by decide +kernel
theorem dX3_init_20 : decode cX3_init 20 = .ok (.invokespecial 20, 3) := by decide +kernel
theorem dX3_init_23 : decode cX3_init 23 = .ok (.putfield 21, 3) := by decide +kernel
theorem dX3_init_26 : decode cX3_init 26 = .ok (.aload_n 0, 1) := by decide +kernel
theorem dX3_init_27 : decode cX3_init 27 = .ok (.bipush 8, 2) := by decide +kernel
theorem dX3_init_29 : decode cX3_init 29 = .ok (.anewarray 25, 3) := by decide +kernel
theorem dX3_init_32 : decode cX3_init 32 = .ok (.putfield 27, 3) := by decide +kernel
theorem dX3_init_35 : decode cX3_init 35 = .ok (.aload_n 0, 1) := by decide +kernel
theorem dX3_init_36 : decode cX3_init 36 = .ok (.bipush 6, 2) := by decide +kernel
theorem dX3_init_38 : decode cX3_init 38 = .ok (.anewarray 31, 3) := by decide +kernel
theorem dX3_init_41 : decode cX3_init 41 = .ok (.putfield 33, 3) := by decide +kernel
theorem dX3_init_44 : decode cX3_init 44 = .ok (.aload_n 0, 1) := by decide +kernel
theorem dX3_init_45 : decode cX3_init 45 = .ok (.bipush 10, 2) := by decide +kernel
theorem dX3_init_47 : decode cX3_init 47 = .ok (.newarray .long, 2) := by decide +kernel
theorem dX3_init_49 : decode cX3_init 49 = .ok (.putfield 37, 3) := by decide +kernel
theorem dX3_init_52 : decode cX3_init 52 = .ok (.iconst 0, 1) := by decide +kernel
theorem dX3_init_53 : decode cX3_init 53 = .ok (.istore_n 1, 1) := by decide +kernel
theorem dX3_init_54 : decode cX3_init 54 = .ok (.iload_n 1, 1) := by decide +kernel
theorem dX3_init_55 : decode cX3_init 55 = .ok (.aload_n 0, 1) := by decide +kernel
theorem dX3_init_56 : decode cX3_init 56 = .ok (.getfield 27, 3) := by decide +kernel
theorem dX3_init_59 : decode cX3_init 59 = .ok (.arraylength, 1) := by decide +kernel
theorem dX3_init_60 : decode cX3_init 60 = .ok (.if_icmp .ge 22, 3) := by decide +kernel
theorem dX3_init_63 : decode cX3_init 63 = .ok (.aload_n 0, 1) := by decide +kernel
theorem dX3_init_64 : decode cX3_init 64 = .ok (.getfield 27, 3) := by decide +kernel
theorem dX3_init_67 : decode cX3_init 67 = .ok (.iload_n 1, 1) := by decide +kernel
theorem dX3_init_68 : decode cX3_init 68 = .ok (.new 25, 3) := by decide +kernel
theorem dX3_init_71 : decode cX3_init 71 = .ok (.dup, 1) := by decide +kernel
theorem dX3_init_72 : decode cX3_init 72 = .ok (.invokespecial 41, 3) := by decide +kernel
theorem dX3_init_75 : decode cX3_init 75 = .ok (.aastore, 1) := by decide +kernel
theorem dX3_init_76 : decode cX3_init 76 = .ok (.iinc 1 1, 3) := by decide +kernel
theorem dX3_init_79 : decode cX3_init 79 = .ok (.goto (-25), 3) := by decide +kernel
theorem dX3_init_82 : decode cX3_init 82 = .ok (.iconst 0, 1) := by decide +kernel
theorem dX3_init_83 : decode cX3_init 83 = .ok (.istore_n 1, 1) := by decide +kernel
theorem dX3_init_84 : decode cX3_init 84 = .ok (.iload_n 1, 1) := by decide +kernel
theorem dX3_init_85 : decode cX3_init 85 = .ok (.aload_n 0, 1) := by decide +kernel
theorem dX3_init_86 : decode cX3_init 86 = .ok (.getfield 33, 3) := by decide +kernel
theorem dX3_init_89 : decode cX3_init 89 = .ok (.arraylength, 1) := by decide +kernel
theorem dX3_init_90 : decode cX3_init 90 = .ok (.if_icmp .ge 22, 3) := by decide +kernel
theorem dX3_init_93 : decode cX3_init 93 = .ok (.aload_n 0, 1) := by decide +kernel
theorem dX3_init_94 : decode cX3_init 94 = .ok (.getfield 33, 3) := by decide +kernel
theorem dX3_init_97 : decode cX3_init 97 = .ok (.iload_n 1, 1) := by decide +kernel
theorem dX3_init_98 : decode cX3_init 98 = .ok (.new 31, 3) := by decide +kernel
theorem dX3_init_101 : decode cX3_init 101 = .ok (.dup, 1) := by decide +kernel
theorem dX3_init_102 : decode cX3_init 102 = .ok (.invokespecial 42, 3) := by decide +kernel
theorem dX3_init_105 : decode cX3_init 105 = .ok (.aastore, 1) := by decide +kernel
theorem dX3_init_106 : decode cX3_init 106 = .ok (.iinc 1 1, 3) := by decide +kernel
theorem dX3_init_109 : decode cX3_init 109 = .ok (.goto (-25), 3) := by decide +kernel
theorem dX3_init_112 : decode cX3_init 112 = .ok (.return_, 1) := by decide +kernel
theorem dX3_begin_0 : decode cX3_begin 0 = .ok (.aload_n 0, 1) := by decide +kernel
theorem dX3_begin_1 : decode cX3_begin 1 = .ok (.getfield 12, 3) := by decide +kernel
theorem dX3_begin_4 : decode cX3_begin 4 = .ok (.invokevirtual 43, 3) := by decide +kernel
theorem dX3_begin_7 : decode cX3_begin 7 = .ok (.aload_n 0, 1) := by decide +kernel
theorem dX3_begin_8 : decode cX3_begin 8 = .ok (.getfield 21, 3) := by decide +kernel
theorem dX3_begin_11 : decode cX3_begin 11 = .ok (.invokevirtual 46, 3) := by decide +kernel
theorem dX3_begin_14 : decode cX3_begin 14 = .ok (.iconst 0, 1) := by decide +kernel
theorem dX3_begin_15 : decode cX3_begin 15 = .ok (.istore_n 1, 1) := by decide +kernel
theorem dX3_begin_16 : decode cX3_begin 16 = .ok (.iload_n 1, 1) := by decide +kernel
theorem dX3_begin_17 : decode cX3_begin 17 = .ok (.aload_n 0, 1) := by decide +kernel
theorem dX3_begin_18 : decode cX3_begin 18 = .ok (.getfield 37, 3) := by decide +kernel
theorem dX3_begin_21 : decode cX3_begin 21 = .ok (.arraylength, 1) := by decide +kernel
theorem dX3_begin_22 : decode cX3_begin 22 = .ok (.if_icmp .ge 16, 3) := by decide +kernel
theorem dX3_begin_25 : decode cX3_begin 25 = .ok (.aload_n 0, 1) := by decide +kernel
theorem dX3_begin_26 : decode cX3_begin 26 = .ok (.getfield 37, 3) := by decide +kernel
theorem dX3_begin_29 : decode cX3_begin 29 = .ok (.iload_n 1, 1) := by decide +kernel
theorem dX3_begin_30 : decode cX3_begin 30 = .ok (.lconst 0, 1) := by decide +kernel
theorem dX3_begin_31 : decode cX3_begin 31 = .ok (.lastore, 1) := by decide +kernel
theorem dX3_begin_32 : decode cX3_begin 32 = .ok (.iinc 1 1, 3) := by decide +kernel
theorem dX3_begin_35 : decode cX3_begin 35 = .ok (.goto (-19), 3) := by decide +kernel
theorem dX3_begin_38 : decode cX3_begin 38 = .ok (.aload_n 0, 1) := by decide +kernel
theorem dX3_begin_39 : decode cX3_begin 39 = .ok (.iconst 0, 1) := by decide +kernel
theorem dX3_begin_40 : decode cX3_begin 40 = .ok (.putfield 47, 3) := by decide +kernel
theorem dX3_begin_43 : decode cX3_begin 43 = .ok (.aload_n 0, 1) := by decide +kernel
theorem dX3_begin_44 : decode cX3_begin 44 = .ok (.iconst 0, 1) := by decide +kernel
theorem dX3_begin_45 : decode cX3_begin 45 = .ok (.putfield 51, 3) := by decide +kernel
theorem dX3_begin_48 : decode cX3_begin 48 = .ok (.aload_n 0, 1) := by decide +kernel
theorem dX3_begin_49 : decode cX3_begin 49 = .ok (.iconst 0, 1) := by decide +kernel
theorem dX3_begin_50 : decode cX3_begin 50 = .ok (.putfield 54, 3) := by decide +kernel
theorem dX3_begin_53 : decode cX3_begin 53 = .ok (.aload_n 0, 1) := by decide +kernel
theorem dX3_begin_54 : decode cX3_begin 54 = .ok (.iconst 0, 1) := by decide +kernel
theorem dX3_begin_55 : decode cX3_begin 55 = .ok (.putfield 57, 3) := by decide +kernel
theorem dX3_begin_58 : decode cX3_begin 58 = .ok (.aload_n 0, 1) := by decide +kernel
theorem dX3_begin_59 : decode cX3_begin 59 = .ok (.iconst 0, 1) := by decide +kernel
theorem dX3_begin_60 : decode cX3_begin 60 = .ok (.putfield 60, 3) := by decide +kernel
theorem dX3_begin_63 : decode cX3_begin 63 = .ok (.return_, 1) := by decide +kernel
theorem dX3_hasSection_0 : decode cX3_hasSection 0 = .ok (.iload_n 1, 1) := by decide +kernel
theorem dX3_hasSection_1 : decode cX3_hasSection 1 = .ok (.ifCond .lt 15, 3) := by decide +kernel
theorem dX3_hasSection_4 : decode cX3_hasSection 4 = .ok (.iload_n 1, 1) := by decide +kernel
theorem dX3_hasSection_5 : decode cX3_hasSection 5 = .ok (.aload_n 0, 1) := by decide +kernel
theorem dX3_hasSection_6 : decode cX3_hasSection 6 = .ok (.getfield 47, 3) := by decide +kernel
theorem dX3_hasSection_9 : decode cX3_hasSection 9 = .ok (.if_icmp .ge 7, 3) := by decide +kernel
theorem dX3_hasSection_12 : decode cX3_hasSection 12 = .ok (.iconst 1, 1) := by decide +kernel
theorem dX3_hasSection_13 : decode cX3_hasSection 13 = .ok (.goto 4, 3) := by decide +kernel
theorem dX3_hasSection_16 : decode cX3_hasSection 16 = .ok (.iconst 0, 1) := by decide +kernel
theorem dX3_hasSection_17 : decode cX3_hasSection 17 = .ok (.ireturn, 1) := by decide +kernel
theorem dX3_hear_0 : decode cX3_hear 0 = .ok (.iload_n 1, 1) := by decide +kernel
theorem dX3_hear_1 : decode cX3_hear 1 = .ok (.tableswitch 172 0 8 #[51, 67, 78, 92, 105, 124, 137, 152, 161], 51) := by decide +kernel
theorem dX3_hear_52 : decode cX3_hear 52 = .ok (.aload_n 0, 1) := by decide +kernel
theorem dX3_hear_53 : decode cX3_hear 53 = .ok (.getfield 12, 3) := by decide +kernel
theorem dX3_hear_56 : decode cX3_hear 56 = .ok (.iload_n 2, 1) := by decide +kernel
theorem dX3_hear_57 : decode cX3_hear 57 = .ok (.iload_n 3, 1) := by decide +kernel
theorem dX3_hear_58 : decode cX3_hear 58 = .ok (.iload 4, 2) := by decide +kernel
theorem dX3_hear_60 : decode cX3_hear 60 = .ok (.iload 5, 2) := by decide +kernel
theorem dX3_hear_62 : decode cX3_hear 62 = .ok (.invokevirtual 63, 3) := by decide +kernel
theorem dX3_hear_65 : decode cX3_hear 65 = .ok (.goto 108, 3) := by decide +kernel
theorem dX3_hear_68 : decode cX3_hear 68 = .ok (.aload_n 0, 1) := by decide +kernel
theorem dX3_hear_69 : decode cX3_hear 69 = .ok (.getfield 12, 3) := by decide +kernel
theorem dX3_hear_72 : decode cX3_hear 72 = .ok (.iload_n 2, 1) := by decide +kernel
theorem dX3_hear_73 : decode cX3_hear 73 = .ok (.putfield 67, 3) := by decide +kernel
theorem dX3_hear_76 : decode cX3_hear 76 = .ok (.goto 97, 3) := by decide +kernel
theorem dX3_hear_79 : decode cX3_hear 79 = .ok (.aload_n 0, 1) := by decide +kernel
theorem dX3_hear_80 : decode cX3_hear 80 = .ok (.getfield 12, 3) := by decide +kernel
theorem dX3_hear_83 : decode cX3_hear 83 = .ok (.iload_n 2, 1) := by decide +kernel
theorem dX3_hear_84 : decode cX3_hear 84 = .ok (.iload_n 3, 1) := by decide +kernel
theorem dX3_hear_85 : decode cX3_hear 85 = .ok (.iload 4, 2) := by decide +kernel
theorem dX3_hear_87 : decode cX3_hear 87 = .ok (.invokevirtual 70, 3) := by decide +kernel
theorem dX3_hear_90 : decode cX3_hear 90 = .ok (.goto 83, 3) := by decide +kernel
theorem dX3_hear_93 : decode cX3_hear 93 = .ok (.aload_n 0, 1) := by decide +kernel
theorem dX3_hear_94 : decode cX3_hear 94 = .ok (.iload_n 2, 1) := by decide +kernel
theorem dX3_hear_95 : decode cX3_hear 95 = .ok (.putfield 54, 3) := by decide +kernel
theorem dX3_hear_98 : decode cX3_hear 98 = .ok (.aload_n 0, 1) := by decide +kernel
theorem dX3_hear_99 : decode cX3_hear 99 = .ok (.iload_n 3, 1) := by decide +kernel
theorem dX3_hear_100 : decode cX3_hear 100 = .ok (.putfield 57, 3) := by decide +kernel
theorem dX3_hear_103 : decode cX3_hear 103 = .ok (.goto 70, 3) := by decide +kernel
theorem dX3_hear_106 : decode cX3_hear 106 = .ok (.aload_n 0, 1) := by decide +kernel
theorem dX3_hear_107 : decode cX3_hear 107 = .ok (.getfield 21, 3) := by decide +kernel
theorem dX3_hear_110 : decode cX3_hear 110 = .ok (.iload_n 2, 1) := by decide +kernel
theorem dX3_hear_111 : decode cX3_hear 111 = .ok (.putfield 74, 3) := by decide +kernel
theorem dX3_hear_114 : decode cX3_hear 114 = .ok (.aload_n 0, 1) := by decide +kernel
theorem dX3_hear_115 : decode cX3_hear 115 = .ok (.getfield 21, 3) := by decide +kernel
theorem dX3_hear_118 : decode cX3_hear 118 = .ok (.iload_n 3, 1) := by decide +kernel
theorem dX3_hear_119 : decode cX3_hear 119 = .ok (.putfield 77, 3) := by decide +kernel
theorem dX3_hear_122 : decode cX3_hear 122 = .ok (.goto 51, 3) := by decide +kernel
theorem dX3_hear_125 : decode cX3_hear 125 = .ok (.aload_n 0, 1) := by decide +kernel
theorem dX3_hear_126 : decode cX3_hear 126 = .ok (.iload_n 2, 1) := by decide +kernel
theorem dX3_hear_127 : decode cX3_hear 127 = .ok (.iload_n 3, 1) := by decide +kernel
theorem dX3_hear_128 : decode cX3_hear 128 = .ok (.iload 4, 2) := by decide +kernel
theorem dX3_hear_130 : decode cX3_hear 130 = .ok (.iload 5, 2) := by decide +kernel
theorem dX3_hear_132 : decode cX3_hear 132 = .ok (.invokevirtual 80, 3) := by decide +kernel
theorem dX3_hear_135 : decode cX3_hear 135 = .ok (.goto 38, 3) := by decide +kernel
theorem dX3_hear_138 : decode cX3_hear 138 = .ok (.aload_n 0, 1) := by decide +kernel
theorem dX3_hear_139 : decode cX3_hear 139 = .ok (.iload_n 2, 1) := by decide +kernel
theorem dX3_hear_140 : decode cX3_hear 140 = .ok (.iload_n 3, 1) := by decide +kernel
theorem dX3_hear_141 : decode cX3_hear 141 = .ok (.iload 4, 2) := by decide +kernel
theorem dX3_hear_143 : decode cX3_hear 143 = .ok (.iload 5, 2) := by decide +kernel
theorem dX3_hear_145 : decode cX3_hear 145 = .ok (.iload 6, 2) := by decide +kernel
theorem dX3_hear_147 : decode cX3_hear 147 = .ok (.invokevirtual 83, 3) := by decide +kernel
theorem dX3_hear_150 : decode cX3_hear 150 = .ok (.goto 23, 3) := by decide +kernel
theorem dX3_hear_153 : decode cX3_hear 153 = .ok (.aload_n 0, 1) := by decide +kernel
theorem dX3_hear_154 : decode cX3_hear 154 = .ok (.iload_n 2, 1) := by decide +kernel
theorem dX3_hear_155 : decode cX3_hear 155 = .ok (.iload_n 3, 1) := by decide +kernel
theorem dX3_hear_156 : decode cX3_hear 156 = .ok (.invokevirtual 87, 3) := by decide +kernel
theorem dX3_hear_159 : decode cX3_hear 159 = .ok (.goto 14, 3) := by decide +kernel
theorem dX3_hear_162 : decode cX3_hear 162 = .ok (.aload_n 0, 1) := by decide +kernel
theorem dX3_hear_163 : decode cX3_hear 163 = .ok (.iload_n 2, 1) := by decide +kernel
theorem dX3_hear_164 : decode cX3_hear 164 = .ok (.iload_n 3, 1) := by decide +kernel
theorem dX3_hear_165 : decode cX3_hear 165 = .ok (.iload 4, 2) := by decide +kernel
theorem dX3_hear_167 : decode cX3_hear 167 = .ok (.invokevirtual 91, 3) := by decide +kernel
theorem dX3_hear_170 : decode cX3_hear 170 = .ok (.goto 3, 3) := by decide +kernel
theorem dX3_hear_173 : decode cX3_hear 173 = .ok (.return_, 1) := by decide +kernel
theorem dX3_addSection_0 : decode cX3_addSection 0 = .ok (.aload_n 0, 1) := by decide +kernel
theorem dX3_addSection_1 : decode cX3_addSection 1 = .ok (.getfield 47, 3) := by decide +kernel
theorem dX3_addSection_4 : decode cX3_addSection 4 = .ok (.aload_n 0, 1) := by decide +kernel
theorem dX3_addSection_5 : decode cX3_addSection 5 = .ok (.getfield 27, 3) := by decide +kernel
theorem dX3_addSection_8 : decode cX3_addSection 8 = .ok (.arraylength, 1) := by decide +kernel
theorem dX3_addSection_9 : decode cX3_addSection 9 = .ok (.if_icmp .ge 30, 3) := by decide +kernel
theorem dX3_addSection_12 : decode cX3_addSection 12 = .ok (.aload_n 0, 1) := by decide +kernel
theorem dX3_addSection_13 : decode cX3_addSection 13 = .ok (.getfield 27, 3) := by decide +kernel
theorem dX3_addSection_16 : decode cX3_addSection 16 = .ok (.aload_n 0, 1) := by decide +kernel
theorem dX3_addSection_17 : decode cX3_addSection 17 = .ok (.getfield 47, 3) := by decide +kernel
theorem dX3_addSection_20 : decode cX3_addSection 20 = .ok (.aaload, 1) := by decide +kernel
theorem dX3_addSection_21 : decode cX3_addSection 21 = .ok (.iload_n 1, 1) := by decide +kernel
theorem dX3_addSection_22 : decode cX3_addSection 22 = .ok (.iload_n 2, 1) := by decide +kernel
theorem dX3_addSection_23 : decode cX3_addSection 23 = .ok (.iload_n 3, 1) := by decide +kernel
theorem dX3_addSection_24 : decode cX3_addSection 24 = .ok (.iload 4, 2) := by decide +kernel
theorem dX3_addSection_26 : decode cX3_addSection 26 = .ok (.invokevirtual 94, 3) := by decide +kernel
theorem dX3_addSection_29 : decode cX3_addSection 29 = .ok (.aload_n 0, 1) := by decide +kernel
theorem dX3_addSection_30 : decode cX3_addSection 30 = .ok (.dup, 1) := by decide +kernel
theorem dX3_addSection_31 : decode cX3_addSection 31 = .ok (.getfield 47, 3) := by decide +kernel
theorem dX3_addSection_34 : decode cX3_addSection 34 = .ok (.iconst 1, 1) := by decide +kernel
theorem dX3_addSection_35 : decode cX3_addSection 35 = .ok (.iadd, 1) := by decide +kernel
theorem dX3_addSection_36 : decode cX3_addSection 36 = .ok (.putfield 47, 3) := by decide +kernel
theorem dX3_addSection_39 : decode cX3_addSection 39 = .ok (.return_, 1) := by decide +kernel
theorem dX3_addIntake_0 : decode cX3_addIntake 0 = .ok (.aload_n 0, 1) := by decide +kernel
theorem dX3_addIntake_1 : decode cX3_addIntake 1 = .ok (.getfield 51, 3) := by decide +kernel
theorem dX3_addIntake_4 : decode cX3_addIntake 4 = .ok (.aload_n 0, 1) := by decide +kernel
theorem dX3_addIntake_5 : decode cX3_addIntake 5 = .ok (.getfield 33, 3) := by decide +kernel
theorem dX3_addIntake_8 : decode cX3_addIntake 8 = .ok (.arraylength, 1) := by decide +kernel
theorem dX3_addIntake_9 : decode cX3_addIntake 9 = .ok (.if_icmp .ge 32, 3) := by decide +kernel
theorem dX3_addIntake_12 : decode cX3_addIntake 12 = .ok (.aload_n 0, 1) := by decide +kernel
theorem dX3_addIntake_13 : decode cX3_addIntake 13 = .ok (.getfield 33, 3) := by decide +kernel
theorem dX3_addIntake_16 : decode cX3_addIntake 16 = .ok (.aload_n 0, 1) := by decide +kernel
theorem dX3_addIntake_17 : decode cX3_addIntake 17 = .ok (.getfield 51, 3) := by decide +kernel
theorem dX3_addIntake_20 : decode cX3_addIntake 20 = .ok (.aaload, 1) := by decide +kernel
theorem dX3_addIntake_21 : decode cX3_addIntake 21 = .ok (.iload_n 1, 1) := by decide +kernel
theorem dX3_addIntake_22 : decode cX3_addIntake 22 = .ok (.iload_n 2, 1) := by decide +kernel
theorem dX3_addIntake_23 : decode cX3_addIntake 23 = .ok (.iload_n 3, 1) := by decide +kernel
theorem dX3_addIntake_24 : decode cX3_addIntake 24 = .ok (.iload 4, 2) := by decide +kernel
theorem dX3_addIntake_26 : decode cX3_addIntake 26 = .ok (.iload 5, 2) := by decide +kernel
theorem dX3_addIntake_28 : decode cX3_addIntake 28 = .ok (.invokevirtual 96, 3) := by decide +kernel
theorem dX3_addIntake_31 : decode cX3_addIntake 31 = .ok (.aload_n 0, 1) := by decide +kernel
theorem dX3_addIntake_32 : decode cX3_addIntake 32 = .ok (.dup, 1) := by decide +kernel
theorem dX3_addIntake_33 : decode cX3_addIntake 33 = .ok (.getfield 51, 3) := by decide +kernel
theorem dX3_addIntake_36 : decode cX3_addIntake 36 = .ok (.iconst 1, 1) := by decide +kernel
theorem dX3_addIntake_37 : decode cX3_addIntake 37 = .ok (.iadd, 1) := by decide +kernel
theorem dX3_addIntake_38 : decode cX3_addIntake 38 = .ok (.putfield 51, 3) := by decide +kernel
theorem dX3_addIntake_41 : decode cX3_addIntake 41 = .ok (.return_, 1) := by decide +kernel
theorem dX3_setPermit_0 : decode cX3_setPermit 0 = .ok (.aload_n 0, 1) := by decide +kernel
theorem dX3_setPermit_1 : decode cX3_setPermit 1 = .ok (.iload_n 1, 1) := by decide +kernel
theorem dX3_setPermit_2 : decode cX3_setPermit 2 = .ok (.invokevirtual 98, 3) := by decide +kernel
theorem dX3_setPermit_5 : decode cX3_setPermit 5 = .ok (.ifCond .eq 13, 3) := by decide +kernel
theorem dX3_setPermit_8 : decode cX3_setPermit 8 = .ok (.aload_n 0, 1) := by decide +kernel
theorem dX3_setPermit_9 : decode cX3_setPermit 9 = .ok (.getfield 27, 3) := by decide +kernel
theorem dX3_setPermit_12 : decode cX3_setPermit 12 = .ok (.iload_n 1, 1) := by decide +kernel
theorem dX3_setPermit_13 : decode cX3_setPermit 13 = .ok (.aaload, 1) := by decide +kernel
theorem dX3_setPermit_14 : decode cX3_setPermit 14 = .ok (.iload_n 2, 1) := by decide +kernel
theorem dX3_setPermit_15 : decode cX3_setPermit 15 = .ok (.putfield 102, 3) := by decide +kernel
theorem dX3_setPermit_18 : decode cX3_setPermit 18 = .ok (.return_, 1) := by decide +kernel
theorem dX3_moveMud_0 : decode cX3_moveMud 0 = .ok (.aload_n 0, 1) := by decide +kernel
theorem dX3_moveMud_1 : decode cX3_moveMud 1 = .ok (.iload_n 1, 1) := by decide +kernel
theorem dX3_moveMud_2 : decode cX3_moveMud 2 = .ok (.invokevirtual 98, 3) := by decide +kernel
theorem dX3_moveMud_5 : decode cX3_moveMud 5 = .ok (.ifCond .ne 4, 3) := by decide +kernel
theorem dX3_moveMud_8 : decode cX3_moveMud 8 = .ok (.return_, 1) := by decide +kernel
theorem dX3_moveMud_9 : decode cX3_moveMud 9 = .ok (.aload_n 0, 1) := by decide +kernel
theorem dX3_moveMud_10 : decode cX3_moveMud 10 = .ok (.getfield 27, 3) := by decide +kernel
theorem dX3_moveMud_13 : decode cX3_moveMud 13 = .ok (.iload_n 1, 1) := by decide +kernel
theorem dX3_moveMud_14 : decode cX3_moveMud 14 = .ok (.aaload, 1) := by decide +kernel
theorem dX3_moveMud_15 : decode cX3_moveMud 15 = .ok (.dup, 1) := by decide +kernel
theorem dX3_moveMud_16 : decode cX3_moveMud 16 = .ok (.getfield 102, 3) := by decide +kernel
theorem dX3_moveMud_19 : decode cX3_moveMud 19 = .ok (.iload_n 2, 1) := by decide +kernel
theorem dX3_moveMud_20 : decode cX3_moveMud 20 = .ok (.isub, 1) := by decide +kernel
theorem dX3_moveMud_21 : decode cX3_moveMud 21 = .ok (.putfield 102, 3) := by decide +kernel
theorem dX3_moveMud_24 : decode cX3_moveMud 24 = .ok (.aload_n 0, 1) := by decide +kernel
theorem dX3_moveMud_25 : decode cX3_moveMud 25 = .ok (.getfield 27, 3) := by decide +kernel
theorem dX3_moveMud_28 : decode cX3_moveMud 28 = .ok (.iload_n 1, 1) := by decide +kernel
theorem dX3_moveMud_29 : decode cX3_moveMud 29 = .ok (.aaload, 1) := by decide +kernel
theorem dX3_moveMud_30 : decode cX3_moveMud 30 = .ok (.dup, 1) := by decide +kernel
theorem dX3_moveMud_31 : decode cX3_moveMud 31 = .ok (.getfield 105, 3) := by decide +kernel
theorem dX3_moveMud_34 : decode cX3_moveMud 34 = .ok (.iload_n 2, 1) := by decide +kernel
theorem dX3_moveMud_35 : decode cX3_moveMud 35 = .ok (.isub, 1) := by decide +kernel
theorem dX3_moveMud_36 : decode cX3_moveMud 36 = .ok (.putfield 105, 3) := by decide +kernel
theorem dX3_moveMud_39 : decode cX3_moveMud 39 = .ok (.aload_n 0, 1) := by decide +kernel
theorem dX3_moveMud_40 : decode cX3_moveMud 40 = .ok (.iload_n 3, 1) := by decide +kernel
theorem dX3_moveMud_41 : decode cX3_moveMud 41 = .ok (.invokevirtual 98, 3) := by decide +kernel
theorem dX3_moveMud_44 : decode cX3_moveMud 44 = .ok (.ifCond .eq 21, 3) := by decide +kernel
theorem dX3_moveMud_47 : decode cX3_moveMud 47 = .ok (.aload_n 0, 1) := by decide +kernel
theorem dX3_moveMud_48 : decode cX3_moveMud 48 = .ok (.getfield 27, 3) := by decide +kernel
theorem dX3_moveMud_51 : decode cX3_moveMud 51 = .ok (.iload_n 3, 1) := by decide +kernel
theorem dX3_moveMud_52 : decode cX3_moveMud 52 = .ok (.aaload, 1) := by decide +kernel
theorem dX3_moveMud_53 : decode cX3_moveMud 53 = .ok (.dup, 1) := by decide +kernel
theorem dX3_moveMud_54 : decode cX3_moveMud 54 = .ok (.getfield 108, 3) := by decide +kernel
theorem dX3_moveMud_57 : decode cX3_moveMud 57 = .ok (.iload_n 2, 1) := by decide +kernel
theorem dX3_moveMud_58 : decode cX3_moveMud 58 = .ok (.iadd, 1) := by decide +kernel
theorem dX3_moveMud_59 : decode cX3_moveMud 59 = .ok (.putfield 108, 3) := by decide +kernel
theorem dX3_moveMud_62 : decode cX3_moveMud 62 = .ok (.goto 15, 3) := by decide +kernel
theorem dX3_moveMud_65 : decode cX3_moveMud 65 = .ok (.aload_n 0, 1) := by decide +kernel
theorem dX3_moveMud_66 : decode cX3_moveMud 66 = .ok (.getfield 37, 3) := by decide +kernel
theorem dX3_moveMud_69 : decode cX3_moveMud 69 = .ok (.bipush 9, 2) := by decide +kernel
theorem dX3_moveMud_71 : decode cX3_moveMud 71 = .ok (.dup2, 1) := by decide +kernel
theorem dX3_moveMud_72 : decode cX3_moveMud 72 = .ok (.laload, 1) := by decide +kernel
theorem dX3_moveMud_73 : decode cX3_moveMud 73 = .ok (.iload_n 2, 1) := by decide +kernel
theorem dX3_moveMud_74 : decode cX3_moveMud 74 = .ok (.i2l, 1) := by decide +kernel
theorem dX3_moveMud_75 : decode cX3_moveMud 75 = .ok (.ladd, 1) := by decide +kernel
theorem dX3_moveMud_76 : decode cX3_moveMud 76 = .ok (.lastore, 1) := by decide +kernel
theorem dX3_moveMud_77 : decode cX3_moveMud 77 = .ok (.return_, 1) := by decide +kernel
theorem dX3_seaOf_0 : decode cX3_seaOf 0 = .ok (.iload_n 1, 1) := by decide +kernel
theorem dX3_seaOf_1 : decode cX3_seaOf 1 = .ok (.ifCond .lt 28, 3) := by decide +kernel
theorem dX3_seaOf_4 : decode cX3_seaOf 4 = .ok (.iload_n 1, 1) := by decide +kernel
theorem dX3_seaOf_5 : decode cX3_seaOf 5 = .ok (.aload_n 0, 1) := by decide +kernel
theorem dX3_seaOf_6 : decode cX3_seaOf 6 = .ok (.getfield 60, 3) := by decide +kernel
theorem dX3_seaOf_9 : decode cX3_seaOf 9 = .ok (.if_icmp .ge 20, 3) := by decide +kernel
theorem dX3_seaOf_12 : decode cX3_seaOf 12 = .ok (.iload_n 1, 1) := by decide +kernel
theorem dX3_seaOf_13 : decode cX3_seaOf 13 = .ok (.sipush 1000, 3) := by decide +kernel
theorem dX3_seaOf_16 : decode cX3_seaOf 16 = .ok (.if_icmp .ge 13, 3) := by decide +kernel
theorem dX3_seaOf_19 : decode cX3_seaOf 19 = .ok (.aload_n 0, 1) := by decide +kernel
theorem dX3_seaOf_20 : decode cX3_seaOf 20 = .ok (.getfield 12, 3) := by decide +kernel
theorem dX3_seaOf_23 : decode cX3_seaOf 23 = .ok (.getfield 111, 3) := by decide +kernel
theorem dX3_seaOf_26 : decode cX3_seaOf 26 = .ok (.iload_n 1, 1) := by decide +kernel
theorem dX3_seaOf_27 : decode cX3_seaOf 27 = .ok (.iaload, 1) := by decide +kernel
theorem dX3_seaOf_28 : decode cX3_seaOf 28 = .ok (.ireturn, 1) := by decide +kernel
theorem dX3_seaOf_29 : decode cX3_seaOf 29 = .ok (.aload_n 0, 1) := by decide +kernel
theorem dX3_seaOf_30 : decode cX3_seaOf 30 = .ok (.getfield 12, 3) := by decide +kernel
theorem dX3_seaOf_33 : decode cX3_seaOf 33 = .ok (.iload_n 1, 1) := by decide +kernel
theorem dX3_seaOf_34 : decode cX3_seaOf 34 = .ok (.invokevirtual 115, 3) := by decide +kernel
theorem dX3_seaOf_37 : decode cX3_seaOf 37 = .ok (.ireturn, 1) := by decide +kernel
theorem dX3_firstHourAt_0 : decode cX3_firstHourAt 0 = .ok (.iconst 0, 1) := by decide +kernel
theorem dX3_firstHourAt_1 : decode cX3_firstHourAt 1 = .ok (.istore_n 3, 1) := by decide +kernel
theorem dX3_firstHourAt_2 : decode cX3_firstHourAt 2 = .ok (.aload_n 0, 1) := by decide +kernel
theorem dX3_firstHourAt_3 : decode cX3_firstHourAt 3 = .ok (.getfield 60, 3) := by decide +kernel
theorem dX3_firstHourAt_6 : decode cX3_firstHourAt 6 = .ok (.istore 4, 2) := by decide +kernel
theorem dX3_firstHourAt_8 : decode cX3_firstHourAt 8 = .ok (.iload 4, 2) := by decide +kernel
theorem dX3_firstHourAt_10 : decode cX3_firstHourAt 10 = .ok (.aload_n 0, 1) := by decide +kernel
theorem dX3_firstHourAt_11 : decode cX3_firstHourAt 11 = .ok (.getfield 60, 3) := by decide +kernel
theorem dX3_firstHourAt_14 : decode cX3_firstHourAt 14 = .ok (.bipush 100, 2) := by decide +kernel
theorem dX3_firstHourAt_16 : decode cX3_firstHourAt 16 = .ok (.iadd, 1) := by decide +kernel
theorem dX3_firstHourAt_17 : decode cX3_firstHourAt 17 = .ok (.iload_n 2, 1) := by decide +kernel
theorem dX3_firstHourAt_18 : decode cX3_firstHourAt 18 = .ok (.iadd, 1) := by decide +kernel
theorem dX3_firstHourAt_19 : decode cX3_firstHourAt 19 = .ok (.if_icmp .ge 42, 3) := by decide +kernel
theorem dX3_firstHourAt_22 : decode cX3_firstHourAt 22 = .ok (.aload_n 0, 1) := by decide +kernel
theorem dX3_firstHourAt_23 : decode cX3_firstHourAt 23 = .ok (.getfield 12, 3) := by decide +kernel
theorem dX3_firstHourAt_26 : decode cX3_firstHourAt 26 = .ok (.iload 4, 2) := by decide +kernel
theorem dX3_firstHourAt_28 : decode cX3_firstHourAt 28 = .ok (.invokevirtual 115, 3) := by decide +kernel
theorem dX3_firstHourAt_31 : decode cX3_firstHourAt 31 = .ok (.iload_n 1, 1) := by decide +kernel
theorem dX3_firstHourAt_32 : decode cX3_firstHourAt 32 = .ok (.if_icmp .lt 9, 3) := by decide +kernel
theorem dX3_firstHourAt_35 : decode cX3_firstHourAt 35 = .ok (.iload_n 3, 1) := by decide +kernel
theorem dX3_firstHourAt_36 : decode cX3_firstHourAt 36 = .ok (.iconst 1, 1) := by decide +kernel
theorem dX3_firstHourAt_37 : decode cX3_firstHourAt 37 = .ok (.iadd, 1) := by decide +kernel
theorem dX3_firstHourAt_38 : decode cX3_firstHourAt 38 = .ok (.goto 4, 3) := by decide +kernel
theorem dX3_firstHourAt_41 : decode cX3_firstHourAt 41 = .ok (.iconst 0, 1) := by decide +kernel
theorem dX3_firstHourAt_42 : decode cX3_firstHourAt 42 = .ok (.istore_n 3, 1) := by decide +kernel
theorem dX3_firstHourAt_43 : decode cX3_firstHourAt 43 = .ok (.iload_n 3, 1) := by decide +kernel
theorem dX3_firstHourAt_44 : decode cX3_firstHourAt 44 = .ok (.iload_n 2, 1) := by decide +kernel
theorem dX3_firstHourAt_45 : decode cX3_firstHourAt 45 = .ok (.if_icmp .ne 10, 3) := by decide +kernel
theorem dX3_firstHourAt_48 : decode cX3_firstHourAt 48 = .ok (.iload 4, 2) := by decide +kernel
theorem dX3_firstHourAt_50 : decode cX3_firstHourAt 50 = .ok (.iload_n 2, 1) := by decide +kernel
theorem dX3_firstHourAt_51 : decode cX3_firstHourAt 51 = .ok (.isub, 1) := by decide +kernel
theorem dX3_firstHourAt_52 : decode cX3_firstHourAt 52 = .ok (.iconst 1, 1) := by decide +kernel
theorem dX3_firstHourAt_53 : decode cX3_firstHourAt 53 = .ok (.iadd, 1) := by decide +kernel
theorem dX3_firstHourAt_54 : decode cX3_firstHourAt 54 = .ok (.ireturn, 1) := by decide +kernel
theorem dX3_firstHourAt_55 : decode cX3_firstHourAt 55 = .ok (.iinc 4 1, 3) := by decide +kernel
theorem dX3_firstHourAt_58 : decode cX3_firstHourAt 58 = .ok (.goto (-50), 3) := by decide +kernel
theorem dX3_firstHourAt_61 : decode cX3_firstHourAt 61 = .ok (.iconst (-1), 1) := by decide +kernel
theorem dX3_firstHourAt_62 : decode cX3_firstHourAt 62 = .ok (.ireturn, 1) := by decide +kernel
theorem dX3_goOnTo_0 : decode cX3_goOnTo 0 = .ok (.iload_n 1, 1) := by decide +kernel
theorem dX3_goOnTo_1 : decode cX3_goOnTo 1 = .ok (.sipush 1000, 3) := by decide +kernel
theorem dX3_goOnTo_4 : decode cX3_goOnTo 4 = .ok (.invokestatic 119, 3) := by decide +kernel
theorem dX3_goOnTo_7 : decode cX3_goOnTo 7 = .ok (.istore_n 2, 1) := by decide +kernel
theorem dX3_goOnTo_8 : decode cX3_goOnTo 8 = .ok (.aload_n 0, 1) := by decide +kernel
theorem dX3_goOnTo_9 : decode cX3_goOnTo 9 = .ok (.getfield 60, 3) := by decide +kernel
theorem dX3_goOnTo_12 : decode cX3_goOnTo 12 = .ok (.istore_n 3, 1) := by decide +kernel
theorem dX3_goOnTo_13 : decode cX3_goOnTo 13 = .ok (.iload_n 3, 1) := by decide +kernel
theorem dX3_goOnTo_14 : decode cX3_goOnTo 14 = .ok (.iload_n 2, 1) := by decide +kernel
theorem dX3_goOnTo_15 : decode cX3_goOnTo 15 = .ok (.if_icmp .ge 20, 3) := by decide +kernel
theorem dX3_goOnTo_18 : decode cX3_goOnTo 18 = .ok (.aload_n 0, 1) := by decide +kernel
theorem dX3_goOnTo_19 : decode cX3_goOnTo 19 = .ok (.invokevirtual 125, 3) := by decide +kernel
theorem dX3_goOnTo_22 : decode cX3_goOnTo 22 = .ok (.aload_n 0, 1) := by decide +kernel
theorem dX3_goOnTo_23 : decode cX3_goOnTo 23 = .ok (.iload_n 3, 1) := by decide +kernel
theorem dX3_goOnTo_24 : decode cX3_goOnTo 24 = .ok (.iconst 1, 1) := by decide +kernel
theorem dX3_goOnTo_25 : decode cX3_goOnTo 25 = .ok (.iadd, 1) := by decide +kernel
theorem dX3_goOnTo_26 : decode cX3_goOnTo 26 = .ok (.putfield 60, 3) := by decide +kernel
theorem dX3_goOnTo_29 : decode cX3_goOnTo 29 = .ok (.iinc 3 1, 3) := by decide +kernel
theorem dX3_goOnTo_32 : decode cX3_goOnTo 32 = .ok (.goto (-19), 3) := by decide +kernel
theorem dX3_goOnTo_35 : decode cX3_goOnTo 35 = .ok (.return_, 1) := by decide +kernel
theorem dX3_letHourGoBy_0 : decode cX3_letHourGoBy 0 = .ok (.aload_n 0, 1) := by decide +kernel
theorem dX3_letHourGoBy_1 : decode cX3_letHourGoBy 1 = .ok (.getfield 12, 3) := by decide +kernel
theorem dX3_letHourGoBy_4 : decode cX3_letHourGoBy 4 = .ok (.aload_n 0, 1) := by decide +kernel
theorem dX3_letHourGoBy_5 : decode cX3_letHourGoBy 5 = .ok (.getfield 60, 3) := by decide +kernel
theorem dX3_letHourGoBy_8 : decode cX3_letHourGoBy 8 = .ok (.invokevirtual 115, 3) := by decide +kernel
theorem dX3_letHourGoBy_11 : decode cX3_letHourGoBy 11 = .ok (.istore_n 1, 1) := by decide +kernel
theorem dX3_letHourGoBy_12 : decode cX3_letHourGoBy 12 = .ok (.iconst 0, 1) := by decide +kernel
theorem dX3_letHourGoBy_13 : decode cX3_letHourGoBy 13 = .ok (.istore_n 2, 1) := by decide +kernel
theorem dX3_letHourGoBy_14 : decode cX3_letHourGoBy 14 = .ok (.iload_n 2, 1) := by decide +kernel
theorem dX3_letHourGoBy_15 : decode cX3_letHourGoBy 15 = .ok (.aload_n 0, 1) := by decide +kernel
theorem dX3_letHourGoBy_16 : decode cX3_letHourGoBy 16 = .ok (.getfield 47, 3) := by decide +kernel
theorem dX3_letHourGoBy_19 : decode cX3_letHourGoBy 19 = .ok (.if_icmp .ge 19, 3) := by decide +kernel
theorem dX3_letHourGoBy_22 : decode cX3_letHourGoBy 22 = .ok (.aload_n 0, 1) := by decide +kernel
theorem dX3_letHourGoBy_23 : decode cX3_letHourGoBy 23 = .ok (.getfield 27, 3) := by decide +kernel
theorem dX3_letHourGoBy_26 : decode cX3_letHourGoBy 26 = .ok (.iload_n 2, 1) := by decide +kernel
theorem dX3_letHourGoBy_27 : decode cX3_letHourGoBy 27 = .ok (.aaload, 1) := by decide +kernel
theorem dX3_letHourGoBy_28 : decode cX3_letHourGoBy 28 = .ok (.iconst 0, 1) := by decide +kernel
theorem dX3_letHourGoBy_29 : decode cX3_letHourGoBy 29 = .ok (.putfield 128, 3) := by decide +kernel
theorem dX3_letHourGoBy_32 : decode cX3_letHourGoBy 32 = .ok (.iinc 2 1, 3) := by decide +kernel
theorem dX3_letHourGoBy_35 : decode cX3_letHourGoBy 35 = .ok (.goto (-21), 3) := by decide +kernel
theorem dX3_letHourGoBy_38 : decode cX3_letHourGoBy 38 = .ok (.aload_n 0, 1) := by decide +kernel
theorem dX3_letHourGoBy_39 : decode cX3_letHourGoBy 39 = .ok (.getfield 21, 3) := by decide +kernel
theorem dX3_letHourGoBy_42 : decode cX3_letHourGoBy 42 = .ok (.aload_n 0, 1) := by decide +kernel
theorem dX3_letHourGoBy_43 : decode cX3_letHourGoBy 43 = .ok (.getfield 12, 3) := by decide +kernel
theorem dX3_letHourGoBy_46 : decode cX3_letHourGoBy 46 = .ok (.aload_n 0, 1) := by decide +kernel
theorem dX3_letHourGoBy_47 : decode cX3_letHourGoBy 47 = .ok (.getfield 60, 3) := by decide +kernel
theorem dX3_letHourGoBy_50 : decode cX3_letHourGoBy 50 = .ok (.invokevirtual 131, 3) := by decide +kernel
theorem dX3_letHourGoBy_53 : decode cX3_letHourGoBy 53 = .ok (.aload_n 0, 1) := by decide +kernel
theorem dX3_letHourGoBy_54 : decode cX3_letHourGoBy 54 = .ok (.getfield 47, 3) := by decide +kernel
theorem dX3_letHourGoBy_57 : decode cX3_letHourGoBy 57 = .ok (.ifCond .le 39, 3) := by decide +kernel
theorem dX3_letHourGoBy_60 : decode cX3_letHourGoBy 60 = .ok (.aload_n 0, 1) := by decide +kernel
theorem dX3_letHourGoBy_61 : decode cX3_letHourGoBy 61 = .ok (.getfield 21, 3) := by decide +kernel
theorem dX3_letHourGoBy_64 : decode cX3_letHourGoBy 64 = .ok (.getfield 135, 3) := by decide +kernel
theorem dX3_letHourGoBy_67 : decode cX3_letHourGoBy 67 = .ok (.ifCond .ne 14, 3) := by decide +kernel
theorem dX3_letHourGoBy_70 : decode cX3_letHourGoBy 70 = .ok (.aload_n 0, 1) := by decide +kernel
theorem dX3_letHourGoBy_71 : decode cX3_letHourGoBy 71 = .ok (.aload_n 0, 1) := by decide +kernel
theorem dX3_letHourGoBy_72 : decode cX3_letHourGoBy 72 = .ok (.getfield 27, 3) := by decide +kernel
theorem dX3_letHourGoBy_75 : decode cX3_letHourGoBy 75 = .ok (.iconst 0, 1) := by decide +kernel
theorem dX3_letHourGoBy_76 : decode cX3_letHourGoBy 76 = .ok (.aaload, 1) := by decide +kernel
theorem dX3_letHourGoBy_77 : decode cX3_letHourGoBy 77 = .ok (.iload_n 1, 1) := by decide +kernel
theorem dX3_letHourGoBy_78 : decode cX3_letHourGoBy 78 = .ok (.invokevirtual 139, 3) := by decide +kernel
theorem dX3_letHourGoBy_81 : decode cX3_letHourGoBy 81 = .ok (.aload_n 0, 1) := by decide +kernel
theorem dX3_letHourGoBy_82 : decode cX3_letHourGoBy 82 = .ok (.aload_n 0, 1) := by decide +kernel
theorem dX3_letHourGoBy_83 : decode cX3_letHourGoBy 83 = .ok (.getfield 27, 3) := by decide +kernel
theorem dX3_letHourGoBy_86 : decode cX3_letHourGoBy 86 = .ok (.aload_n 0, 1) := by decide +kernel
theorem dX3_letHourGoBy_87 : decode cX3_letHourGoBy 87 = .ok (.getfield 47, 3) := by decide +kernel
theorem dX3_letHourGoBy_90 : decode cX3_letHourGoBy 90 = .ok (.iconst 1, 1) := by decide +kernel
theorem dX3_letHourGoBy_91 : decode cX3_letHourGoBy 91 = .ok (.isub, 1) := by decide +kernel
theorem dX3_letHourGoBy_92 : decode cX3_letHourGoBy 92 = .ok (.aaload, 1) := by decide +kernel
theorem dX3_letHourGoBy_93 : decode cX3_letHourGoBy 93 = .ok (.invokevirtual 143, 3) := by decide +kernel
theorem dX3_letHourGoBy_96 : decode cX3_letHourGoBy 96 = .ok (.iconst 0, 1) := by decide +kernel
theorem dX3_letHourGoBy_97 : decode cX3_letHourGoBy 97 = .ok (.istore_n 2, 1) := by decide +kernel
theorem dX3_letHourGoBy_98 : decode cX3_letHourGoBy 98 = .ok (.iload_n 2, 1) := by decide +kernel
theorem dX3_letHourGoBy_99 : decode cX3_letHourGoBy 99 = .ok (.iconst 1, 1) := by decide +kernel
theorem dX3_letHourGoBy_100 : decode cX3_letHourGoBy 100 = .ok (.iadd, 1) := by decide +kernel
theorem dX3_letHourGoBy_101 : decode cX3_letHourGoBy 101 = .ok (.aload_n 0, 1) := by decide +kernel
theorem dX3_letHourGoBy_102 : decode cX3_letHourGoBy 102 = .ok (.getfield 47, 3) := by decide +kernel
theorem dX3_letHourGoBy_105 : decode cX3_letHourGoBy 105 = .ok (.if_icmp .ge 45, 3) := by decide +kernel
theorem dX3_letHourGoBy_108 : decode cX3_letHourGoBy 108 = .ok (.aload_n 0, 1) := by decide +kernel
theorem dX3_letHourGoBy_109 : decode cX3_letHourGoBy 109 = .ok (.aload_n 0, 1) := by decide +kernel
theorem dX3_letHourGoBy_110 : decode cX3_letHourGoBy 110 = .ok (.getfield 27, 3) := by decide +kernel
theorem dX3_letHourGoBy_113 : decode cX3_letHourGoBy 113 = .ok (.iload_n 2, 1) := by decide +kernel
theorem dX3_letHourGoBy_114 : decode cX3_letHourGoBy 114 = .ok (.aaload, 1) := by decide +kernel
theorem dX3_letHourGoBy_115 : decode cX3_letHourGoBy 115 = .ok (.aload_n 0, 1) := by decide +kernel
theorem dX3_letHourGoBy_116 : decode cX3_letHourGoBy 116 = .ok (.getfield 27, 3) := by decide +kernel
theorem dX3_letHourGoBy_119 : decode cX3_letHourGoBy 119 = .ok (.iload_n 2, 1) := by decide +kernel
theorem dX3_letHourGoBy_120 : decode cX3_letHourGoBy 120 = .ok (.iconst 1, 1) := by decide +kernel
theorem dX3_letHourGoBy_121 : decode cX3_letHourGoBy 121 = .ok (.iadd, 1) := by decide +kernel
theorem dX3_letHourGoBy_122 : decode cX3_letHourGoBy 122 = .ok (.aaload, 1) := by decide +kernel
theorem dX3_letHourGoBy_123 : decode cX3_letHourGoBy 123 = .ok (.invokevirtual 147, 3) := by decide +kernel
theorem dX3_letHourGoBy_126 : decode cX3_letHourGoBy 126 = .ok (.aload_n 0, 1) := by decide +kernel
theorem dX3_letHourGoBy_127 : decode cX3_letHourGoBy 127 = .ok (.aload_n 0, 1) := by decide +kernel
theorem dX3_letHourGoBy_128 : decode cX3_letHourGoBy 128 = .ok (.getfield 27, 3) := by decide +kernel
theorem dX3_letHourGoBy_131 : decode cX3_letHourGoBy 131 = .ok (.iload_n 2, 1) := by decide +kernel
theorem dX3_letHourGoBy_132 : decode cX3_letHourGoBy 132 = .ok (.aaload, 1) := by decide +kernel
theorem dX3_letHourGoBy_133 : decode cX3_letHourGoBy 133 = .ok (.aload_n 0, 1) := by decide +kernel
theorem dX3_letHourGoBy_134 : decode cX3_letHourGoBy 134 = .ok (.getfield 27, 3) := by decide +kernel
theorem dX3_letHourGoBy_137 : decode cX3_letHourGoBy 137 = .ok (.iload_n 2, 1) := by decide +kernel
theorem dX3_letHourGoBy_138 : decode cX3_letHourGoBy 138 = .ok (.iconst 1, 1) := by decide +kernel
theorem dX3_letHourGoBy_139 : decode cX3_letHourGoBy 139 = .ok (.iadd, 1) := by decide +kernel
theorem dX3_letHourGoBy_140 : decode cX3_letHourGoBy 140 = .ok (.aaload, 1) := by decide +kernel
theorem dX3_letHourGoBy_141 : decode cX3_letHourGoBy 141 = .ok (.invokevirtual 151, 3) := by decide +kernel
theorem dX3_letHourGoBy_144 : decode cX3_letHourGoBy 144 = .ok (.iinc 2 1, 3) := by decide +kernel
theorem dX3_letHourGoBy_147 : decode cX3_letHourGoBy 147 = .ok (.goto (-49), 3) := by decide +kernel
theorem dX3_letHourGoBy_150 : decode cX3_letHourGoBy 150 = .ok (.iconst 0, 1) := by decide +kernel
theorem dX3_letHourGoBy_151 : decode cX3_letHourGoBy 151 = .ok (.istore_n 2, 1) := by decide +kernel
theorem dX3_letHourGoBy_152 : decode cX3_letHourGoBy 152 = .ok (.iload_n 2, 1) := by decide +kernel
theorem dX3_letHourGoBy_153 : decode cX3_letHourGoBy 153 = .ok (.aload_n 0, 1) := by decide +kernel
theorem dX3_letHourGoBy_154 : decode cX3_letHourGoBy 154 = .ok (.getfield 47, 3) := by decide +kernel
theorem dX3_letHourGoBy_157 : decode cX3_letHourGoBy 157 = .ok (.if_icmp .ge 27, 3) := by decide +kernel
theorem dX3_letHourGoBy_160 : decode cX3_letHourGoBy 160 = .ok (.aload_n 0, 1) := by decide +kernel
theorem dX3_letHourGoBy_161 : decode cX3_letHourGoBy 161 = .ok (.getfield 27, 3) := by decide +kernel
theorem dX3_letHourGoBy_164 : decode cX3_letHourGoBy 164 = .ok (.iload_n 2, 1) := by decide +kernel
theorem dX3_letHourGoBy_165 : decode cX3_letHourGoBy 165 = .ok (.aaload, 1) := by decide +kernel
theorem dX3_letHourGoBy_166 : decode cX3_letHourGoBy 166 = .ok (.invokevirtual 154, 3) := by decide +kernel
theorem dX3_letHourGoBy_169 : decode cX3_letHourGoBy 169 = .ok (.aload_n 0, 1) := by decide +kernel
theorem dX3_letHourGoBy_170 : decode cX3_letHourGoBy 170 = .ok (.getfield 27, 3) := by decide +kernel
theorem dX3_letHourGoBy_173 : decode cX3_letHourGoBy 173 = .ok (.iload_n 2, 1) := by decide +kernel
theorem dX3_letHourGoBy_174 : decode cX3_letHourGoBy 174 = .ok (.aaload, 1) := by decide +kernel
theorem dX3_letHourGoBy_175 : decode cX3_letHourGoBy 175 = .ok (.invokevirtual 157, 3) := by decide +kernel
theorem dX3_letHourGoBy_178 : decode cX3_letHourGoBy 178 = .ok (.iinc 2 1, 3) := by decide +kernel
theorem dX3_letHourGoBy_181 : decode cX3_letHourGoBy 181 = .ok (.goto (-29), 3) := by decide +kernel
theorem dX3_letHourGoBy_184 : decode cX3_letHourGoBy 184 = .ok (.aload_n 0, 1) := by decide +kernel
theorem dX3_letHourGoBy_185 : decode cX3_letHourGoBy 185 = .ok (.invokevirtual 160, 3) := by decide +kernel
theorem dX3_letHourGoBy_188 : decode cX3_letHourGoBy 188 = .ok (.iconst 0, 1) := by decide +kernel
theorem dX3_letHourGoBy_189 : decode cX3_letHourGoBy 189 = .ok (.istore_n 2, 1) := by decide +kernel
theorem dX3_letHourGoBy_190 : decode cX3_letHourGoBy 190 = .ok (.iload_n 2, 1) := by decide +kernel
theorem dX3_letHourGoBy_191 : decode cX3_letHourGoBy 191 = .ok (.aload_n 0, 1) := by decide +kernel
theorem dX3_letHourGoBy_192 : decode cX3_letHourGoBy 192 = .ok (.getfield 47, 3) := by decide +kernel
theorem dX3_letHourGoBy_195 : decode cX3_letHourGoBy 195 = .ok (.if_icmp .ge 22, 3) := by decide +kernel
theorem dX3_letHourGoBy_198 : decode cX3_letHourGoBy 198 = .ok (.aload_n 0, 1) := by decide +kernel
theorem dX3_letHourGoBy_199 : decode cX3_letHourGoBy 199 = .ok (.getfield 27, 3) := by decide +kernel
theorem dX3_letHourGoBy_202 : decode cX3_letHourGoBy 202 = .ok (.iload_n 2, 1) := by decide +kernel
theorem dX3_letHourGoBy_203 : decode cX3_letHourGoBy 203 = .ok (.aaload, 1) := by decide +kernel
theorem dX3_letHourGoBy_204 : decode cX3_letHourGoBy 204 = .ok (.aload_n 0, 1) := by decide +kernel
theorem dX3_letHourGoBy_205 : decode cX3_letHourGoBy 205 = .ok (.getfield 60, 3) := by decide +kernel
theorem dX3_letHourGoBy_208 : decode cX3_letHourGoBy 208 = .ok (.invokevirtual 163, 3) := by decide +kernel
theorem dX3_letHourGoBy_211 : decode cX3_letHourGoBy 211 = .ok (.iinc 2 1, 3) := by decide +kernel
theorem dX3_letHourGoBy_214 : decode cX3_letHourGoBy 214 = .ok (.goto (-24), 3) := by decide +kernel
theorem dX3_letHourGoBy_217 : decode cX3_letHourGoBy 217 = .ok (.aload_n 0, 1) := by decide +kernel
theorem dX3_letHourGoBy_218 : decode cX3_letHourGoBy 218 = .ok (.getfield 12, 3) := by decide +kernel
theorem dX3_letHourGoBy_221 : decode cX3_letHourGoBy 221 = .ok (.aload_n 0, 1) := by decide +kernel
theorem dX3_letHourGoBy_222 : decode cX3_letHourGoBy 222 = .ok (.getfield 60, 3) := by decide +kernel
theorem dX3_letHourGoBy_225 : decode cX3_letHourGoBy 225 = .ok (.iload_n 1, 1) := by decide +kernel
theorem dX3_letHourGoBy_226 : decode cX3_letHourGoBy 226 = .ok (.invokevirtual 167, 3) := by decide +kernel
theorem dX3_letHourGoBy_229 : decode cX3_letHourGoBy 229 = .ok (.return_, 1) := by decide +kernel
theorem dX3_meetSea_0 : decode cX3_meetSea 0 = .ok (.iload_n 2, 1) := by decide +kernel
theorem dX3_meetSea_1 : decode cX3_meetSea 1 = .ok (.aload_n 1, 1) := by decide +kernel
theorem dX3_meetSea_2 : decode cX3_meetSea 2 = .ok (.invokevirtual 170, 3) := by decide +kernel
theorem dX3_meetSea_5 : decode cX3_meetSea 5 = .ok (.isub, 1) := by decide +kernel
theorem dX3_meetSea_6 : decode cX3_meetSea 6 = .ok (.istore_n 3, 1) := by decide +kernel
theorem dX3_meetSea_7 : decode cX3_meetSea 7 = .ok (.iload_n 3, 1) := by decide +kernel
theorem dX3_meetSea_8 : decode cX3_meetSea 8 = .ok (.ifCond .le 57, 3) := by decide +kernel
theorem dX3_meetSea_11 : decode cX3_meetSea 11 = .ok (.iload_n 3, 1) := by decide +kernel
theorem dX3_meetSea_12 : decode cX3_meetSea 12 = .ok (.aload_n 1, 1) := by decide +kernel
theorem dX3_meetSea_13 : decode cX3_meetSea 13 = .ok (.getfield 174, 3) := by decide +kernel
theorem dX3_meetSea_16 : decode cX3_meetSea 16 = .ok (.imul, 1) := by decide +kernel
theorem dX3_meetSea_17 : decode cX3_meetSea 17 = .ok (.iconst 2, 1) := by decide +kernel
theorem dX3_meetSea_18 : decode cX3_meetSea 18 = .ok (.idiv, 1) := by decide +kernel
theorem dX3_meetSea_19 : decode cX3_meetSea 19 = .ok (.istore 4, 2) := by decide +kernel
theorem dX3_meetSea_21 : decode cX3_meetSea 21 = .ok (.aload_n 1, 1) := by decide +kernel
theorem dX3_meetSea_22 : decode cX3_meetSea 22 = .ok (.getfield 177, 3) := by decide +kernel
theorem dX3_meetSea_25 : decode cX3_meetSea 25 = .ok (.iload 4, 2) := by decide +kernel
theorem dX3_meetSea_27 : decode cX3_meetSea 27 = .ok (.bipush 30, 2) := by decide +kernel
theorem dX3_meetSea_29 : decode cX3_meetSea 29 = .ok (.iload 4, 2) := by decide +kernel
theorem dX3_meetSea_31 : decode cX3_meetSea 31 = .ok (.imul, 1) := by decide +kernel
theorem dX3_meetSea_32 : decode cX3_meetSea 32 = .ok (.invokevirtual 181, 3) := by decide +kernel
theorem dX3_meetSea_35 : decode cX3_meetSea 35 = .ok (.aload_n 0, 1) := by decide +kernel
theorem dX3_meetSea_36 : decode cX3_meetSea 36 = .ok (.getfield 37, 3) := by decide +kernel
theorem dX3_meetSea_39 : decode cX3_meetSea 39 = .ok (.iconst 0, 1) := by decide +kernel
theorem dX3_meetSea_40 : decode cX3_meetSea 40 = .ok (.dup2, 1) := by decide +kernel
theorem dX3_meetSea_41 : decode cX3_meetSea 41 = .ok (.laload, 1) := by decide +kernel
theorem dX3_meetSea_42 : decode cX3_meetSea 42 = .ok (.iload 4, 2) := by decide +kernel
theorem dX3_meetSea_44 : decode cX3_meetSea 44 = .ok (.i2l, 1) := by decide +kernel
theorem dX3_meetSea_45 : decode cX3_meetSea 45 = .ok (.ladd, 1) := by decide +kernel
theorem dX3_meetSea_46 : decode cX3_meetSea 46 = .ok (.lastore, 1) := by decide +kernel
theorem dX3_meetSea_47 : decode cX3_meetSea 47 = .ok (.aload_n 0, 1) := by decide +kernel
theorem dX3_meetSea_48 : decode cX3_meetSea 48 = .ok (.getfield 37, 3) := by decide +kernel
theorem dX3_meetSea_51 : decode cX3_meetSea 51 = .ok (.iconst 4, 1) := by decide +kernel
theorem dX3_meetSea_52 : decode cX3_meetSea 52 = .ok (.dup2, 1) := by decide +kernel
theorem dX3_meetSea_53 : decode cX3_meetSea 53 = .ok (.laload, 1) := by decide +kernel
theorem dX3_meetSea_54 : decode cX3_meetSea 54 = .ok (.bipush 30, 2) := by decide +kernel
theorem dX3_meetSea_56 : decode cX3_meetSea 56 = .ok (.iload 4, 2) := by decide +kernel
theorem dX3_meetSea_58 : decode cX3_meetSea 58 = .ok (.imul, 1) := by decide +kernel
theorem dX3_meetSea_59 : decode cX3_meetSea 59 = .ok (.i2l, 1) := by decide +kernel
theorem dX3_meetSea_60 : decode cX3_meetSea 60 = .ok (.ladd, 1) := by decide +kernel
theorem dX3_meetSea_61 : decode cX3_meetSea 61 = .ok (.lastore, 1) := by decide +kernel
theorem dX3_meetSea_62 : decode cX3_meetSea 62 = .ok (.goto 76, 3) := by decide +kernel
theorem dX3_meetSea_65 : decode cX3_meetSea 65 = .ok (.iload_n 3, 1) := by decide +kernel
theorem dX3_meetSea_66 : decode cX3_meetSea 66 = .ok (.ifCond .ge 72, 3) := by decide +kernel
theorem dX3_meetSea_69 : decode cX3_meetSea 69 = .ok (.iload_n 3, 1) := by decide +kernel
theorem dX3_meetSea_70 : decode cX3_meetSea 70 = .ok (.ineg, 1) := by decide +kernel
theorem dX3_meetSea_71 : decode cX3_meetSea 71 = .ok (.aload_n 1, 1) := by decide +kernel
theorem dX3_meetSea_72 : decode cX3_meetSea 72 = .ok (.getfield 174, 3) := by decide +kernel
theorem dX3_meetSea_75 : decode cX3_meetSea 75 = .ok (.imul, 1) := by decide +kernel
theorem dX3_meetSea_76 : decode cX3_meetSea 76 = .ok (.iconst 2, 1) := by decide +kernel
theorem dX3_meetSea_77 : decode cX3_meetSea 77 = .ok (.idiv, 1) := by decide +kernel
theorem dX3_meetSea_78 : decode cX3_meetSea 78 = .ok (.aload_n 1, 1) := by decide +kernel
theorem dX3_meetSea_79 : decode cX3_meetSea 79 = .ok (.getfield 186, 3) := by decide +kernel
theorem dX3_meetSea_82 : decode cX3_meetSea 82 = .ok (.getfield 189, 3) := by decide +kernel
theorem dX3_meetSea_85 : decode cX3_meetSea 85 = .ok (.invokestatic 119, 3) := by decide +kernel
theorem dX3_meetSea_88 : decode cX3_meetSea 88 = .ok (.istore 4, 2) := by decide +kernel
theorem dX3_meetSea_90 : decode cX3_meetSea 90 = .ok (.aload_n 0, 1) := by decide +kernel
theorem dX3_meetSea_91 : decode cX3_meetSea 91 = .ok (.getfield 37, 3) := by decide +kernel
theorem dX3_meetSea_94 : decode cX3_meetSea 94 = .ok (.bipush 8, 2) := by decide +kernel
theorem dX3_meetSea_96 : decode cX3_meetSea 96 = .ok (.dup2, 1) := by decide +kernel
theorem dX3_meetSea_97 : decode cX3_meetSea 97 = .ok (.laload, 1) := by decide +kernel
theorem dX3_meetSea_98 : decode cX3_meetSea 98 = .ok (.aload_n 1, 1) := by decide +kernel
theorem dX3_meetSea_99 : decode cX3_meetSea 99 = .ok (.iload 4, 2) := by decide +kernel
theorem dX3_meetSea_101 : decode cX3_meetSea 101 = .ok (.invokevirtual 192, 3) := by decide +kernel
theorem dX3_meetSea_104 : decode cX3_meetSea 104 = .ok (.i2l, 1) := by decide +kernel
theorem dX3_meetSea_105 : decode cX3_meetSea 105 = .ok (.ladd, 1) := by decide +kernel
theorem dX3_meetSea_106 : decode cX3_meetSea 106 = .ok (.lastore, 1) := by decide +kernel
theorem dX3_meetSea_107 : decode cX3_meetSea 107 = .ok (.aload_n 0, 1) := by decide +kernel
theorem dX3_meetSea_108 : decode cX3_meetSea 108 = .ok (.getfield 37, 3) := by decide +kernel
theorem dX3_meetSea_111 : decode cX3_meetSea 111 = .ok (.iconst 5, 1) := by decide +kernel
theorem dX3_meetSea_112 : decode cX3_meetSea 112 = .ok (.dup2, 1) := by decide +kernel
theorem dX3_meetSea_113 : decode cX3_meetSea 113 = .ok (.laload, 1) := by decide +kernel
theorem dX3_meetSea_114 : decode cX3_meetSea 114 = .ok (.aload_n 1, 1) := by decide +kernel
theorem dX3_meetSea_115 : decode cX3_meetSea 115 = .ok (.getfield 186, 3) := by decide +kernel
theorem dX3_meetSea_118 : decode cX3_meetSea 118 = .ok (.iload 4, 2) := by decide +kernel
theorem dX3_meetSea_120 : decode cX3_meetSea 120 = .ok (.invokevirtual 195, 3) := by decide +kernel
theorem dX3_meetSea_123 : decode cX3_meetSea 123 = .ok (.i2l, 1) := by decide +kernel
theorem dX3_meetSea_124 : decode cX3_meetSea 124 = .ok (.ladd, 1) := by decide +kernel
theorem dX3_meetSea_125 : decode cX3_meetSea 125 = .ok (.lastore, 1) := by decide +kernel
theorem dX3_meetSea_126 : decode cX3_meetSea 126 = .ok (.aload_n 0, 1) := by decide +kernel
theorem dX3_meetSea_127 : decode cX3_meetSea 127 = .ok (.getfield 37, 3) := by decide +kernel
theorem dX3_meetSea_130 : decode cX3_meetSea 130 = .ok (.iconst 1, 1) := by decide +kernel
theorem dX3_meetSea_131 : decode cX3_meetSea 131 = .ok (.dup2, 1) := by decide +kernel
theorem dX3_meetSea_132 : decode cX3_meetSea 132 = .ok (.laload, 1) := by decide +kernel
theorem dX3_meetSea_133 : decode cX3_meetSea 133 = .ok (.iload 4, 2) := by decide +kernel
theorem dX3_meetSea_135 : decode cX3_meetSea 135 = .ok (.i2l, 1) := by decide +kernel
theorem dX3_meetSea_136 : decode cX3_meetSea 136 = .ok (.ladd, 1) := by decide +kernel
theorem dX3_meetSea_137 : decode cX3_meetSea 137 = .ok (.lastore, 1) := by decide +kernel
theorem dX3_meetSea_138 : decode cX3_meetSea 138 = .ok (.return_, 1) := by decide +kernel
theorem dX3_meetRiver_0 : decode cX3_meetRiver 0 = .ok (.aload_n 1, 1) := by decide +kernel
theorem dX3_meetRiver_1 : decode cX3_meetRiver 1 = .ok (.getfield 186, 3) := by decide +kernel
theorem dX3_meetRiver_4 : decode cX3_meetRiver 4 = .ok (.aload_n 0, 1) := by decide +kernel
theorem dX3_meetRiver_5 : decode cX3_meetRiver 5 = .ok (.getfield 54, 3) := by decide +kernel
theorem dX3_meetRiver_8 : decode cX3_meetRiver 8 = .ok (.iconst 0, 1) := by decide +kernel
theorem dX3_meetRiver_9 : decode cX3_meetRiver 9 = .ok (.invokevirtual 181, 3) := by decide +kernel
theorem dX3_meetRiver_12 : decode cX3_meetRiver 12 = .ok (.aload_n 1, 1) := by decide +kernel
theorem dX3_meetRiver_13 : decode cX3_meetRiver 13 = .ok (.dup, 1) := by decide +kernel
theorem dX3_meetRiver_14 : decode cX3_meetRiver 14 = .ok (.getfield 108, 3) := by decide +kernel
theorem dX3_meetRiver_17 : decode cX3_meetRiver 17 = .ok (.aload_n 0, 1) := by decide +kernel
theorem dX3_meetRiver_18 : decode cX3_meetRiver 18 = .ok (.getfield 57, 3) := by decide +kernel
theorem dX3_meetRiver_21 : decode cX3_meetRiver 21 = .ok (.iadd, 1) := by decide +kernel
theorem dX3_meetRiver_22 : decode cX3_meetRiver 22 = .ok (.putfield 108, 3) := by decide +kernel
theorem dX3_meetRiver_25 : decode cX3_meetRiver 25 = .ok (.aload_n 0, 1) := by decide +kernel
theorem dX3_meetRiver_26 : decode cX3_meetRiver 26 = .ok (.getfield 37, 3) := by decide +kernel
theorem dX3_meetRiver_29 : decode cX3_meetRiver 29 = .ok (.iconst 2, 1) := by decide +kernel
theorem dX3_meetRiver_30 : decode cX3_meetRiver 30 = .ok (.dup2, 1) := by decide +kernel
theorem dX3_meetRiver_31 : decode cX3_meetRiver 31 = .ok (.laload, 1) := by decide +kernel
theorem dX3_meetRiver_32 : decode cX3_meetRiver 32 = .ok (.aload_n 0, 1) := by decide +kernel
theorem dX3_meetRiver_33 : decode cX3_meetRiver 33 = .ok (.getfield 54, 3) := by decide +kernel
theorem dX3_meetRiver_36 : decode cX3_meetRiver 36 = .ok (.i2l, 1) := by decide +kernel
theorem dX3_meetRiver_37 : decode cX3_meetRiver 37 = .ok (.ladd, 1) := by decide +kernel
theorem dX3_meetRiver_38 : decode cX3_meetRiver 38 = .ok (.lastore, 1) := by decide +kernel
theorem dX3_meetRiver_39 : decode cX3_meetRiver 39 = .ok (.aload_n 0, 1) := by decide +kernel
theorem dX3_meetRiver_40 : decode cX3_meetRiver 40 = .ok (.getfield 37, 3) := by decide +kernel
theorem dX3_meetRiver_43 : decode cX3_meetRiver 43 = .ok (.bipush 7, 2) := by decide +kernel
theorem dX3_meetRiver_45 : decode cX3_meetRiver 45 = .ok (.dup2, 1) := by decide +kernel
theorem dX3_meetRiver_46 : decode cX3_meetRiver 46 = .ok (.laload, 1) := by decide +kernel
theorem dX3_meetRiver_47 : decode cX3_meetRiver 47 = .ok (.aload_n 0, 1) := by decide +kernel
theorem dX3_meetRiver_48 : decode cX3_meetRiver 48 = .ok (.getfield 57, 3) := by decide +kernel
theorem dX3_meetRiver_51 : decode cX3_meetRiver 51 = .ok (.i2l, 1) := by decide +kernel
theorem dX3_meetRiver_52 : decode cX3_meetRiver 52 = .ok (.ladd, 1) := by decide +kernel
theorem dX3_meetRiver_53 : decode cX3_meetRiver 53 = .ok (.lastore, 1) := by decide +kernel
theorem dX3_meetRiver_54 : decode cX3_meetRiver 54 = .ok (.return_, 1) := by decide +kernel
theorem dX3_flowByLevels_0 : decode cX3_flowByLevels 0 = .ok (.aload_n 1, 1) := by decide +kernel
theorem dX3_flowByLevels_1 : decode cX3_flowByLevels 1 = .ok (.invokevirtual 170, 3) := by decide +kernel
theorem dX3_flowByLevels_4 : decode cX3_flowByLevels 4 = .ok (.aload_n 2, 1) := by decide +kernel
theorem dX3_flowByLevels_5 : decode cX3_flowByLevels 5 = .ok (.invokevirtual 170, 3) := by decide +kernel
theorem dX3_flowByLevels_8 : decode cX3_flowByLevels 8 = .ok (.isub, 1) := by decide +kernel
theorem dX3_flowByLevels_9 : decode cX3_flowByLevels 9 = .ok (.istore_n 3, 1) := by decide +kernel
theorem dX3_flowByLevels_10 : decode cX3_flowByLevels 10 = .ok (.aload_n 1, 1) := by decide +kernel
theorem dX3_flowByLevels_11 : decode cX3_flowByLevels 11 = .ok (.getfield 174, 3) := by decide +kernel
theorem dX3_flowByLevels_14 : decode cX3_flowByLevels 14 = .ok (.aload_n 2, 1) := by decide +kernel
theorem dX3_flowByLevels_15 : decode cX3_flowByLevels 15 = .ok (.getfield 174, 3) := by decide +kernel
theorem dX3_flowByLevels_18 : decode cX3_flowByLevels 18 = .ok (.invokestatic 119, 3) := by decide +kernel
theorem dX3_flowByLevels_21 : decode cX3_flowByLevels 21 = .ok (.istore 4, 2) := by decide +kernel
theorem dX3_flowByLevels_23 : decode cX3_flowByLevels 23 = .ok (.iconst 0, 1) := by decide +kernel
theorem dX3_flowByLevels_24 : decode cX3_flowByLevels 24 = .ok (.istore 5, 2) := by decide +kernel
theorem dX3_flowByLevels_26 : decode cX3_flowByLevels 26 = .ok (.iload_n 3, 1) := by decide +kernel
theorem dX3_flowByLevels_27 : decode cX3_flowByLevels 27 = .ok (.ifCond .le 32, 3) := by decide +kernel
theorem dX3_flowByLevels_30 : decode cX3_flowByLevels 30 = .ok (.iload_n 3, 1) := by decide +kernel
theorem dX3_flowByLevels_31 : decode cX3_flowByLevels 31 = .ok (.iload 4, 2) := by decide +kernel
theorem dX3_flowByLevels_33 : decode cX3_flowByLevels 33 = .ok (.imul, 1) := by decide +kernel
theorem dX3_flowByLevels_34 : decode cX3_flowByLevels 34 = .ok (.iconst 4, 1) := by decide +kernel
theorem dX3_flowByLevels_35 : decode cX3_flowByLevels 35 = .ok (.idiv, 1) := by decide +kernel
theorem dX3_flowByLevels_36 : decode cX3_flowByLevels 36 = .ok (.aload_n 1, 1) := by decide +kernel
theorem dX3_flowByLevels_37 : decode cX3_flowByLevels 37 = .ok (.getfield 177, 3) := by decide +kernel
theorem dX3_flowByLevels_40 : decode cX3_flowByLevels 40 = .ok (.getfield 189, 3) := by decide +kernel
theorem dX3_flowByLevels_43 : decode cX3_flowByLevels 43 = .ok (.invokestatic 119, 3) := by decide +kernel
theorem dX3_flowByLevels_46 : decode cX3_flowByLevels 46 = .ok (.istore 5, 2) := by decide +kernel
theorem dX3_flowByLevels_48 : decode cX3_flowByLevels 48 = .ok (.aload_n 0, 1) := by decide +kernel
theorem dX3_flowByLevels_49 : decode cX3_flowByLevels 49 = .ok (.aload_n 1, 1) := by decide +kernel
theorem dX3_flowByLevels_50 : decode cX3_flowByLevels 50 = .ok (.aload_n 2, 1) := by decide +kernel
theorem dX3_flowByLevels_51 : decode cX3_flowByLevels 51 = .ok (.iload 5, 2) := by decide +kernel
theorem dX3_flowByLevels_53 : decode cX3_flowByLevels 53 = .ok (.invokevirtual 198, 3) := by decide +kernel
theorem dX3_flowByLevels_56 : decode cX3_flowByLevels 56 = .ok (.goto 34, 3) := by decide +kernel
theorem dX3_flowByLevels_59 : decode cX3_flowByLevels 59 = .ok (.iload_n 3, 1) := by decide +kernel
theorem dX3_flowByLevels_60 : decode cX3_flowByLevels 60 = .ok (.ifCond .ge 30, 3) := by decide +kernel
theorem dX3_flowByLevels_63 : decode cX3_flowByLevels 63 = .ok (.iload_n 3, 1) := by decide +kernel
theorem dX3_flowByLevels_64 : decode cX3_flowByLevels 64 = .ok (.ineg, 1) := by decide +kernel
theorem dX3_flowByLevels_65 : decode cX3_flowByLevels 65 = .ok (.iload 4, 2) := by decide +kernel
theorem dX3_flowByLevels_67 : decode cX3_flowByLevels 67 = .ok (.imul, 1) := by decide +kernel
theorem dX3_flowByLevels_68 : decode cX3_flowByLevels 68 = .ok (.iconst 4, 1) := by decide +kernel
theorem dX3_flowByLevels_69 : decode cX3_flowByLevels 69 = .ok (.idiv, 1) := by decide +kernel
theorem dX3_flowByLevels_70 : decode cX3_flowByLevels 70 = .ok (.aload_n 2, 1) := by decide +kernel
theorem dX3_flowByLevels_71 : decode cX3_flowByLevels 71 = .ok (.getfield 186, 3) := by decide +kernel
theorem dX3_flowByLevels_74 : decode cX3_flowByLevels 74 = .ok (.getfield 189, 3) := by decide +kernel
theorem dX3_flowByLevels_77 : decode cX3_flowByLevels 77 = .ok (.invokestatic 119, 3) := by decide +kernel
theorem dX3_flowByLevels_80 : decode cX3_flowByLevels 80 = .ok (.istore 5, 2) := by decide +kernel
theorem dX3_flowByLevels_82 : decode cX3_flowByLevels 82 = .ok (.aload_n 0, 1) := by decide +kernel
theorem dX3_flowByLevels_83 : decode cX3_flowByLevels 83 = .ok (.aload_n 2, 1) := by decide +kernel
theorem dX3_flowByLevels_84 : decode cX3_flowByLevels 84 = .ok (.aload_n 1, 1) := by decide +kernel
theorem dX3_flowByLevels_85 : decode cX3_flowByLevels 85 = .ok (.iload 5, 2) := by decide +kernel
theorem dX3_flowByLevels_87 : decode cX3_flowByLevels 87 = .ok (.invokevirtual 202, 3) := by decide +kernel
theorem dX3_flowByLevels_90 : decode cX3_flowByLevels 90 = .ok (.aload_n 1, 1) := by decide +kernel
theorem dX3_flowByLevels_91 : decode cX3_flowByLevels 91 = .ok (.dup, 1) := by decide +kernel
theorem dX3_flowByLevels_92 : decode cX3_flowByLevels 92 = .ok (.getfield 128, 3) := by decide +kernel
theorem dX3_flowByLevels_95 : decode cX3_flowByLevels 95 = .ok (.iload 5, 2) := by decide +kernel
theorem dX3_flowByLevels_97 : decode cX3_flowByLevels 97 = .ok (.iadd, 1) := by decide +kernel
theorem dX3_flowByLevels_98 : decode cX3_flowByLevels 98 = .ok (.putfield 128, 3) := by decide +kernel
theorem dX3_flowByLevels_101 : decode cX3_flowByLevels 101 = .ok (.aload_n 2, 1) := by decide +kernel
theorem dX3_flowByLevels_102 : decode cX3_flowByLevels 102 = .ok (.dup, 1) := by decide +kernel
theorem dX3_flowByLevels_103 : decode cX3_flowByLevels 103 = .ok (.getfield 128, 3) := by decide +kernel
theorem dX3_flowByLevels_106 : decode cX3_flowByLevels 106 = .ok (.iload 5, 2) := by decide +kernel
theorem dX3_flowByLevels_108 : decode cX3_flowByLevels 108 = .ok (.iadd, 1) := by decide +kernel
theorem dX3_flowByLevels_109 : decode cX3_flowByLevels 109 = .ok (.putfield 128, 3) := by decide +kernel
theorem dX3_flowByLevels_112 : decode cX3_flowByLevels 112 = .ok (.return_, 1) := by decide +kernel
theorem dX3_creep_0 : decode cX3_creep 0 = .ok (.aload_n 1, 1) := by decide +kernel
theorem dX3_creep_1 : decode cX3_creep 1 = .ok (.getfield 177, 3) := by decide +kernel
theorem dX3_creep_4 : decode cX3_creep 4 = .ok (.invokevirtual 205, 3) := by decide +kernel
theorem dX3_creep_7 : decode cX3_creep 7 = .ok (.aload_n 2, 1) := by decide +kernel
theorem dX3_creep_8 : decode cX3_creep 8 = .ok (.getfield 177, 3) := by decide +kernel
theorem dX3_creep_11 : decode cX3_creep 11 = .ok (.invokevirtual 205, 3) := by decide +kernel
theorem dX3_creep_14 : decode cX3_creep 14 = .ok (.if_icmp .le 38, 3) := by decide +kernel
theorem dX3_creep_17 : decode cX3_creep 17 = .ok (.aload_n 1, 1) := by decide +kernel
theorem dX3_creep_18 : decode cX3_creep 18 = .ok (.getfield 177, 3) := by decide +kernel
theorem dX3_creep_21 : decode cX3_creep 21 = .ok (.getfield 189, 3) := by decide +kernel
theorem dX3_creep_24 : decode cX3_creep 24 = .ok (.aload_n 2, 1) := by decide +kernel
theorem dX3_creep_25 : decode cX3_creep 25 = .ok (.getfield 186, 3) := by decide +kernel
theorem dX3_creep_28 : decode cX3_creep 28 = .ok (.getfield 189, 3) := by decide +kernel
theorem dX3_creep_31 : decode cX3_creep 31 = .ok (.invokestatic 119, 3) := by decide +kernel
theorem dX3_creep_34 : decode cX3_creep 34 = .ok (.bipush 8, 2) := by decide +kernel
theorem dX3_creep_36 : decode cX3_creep 36 = .ok (.idiv, 1) := by decide +kernel
theorem dX3_creep_37 : decode cX3_creep 37 = .ok (.istore_n 3, 1) := by decide +kernel
theorem dX3_creep_38 : decode cX3_creep 38 = .ok (.aload_n 0, 1) := by decide +kernel
theorem dX3_creep_39 : decode cX3_creep 39 = .ok (.aload_n 1, 1) := by decide +kernel
theorem dX3_creep_40 : decode cX3_creep 40 = .ok (.aload_n 2, 1) := by decide +kernel
theorem dX3_creep_41 : decode cX3_creep 41 = .ok (.iload_n 3, 1) := by decide +kernel
theorem dX3_creep_42 : decode cX3_creep 42 = .ok (.invokevirtual 198, 3) := by decide +kernel
theorem dX3_creep_45 : decode cX3_creep 45 = .ok (.aload_n 0, 1) := by decide +kernel
theorem dX3_creep_46 : decode cX3_creep 46 = .ok (.aload_n 2, 1) := by decide +kernel
theorem dX3_creep_47 : decode cX3_creep 47 = .ok (.aload_n 1, 1) := by decide +kernel
theorem dX3_creep_48 : decode cX3_creep 48 = .ok (.iload_n 3, 1) := by decide +kernel
theorem dX3_creep_49 : decode cX3_creep 49 = .ok (.invokevirtual 202, 3) := by decide +kernel
theorem dX3_creep_52 : decode cX3_creep 52 = .ok (.return_, 1) := by decide +kernel
theorem dX3_flowInLow_0 : decode cX3_flowInLow 0 = .ok (.aload_n 1, 1) := by decide +kernel
theorem dX3_flowInLow_1 : decode cX3_flowInLow 1 = .ok (.getfield 177, 3) := by decide +kernel
theorem dX3_flowInLow_4 : decode cX3_flowInLow 4 = .ok (.iload_n 3, 1) := by decide +kernel
theorem dX3_flowInLow_5 : decode cX3_flowInLow 5 = .ok (.invokevirtual 195, 3) := by decide +kernel
theorem dX3_flowInLow_8 : decode cX3_flowInLow 8 = .ok (.istore 4, 2) := by decide +kernel
theorem dX3_flowInLow_10 : decode cX3_flowInLow 10 = .ok (.aload_n 2, 1) := by decide +kernel
theorem dX3_flowInLow_11 : decode cX3_flowInLow 11 = .ok (.getfield 177, 3) := by decide +kernel
theorem dX3_flowInLow_14 : decode cX3_flowInLow 14 = .ok (.iload_n 3, 1) := by decide +kernel
theorem dX3_flowInLow_15 : decode cX3_flowInLow 15 = .ok (.iload 4, 2) := by decide +kernel
theorem dX3_flowInLow_17 : decode cX3_flowInLow 17 = .ok (.invokevirtual 181, 3) := by decide +kernel
theorem dX3_flowInLow_20 : decode cX3_flowInLow 20 = .ok (.return_, 1) := by decide +kernel
theorem dX3_flowInUp_0 : decode cX3_flowInUp 0 = .ok (.aload_n 1, 1) := by decide +kernel
theorem dX3_flowInUp_1 : decode cX3_flowInUp 1 = .ok (.iload_n 3, 1) := by decide +kernel
theorem dX3_flowInUp_2 : decode cX3_flowInUp 2 = .ok (.invokevirtual 192, 3) := by decide +kernel
theorem dX3_flowInUp_5 : decode cX3_flowInUp 5 = .ok (.istore 4, 2) := by decide +kernel
theorem dX3_flowInUp_7 : decode cX3_flowInUp 7 = .ok (.aload_n 1, 1) := by decide +kernel
theorem dX3_flowInUp_8 : decode cX3_flowInUp 8 = .ok (.getfield 186, 3) := by decide +kernel
theorem dX3_flowInUp_11 : decode cX3_flowInUp 11 = .ok (.iload_n 3, 1) := by decide +kernel
theorem dX3_flowInUp_12 : decode cX3_flowInUp 12 = .ok (.invokevirtual 195, 3) := by decide +kernel
theorem dX3_flowInUp_15 : decode cX3_flowInUp 15 = .ok (.istore 5, 2) := by decide +kernel
theorem dX3_flowInUp_17 : decode cX3_flowInUp 17 = .ok (.aload_n 2, 1) := by decide +kernel
theorem dX3_flowInUp_18 : decode cX3_flowInUp 18 = .ok (.dup, 1) := by decide +kernel
theorem dX3_flowInUp_19 : decode cX3_flowInUp 19 = .ok (.getfield 108, 3) := by decide +kernel
theorem dX3_flowInUp_22 : decode cX3_flowInUp 22 = .ok (.iload 4, 2) := by decide +kernel
theorem dX3_flowInUp_24 : decode cX3_flowInUp 24 = .ok (.iadd, 1) := by decide +kernel
theorem dX3_flowInUp_25 : decode cX3_flowInUp 25 = .ok (.putfield 108, 3) := by decide +kernel
theorem dX3_flowInUp_28 : decode cX3_flowInUp 28 = .ok (.aload_n 2, 1) := by decide +kernel
theorem dX3_flowInUp_29 : decode cX3_flowInUp 29 = .ok (.getfield 186, 3) := by decide +kernel
theorem dX3_flowInUp_32 : decode cX3_flowInUp 32 = .ok (.iload_n 3, 1) := by decide +kernel
theorem dX3_flowInUp_33 : decode cX3_flowInUp 33 = .ok (.iload 5, 2) := by decide +kernel
theorem dX3_flowInUp_35 : decode cX3_flowInUp 35 = .ok (.invokevirtual 181, 3) := by decide +kernel
theorem dX3_flowInUp_38 : decode cX3_flowInUp 38 = .ok (.return_, 1) := by decide +kernel
theorem dX3_serveIntakes_0 : decode cX3_serveIntakes 0 = .ok (.iconst 0, 1) := by decide +kernel
theorem dX3_serveIntakes_1 : decode cX3_serveIntakes 1 = .ok (.istore_n 1, 1) := by decide +kernel
theorem dX3_serveIntakes_2 : decode cX3_serveIntakes 2 = .ok (.iload_n 1, 1) := by decide +kernel
theorem dX3_serveIntakes_3 : decode cX3_serveIntakes 3 = .ok (.aload_n 0, 1) := by decide +kernel
theorem dX3_serveIntakes_4 : decode cX3_serveIntakes 4 = .ok (.getfield 51, 3) := by decide +kernel
theorem dX3_serveIntakes_7 : decode cX3_serveIntakes 7 = .ok (.if_icmp .ge 51, 3) := by decide +kernel
theorem dX3_serveIntakes_10 : decode cX3_serveIntakes 10 = .ok (.aload_n 0, 1) := by decide +kernel
theorem dX3_serveIntakes_11 : decode cX3_serveIntakes 11 = .ok (.getfield 33, 3) := by decide +kernel
theorem dX3_serveIntakes_14 : decode cX3_serveIntakes 14 = .ok (.iload_n 1, 1) := by decide +kernel
theorem dX3_serveIntakes_15 : decode cX3_serveIntakes 15 = .ok (.aaload, 1) := by decide +kernel
theorem dX3_serveIntakes_16 : decode cX3_serveIntakes 16 = .ok (.astore_n 2, 1) := by decide +kernel
theorem dX3_serveIntakes_17 : decode cX3_serveIntakes 17 = .ok (.aload_n 0, 1) := by decide +kernel
theorem dX3_serveIntakes_18 : decode cX3_serveIntakes 18 = .ok (.aload_n 2, 1) := by decide +kernel
theorem dX3_serveIntakes_19 : decode cX3_serveIntakes 19 = .ok (.getfield 208, 3) := by decide +kernel
theorem dX3_serveIntakes_22 : decode cX3_serveIntakes 22 = .ok (.invokevirtual 98, 3) := by decide +kernel
theorem dX3_serveIntakes_25 : decode cX3_serveIntakes 25 = .ok (.ifCond .eq 23, 3) := by decide +kernel
theorem dX3_serveIntakes_28 : decode cX3_serveIntakes 28 = .ok (.aload_n 2, 1) := by decide +kernel
theorem dX3_serveIntakes_29 : decode cX3_serveIntakes 29 = .ok (.aload_n 0, 1) := by decide +kernel
theorem dX3_serveIntakes_30 : decode cX3_serveIntakes 30 = .ok (.getfield 27, 3) := by decide +kernel
theorem dX3_serveIntakes_33 : decode cX3_serveIntakes 33 = .ok (.aload_n 2, 1) := by decide +kernel
theorem dX3_serveIntakes_34 : decode cX3_serveIntakes 34 = .ok (.getfield 208, 3) := by decide +kernel
theorem dX3_serveIntakes_37 : decode cX3_serveIntakes 37 = .ok (.aaload, 1) := by decide +kernel
theorem dX3_serveIntakes_38 : decode cX3_serveIntakes 38 = .ok (.getfield 186, 3) := by decide +kernel
theorem dX3_serveIntakes_41 : decode cX3_serveIntakes 41 = .ok (.aload_n 0, 1) := by decide +kernel
theorem dX3_serveIntakes_42 : decode cX3_serveIntakes 42 = .ok (.getfield 37, 3) := by decide +kernel
theorem dX3_serveIntakes_45 : decode cX3_serveIntakes 45 = .ok (.invokevirtual 211, 3) := by decide +kernel
theorem dX3_serveIntakes_48 : decode cX3_serveIntakes 48 = .ok (.aload_n 2, 1) := by decide +kernel
theorem dX3_serveIntakes_49 : decode cX3_serveIntakes 49 = .ok (.invokevirtual 215, 3) := by decide +kernel
theorem dX3_serveIntakes_52 : decode cX3_serveIntakes 52 = .ok (.iinc 1 1, 3) := by decide +kernel
theorem dX3_serveIntakes_55 : decode cX3_serveIntakes 55 = .ok (.goto (-53), 3) := by decide +kernel
theorem dX3_serveIntakes_58 : decode cX3_serveIntakes 58 = .ok (.return_, 1) := by decide +kernel
theorem dX4_init_0 : decode cX4_init 0 = .ok (.aload_n 0, 1) := by decide +kernel
theorem dX4_init_1 : decode cX4_init 1 = .ok (.invokespecial 1, 3) := by decide +kernel
theorem dX4_init_4 : decode cX4_init 4 = .ok (.return_, 1) := by decide +kernel
theorem dX5_init_0 : decode cX5_init 0 = .ok (.aload_n 0, 1) := by decide +kernel
theorem dX5_init_1 : decode cX5_init 1 = .ok (.invokespecial 3, 3) := by decide +kernel
theorem dX5_init_4 : decode cX5_init 4 = .ok (.aload_n 0, 1) := by decide +kernel
theorem dX5_init_5 : decode cX5_init 5 = .ok (.bipush 6, 2) := by decide +kernel
theorem dX5_init_7 : decode cX5_init 7 = .ok (.anewarray 9, 3) := by decide +kernel
theorem dX5_init_10 : decode cX5_init 10 = .ok (.putfield 11, 3) := by decide +kernel
theorem dX5_init_13 : decode cX5_init 13 = .ok (.aload_n 0, 1) := by decide +kernel
theorem dX5_init_14 : decode cX5_init 14 = .ok (.bipush 20, 2) := by decide +kernel
theorem dX5_init_16 : decode cX5_init 16 = .ok (.anewarray 17, 3) := by decide +kernel
theorem dX5_init_19 : decode cX5_init 19 = .ok (.putfield 19, 3) := by decide +kernel
theorem dX5_init_22 : decode cX5_init 22 = .ok (.aload_n 0, 1) := by decide +kernel
theorem dX5_init_23 : decode cX5_init 23 = .ok (.sipush 1000, 3) := by decide +kernel
theorem dX5_init_26 : decode cX5_init 26 = .ok (.newarray .int, 2) := by decide +kernel
theorem dX5_init_28 : decode cX5_init 28 = .ok (.putfield 23, 3) := by decide +kernel
theorem dX5_init_31 : decode cX5_init 31 = .ok (.aload_n 0, 1) := by decide +kernel
theorem dX5_init_32 : decode cX5_init 32 = .ok (.bipush 50, 2) := by decide +kernel
theorem dX5_init_34 : decode cX5_init 34 = .ok (.putfield 27, 3) := by decide +kernel
theorem dX5_init_37 : decode cX5_init 37 = .ok (.iconst 0, 1) := by decide +kernel
theorem dX5_init_38 : decode cX5_init 38 = .ok (.istore_n 1, 1) := by decide +kernel
theorem dX5_init_39 : decode cX5_init 39 = .ok (.iload_n 1, 1) := by decide +kernel
theorem dX5_init_40 : decode cX5_init 40 = .ok (.aload_n 0, 1) := by decide +kernel
theorem dX5_init_41 : decode cX5_init 41 = .ok (.getfield 11, 3) := by decide +kernel
theorem dX5_init_44 : decode cX5_init 44 = .ok (.arraylength, 1) := by decide +kernel
theorem dX5_init_45 : decode cX5_init 45 = .ok (.if_icmp .ge 22, 3) := by decide +kernel
theorem dX5_init_48 : decode cX5_init 48 = .ok (.aload_n 0, 1) := by decide +kernel
theorem dX5_init_49 : decode cX5_init 49 = .ok (.getfield 11, 3) := by decide +kernel
theorem dX5_init_52 : decode cX5_init 52 = .ok (.iload_n 1, 1) := by decide +kernel
theorem dX5_init_53 : decode cX5_init 53 = .ok (.new 9, 3) := by decide +kernel
theorem dX5_init_56 : decode cX5_init 56 = .ok (.dup, 1) := by decide +kernel
theorem dX5_init_57 : decode cX5_init 57 = .ok (.invokespecial 31, 3) := by decide +kernel
theorem dX5_init_60 : decode cX5_init 60 = .ok (.aastore, 1) := by decide +kernel
theorem dX5_init_61 : decode cX5_init 61 = .ok (.iinc 1 1, 3) := by decide +kernel
theorem dX5_init_64 : decode cX5_init 64 = .ok (.goto (-25), 3) := by decide +kernel
theorem dX5_init_67 : decode cX5_init 67 = .ok (.iconst 0, 1) := by decide +kernel
theorem dX5_init_68 : decode cX5_init 68 = .ok (.istore_n 1, 1) := by decide +kernel
theorem dX5_init_69 : decode cX5_init 69 = .ok (.iload_n 1, 1) := by decide +kernel
theorem dX5_init_70 : decode cX5_init 70 = .ok (.aload_n 0, 1) := by decide +kernel
theorem dX5_init_71 : decode cX5_init 71 = .ok (.getfield 19, 3) := by decide +kernel
theorem dX5_init_74 : decode cX5_init 74 = .ok (.arraylength, 1) := by decide +kernel
theorem dX5_init_75 : decode cX5_init 75 = .ok (.if_icmp .ge 22, 3) := by decide +kernel
theorem dX5_init_78 : decode cX5_init 78 = .ok (.aload_n 0, 1) := by decide +kernel
theorem dX5_init_79 : decode cX5_init 79 = .ok (.getfield 19, 3) := by decide +kernel
theorem dX5_init_82 : decode cX5_init 82 = .ok (.iload_n 1, 1) := by decide +kernel
theorem dX5_init_83 : decode cX5_init 83 = .ok (.new 17, 3) := by decide +kernel
theorem dX5_init_86 : decode cX5_init 86 = .ok (.dup, 1) := by decide +kernel
theorem dX5_init_87 : decode cX5_init 87 = .ok (.invokespecial 32, 3) := by decide +kernel
theorem dX5_init_90 : decode cX5_init 90 = .ok (.aastore, 1) := by decide +kernel
theorem dX5_init_91 : decode cX5_init 91 = .ok (.iinc 1 1, 3) := by decide +kernel
theorem dX5_init_94 : decode cX5_init 94 = .ok (.goto (-25), 3) := by decide +kernel
theorem dX5_init_97 : decode cX5_init 97 = .ok (.return_, 1) := by decide +kernel
theorem dX5_begin_0 : decode cX5_begin 0 = .ok (.aload_n 0, 1) := by decide +kernel
theorem dX5_begin_1 : decode cX5_begin 1 = .ok (.iconst 0, 1) := by decide +kernel
theorem dX5_begin_2 : decode cX5_begin 2 = .ok (.putfield 33, 3) := by decide +kernel
theorem dX5_begin_5 : decode cX5_begin 5 = .ok (.aload_n 0, 1) := by decide +kernel
theorem dX5_begin_6 : decode cX5_begin 6 = .ok (.iconst 0, 1) := by decide +kernel
theorem dX5_begin_7 : decode cX5_begin 7 = .ok (.putfield 36, 3) := by decide +kernel
theorem dX5_begin_10 : decode cX5_begin 10 = .ok (.aload_n 0, 1) := by decide +kernel
theorem dX5_begin_11 : decode cX5_begin 11 = .ok (.bipush 50, 2) := by decide +kernel
theorem dX5_begin_13 : decode cX5_begin 13 = .ok (.putfield 27, 3) := by decide +kernel
theorem dX5_begin_16 : decode cX5_begin 16 = .ok (.return_, 1) := by decide +kernel
theorem dX5_addTurn_0 : decode cX5_addTurn 0 = .ok (.aload_n 0, 1) := by decide +kernel
theorem dX5_addTurn_1 : decode cX5_addTurn 1 = .ok (.getfield 33, 3) := by decide +kernel
theorem dX5_addTurn_4 : decode cX5_addTurn 4 = .ok (.aload_n 0, 1) := by decide +kernel
theorem dX5_addTurn_5 : decode cX5_addTurn 5 = .ok (.getfield 11, 3) := by decide +kernel
theorem dX5_addTurn_8 : decode cX5_addTurn 8 = .ok (.arraylength, 1) := by decide +kernel
theorem dX5_addTurn_9 : decode cX5_addTurn 9 = .ok (.if_icmp .lt 4, 3) := by decide +kernel
theorem dX5_addTurn_12 : decode cX5_addTurn 12 = .ok (.return_, 1) := by decide +kernel
theorem dX5_addTurn_13 : decode cX5_addTurn 13 = .ok (.aload_n 0, 1) := by decide +kernel
theorem dX5_addTurn_14 : decode cX5_addTurn 14 = .ok (.getfield 11, 3) := by decide +kernel
theorem dX5_addTurn_17 : decode cX5_addTurn 17 = .ok (.aload_n 0, 1) := by decide +kernel
theorem dX5_addTurn_18 : decode cX5_addTurn 18 = .ok (.getfield 33, 3) := by decide +kernel
theorem dX5_addTurn_21 : decode cX5_addTurn 21 = .ok (.aaload, 1) := by decide +kernel
theorem dX5_addTurn_22 : decode cX5_addTurn 22 = .ok (.astore 5, 2) := by decide +kernel
theorem dX5_addTurn_24 : decode cX5_addTurn 24 = .ok (.aload 5, 2) := by decide +kernel
theorem dX5_addTurn_26 : decode cX5_addTurn 26 = .ok (.iload_n 1, 1) := by decide +kernel
theorem dX5_addTurn_27 : decode cX5_addTurn 27 = .ok (.putfield 39, 3) := by decide +kernel
theorem dX5_addTurn_30 : decode cX5_addTurn 30 = .ok (.aload 5, 2) := by decide +kernel
theorem dX5_addTurn_32 : decode cX5_addTurn 32 = .ok (.iload_n 2, 1) := by decide +kernel
theorem dX5_addTurn_33 : decode cX5_addTurn 33 = .ok (.putfield 42, 3) := by decide +kernel
theorem dX5_addTurn_36 : decode cX5_addTurn 36 = .ok (.aload 5, 2) := by decide +kernel
theorem dX5_addTurn_38 : decode cX5_addTurn 38 = .ok (.iload_n 3, 1) := by decide +kernel
theorem dX5_addTurn_39 : decode cX5_addTurn 39 = .ok (.putfield 45, 3) := by decide +kernel
theorem dX5_addTurn_42 : decode cX5_addTurn 42 = .ok (.aload 5, 2) := by decide +kernel
theorem dX5_addTurn_44 : decode cX5_addTurn 44 = .ok (.iload 4, 2) := by decide +kernel
theorem dX5_addTurn_46 : decode cX5_addTurn 46 = .ok (.putfield 48, 3) := by decide +kernel
theorem dX5_addTurn_49 : decode cX5_addTurn 49 = .ok (.aload_n 0, 1) := by decide +kernel
theorem dX5_addTurn_50 : decode cX5_addTurn 50 = .ok (.dup, 1) := by decide +kernel
theorem dX5_addTurn_51 : decode cX5_addTurn 51 = .ok (.getfield 33, 3) := by decide +kernel
theorem dX5_addTurn_54 : decode cX5_addTurn 54 = .ok (.iconst 1, 1) := by decide +kernel
theorem dX5_addTurn_55 : decode cX5_addTurn 55 = .ok (.iadd, 1) := by decide +kernel
theorem dX5_addTurn_56 : decode cX5_addTurn 56 = .ok (.putfield 33, 3) := by decide +kernel
theorem dX5_addTurn_59 : decode cX5_addTurn 59 = .ok (.return_, 1) := by decide +kernel
theorem dX5_addSurge_0 : decode cX5_addSurge 0 = .ok (.aload_n 0, 1) := by decide +kernel
theorem dX5_addSurge_1 : decode cX5_addSurge 1 = .ok (.getfield 36, 3) := by decide +kernel
theorem dX5_addSurge_4 : decode cX5_addSurge 4 = .ok (.aload_n 0, 1) := by decide +kernel
theorem dX5_addSurge_5 : decode cX5_addSurge 5 = .ok (.getfield 19, 3) := by decide +kernel
theorem dX5_addSurge_8 : decode cX5_addSurge 8 = .ok (.arraylength, 1) := by decide +kernel
theorem dX5_addSurge_9 : decode cX5_addSurge 9 = .ok (.if_icmp .lt 4, 3) := by decide +kernel
theorem dX5_addSurge_12 : decode cX5_addSurge 12 = .ok (.return_, 1) := by decide +kernel
theorem dX5_addSurge_13 : decode cX5_addSurge 13 = .ok (.aload_n 0, 1) := by decide +kernel
theorem dX5_addSurge_14 : decode cX5_addSurge 14 = .ok (.getfield 19, 3) := by decide +kernel
theorem dX5_addSurge_17 : decode cX5_addSurge 17 = .ok (.aload_n 0, 1) := by decide +kernel
theorem dX5_addSurge_18 : decode cX5_addSurge 18 = .ok (.getfield 36, 3) := by decide +kernel
theorem dX5_addSurge_21 : decode cX5_addSurge 21 = .ok (.aaload, 1) := by decide +kernel
theorem dX5_addSurge_22 : decode cX5_addSurge 22 = .ok (.astore 4, 2) := by decide +kernel
theorem dX5_addSurge_24 : decode cX5_addSurge 24 = .ok (.aload 4, 2) := by decide +kernel
theorem dX5_addSurge_26 : decode cX5_addSurge 26 = .ok (.iload_n 1, 1) := by decide +kernel
theorem dX5_addSurge_27 : decode cX5_addSurge 27 = .ok (.putfield 51, 3) := by decide +kernel
theorem dX5_addSurge_30 : decode cX5_addSurge 30 = .ok (.aload 4, 2) := by decide +kernel
theorem dX5_addSurge_32 : decode cX5_addSurge 32 = .ok (.iload_n 2, 1) := by decide +kernel
theorem dX5_addSurge_33 : decode cX5_addSurge 33 = .ok (.putfield 54, 3) := by decide +kernel
theorem dX5_addSurge_36 : decode cX5_addSurge 36 = .ok (.aload 4, 2) := by decide +kernel
theorem dX5_addSurge_38 : decode cX5_addSurge 38 = .ok (.iload_n 3, 1) := by decide +kernel
theorem dX5_addSurge_39 : decode cX5_addSurge 39 = .ok (.putfield 57, 3) := by decide +kernel
theorem dX5_addSurge_42 : decode cX5_addSurge 42 = .ok (.aload_n 0, 1) := by decide +kernel
theorem dX5_addSurge_43 : decode cX5_addSurge 43 = .ok (.dup, 1) := by decide +kernel
theorem dX5_addSurge_44 : decode cX5_addSurge 44 = .ok (.getfield 36, 3) := by decide +kernel
theorem dX5_addSurge_47 : decode cX5_addSurge 47 = .ok (.iconst 1, 1) := by decide +kernel
theorem dX5_addSurge_48 : decode cX5_addSurge 48 = .ok (.iadd, 1) := by decide +kernel
theorem dX5_addSurge_49 : decode cX5_addSurge 49 = .ok (.putfield 36, 3) := by decide +kernel
theorem dX5_addSurge_52 : decode cX5_addSurge 52 = .ok (.return_, 1) := by decide +kernel
theorem dX5_foretold_0 : decode cX5_foretold 0 = .ok (.aload_n 0, 1) := by decide +kernel
theorem dX5_foretold_1 : decode cX5_foretold 1 = .ok (.getfield 27, 3) := by decide +kernel
theorem dX5_foretold_4 : decode cX5_foretold 4 = .ok (.istore_n 2, 1) := by decide +kernel
theorem dX5_foretold_5 : decode cX5_foretold 5 = .ok (.iconst 0, 1) := by decide +kernel
theorem dX5_foretold_6 : decode cX5_foretold 6 = .ok (.istore_n 3, 1) := by decide +kernel
theorem dX5_foretold_7 : decode cX5_foretold 7 = .ok (.iload_n 3, 1) := by decide +kernel
theorem dX5_foretold_8 : decode cX5_foretold 8 = .ok (.aload_n 0, 1) := by decide +kernel
theorem dX5_foretold_9 : decode cX5_foretold 9 = .ok (.getfield 33, 3) := by decide +kernel
theorem dX5_foretold_12 : decode cX5_foretold 12 = .ok (.if_icmp .ge 22, 3) := by decide +kernel
theorem dX5_foretold_15 : decode cX5_foretold 15 = .ok (.iload_n 2, 1) := by decide +kernel
theorem dX5_foretold_16 : decode cX5_foretold 16 = .ok (.aload_n 0, 1) := by decide +kernel
theorem dX5_foretold_17 : decode cX5_foretold 17 = .ok (.getfield 11, 3) := by decide +kernel
theorem dX5_foretold_20 : decode cX5_foretold 20 = .ok (.iload_n 3, 1) := by decide +kernel
theorem dX5_foretold_21 : decode cX5_foretold 21 = .ok (.aaload, 1) := by decide +kernel
theorem dX5_foretold_22 : decode cX5_foretold 22 = .ok (.iload_n 1, 1) := by decide +kernel
theorem dX5_foretold_23 : decode cX5_foretold 23 = .ok (.invokevirtual 60, 3) := by decide +kernel
theorem dX5_foretold_26 : decode cX5_foretold 26 = .ok (.iadd, 1) := by decide +kernel
theorem dX5_foretold_27 : decode cX5_foretold 27 = .ok (.istore_n 2, 1) := by decide +kernel
theorem dX5_foretold_28 : decode cX5_foretold 28 = .ok (.iinc 3 1, 3) := by decide +kernel
theorem dX5_foretold_31 : decode cX5_foretold 31 = .ok (.goto (-24), 3) := by decide +kernel
theorem dX5_foretold_34 : decode cX5_foretold 34 = .ok (.iconst 0, 1) := by decide +kernel
theorem dX5_foretold_35 : decode cX5_foretold 35 = .ok (.istore_n 3, 1) := by decide +kernel
theorem dX5_foretold_36 : decode cX5_foretold 36 = .ok (.iload_n 3, 1) := by decide +kernel
theorem dX5_foretold_37 : decode cX5_foretold 37 = .ok (.aload_n 0, 1) := by decide +kernel
theorem dX5_foretold_38 : decode cX5_foretold 38 = .ok (.getfield 36, 3) := by decide +kernel
theorem dX5_foretold_41 : decode cX5_foretold 41 = .ok (.if_icmp .ge 47, 3) := by decide +kernel
theorem dX5_foretold_44 : decode cX5_foretold 44 = .ok (.aload_n 0, 1) := by decide +kernel
theorem dX5_foretold_45 : decode cX5_foretold 45 = .ok (.getfield 19, 3) := by decide +kernel
theorem dX5_foretold_48 : decode cX5_foretold 48 = .ok (.iload_n 3, 1) := by decide +kernel
theorem dX5_foretold_49 : decode cX5_foretold 49 = .ok (.aaload, 1) := by decide +kernel
theorem dX5_foretold_50 : decode cX5_foretold 50 = .ok (.getfield 51, 3) := by decide +kernel
theorem dX5_foretold_53 : decode cX5_foretold 53 = .ok (.iload_n 1, 1) := by decide +kernel
theorem dX5_foretold_54 : decode cX5_foretold 54 = .ok (.if_icmp .gt 28, 3) := by decide +kernel
theorem dX5_foretold_57 : decode cX5_foretold 57 = .ok (.iload_n 1, 1) := by decide +kernel
theorem dX5_foretold_58 : decode cX5_foretold 58 = .ok (.aload_n 0, 1) := by decide +kernel
theorem dX5_foretold_59 : decode cX5_foretold 59 = .ok (.getfield 19, 3) := by decide +kernel
theorem dX5_foretold_62 : decode cX5_foretold 62 = .ok (.iload_n 3, 1) := by decide +kernel
theorem dX5_foretold_63 : decode cX5_foretold 63 = .ok (.aaload, 1) := by decide +kernel
theorem dX5_foretold_64 : decode cX5_foretold 64 = .ok (.getfield 54, 3) := by decide +kernel
theorem dX5_foretold_67 : decode cX5_foretold 67 = .ok (.if_icmp .gt 15, 3) := by decide +kernel
theorem dX5_foretold_70 : decode cX5_foretold 70 = .ok (.iload_n 2, 1) := by decide +kernel
theorem dX5_foretold_71 : decode cX5_foretold 71 = .ok (.aload_n 0, 1) := by decide +kernel
theorem dX5_foretold_72 : decode cX5_foretold 72 = .ok (.getfield 19, 3) := by decide +kernel
theorem dX5_foretold_75 : decode cX5_foretold 75 = .ok (.iload_n 3, 1) := by decide +kernel
theorem dX5_foretold_76 : decode cX5_foretold 76 = .ok (.aaload, 1) := by decide +kernel
theorem dX5_foretold_77 : decode cX5_foretold 77 = .ok (.getfield 57, 3) := by decide +kernel
theorem dX5_foretold_80 : decode cX5_foretold 80 = .ok (.iadd, 1) := by decide +kernel
theorem dX5_foretold_81 : decode cX5_foretold 81 = .ok (.istore_n 2, 1) := by decide +kernel
theorem dX5_foretold_82 : decode cX5_foretold 82 = .ok (.iinc 3 1, 3) := by decide +kernel
theorem dX5_foretold_85 : decode cX5_foretold 85 = .ok (.goto (-49), 3) := by decide +kernel
theorem dX5_foretold_88 : decode cX5_foretold 88 = .ok (.iload_n 2, 1) := by decide +kernel
theorem dX5_foretold_89 : decode cX5_foretold 89 = .ok (.ireturn, 1) := by decide +kernel
theorem dX5_foretoldAbove_0 : decode cX5_foretoldAbove 0 = .ok (.iload_n 2, 1) := by decide +kernel
theorem dX5_foretoldAbove_1 : decode cX5_foretoldAbove 1 = .ok (.istore 4, 2) := by decide +kernel
theorem dX5_foretoldAbove_3 : decode cX5_foretoldAbove 3 = .ok (.iload 4, 2) := by decide +kernel
theorem dX5_foretoldAbove_5 : decode cX5_foretoldAbove 5 = .ok (.iload_n 3, 1) := by decide +kernel
theorem dX5_foretoldAbove_6 : decode cX5_foretoldAbove 6 = .ok (.if_icmp .gt 21, 3) := by decide +kernel
theorem dX5_foretoldAbove_9 : decode cX5_foretoldAbove 9 = .ok (.aload_n 0, 1) := by decide +kernel
theorem dX5_foretoldAbove_10 : decode cX5_foretoldAbove 10 = .ok (.iload 4, 2) := by decide +kernel
theorem dX5_foretoldAbove_12 : decode cX5_foretoldAbove 12 = .ok (.invokevirtual 63, 3) := by decide +kernel
theorem dX5_foretoldAbove_15 : decode cX5_foretoldAbove 15 = .ok (.iload_n 1, 1) := by decide +kernel
theorem dX5_foretoldAbove_16 : decode cX5_foretoldAbove 16 = .ok (.if_icmp .le 5, 3) := by decide +kernel
theorem dX5_foretoldAbove_19 : decode cX5_foretoldAbove 19 = .ok (.iconst 1, 1) := by decide +kernel
theorem dX5_foretoldAbove_20 : decode cX5_foretoldAbove 20 = .ok (.ireturn, 1) := by decide +kernel
theorem dX5_foretoldAbove_21 : decode cX5_foretoldAbove 21 = .ok (.iinc 4 1, 3) := by decide +kernel
theorem dX5_foretoldAbove_24 : decode cX5_foretoldAbove 24 = .ok (.goto (-21), 3) := by decide +kernel
theorem dX5_foretoldAbove_27 : decode cX5_foretoldAbove 27 = .ok (.iconst 0, 1) := by decide +kernel
theorem dX5_foretoldAbove_28 : decode cX5_foretoldAbove 28 = .ok (.ireturn, 1) := by decide +kernel
theorem dX5_keep_0 : decode cX5_keep 0 = .ok (.iload_n 1, 1) := by decide +kernel
theorem dX5_keep_1 : decode cX5_keep 1 = .ok (.ifCond .lt 19, 3) := by decide +kernel
theorem dX5_keep_4 : decode cX5_keep 4 = .ok (.iload_n 1, 1) := by decide +kernel
theorem dX5_keep_5 : decode cX5_keep 5 = .ok (.aload_n 0, 1) := by decide +kernel
theorem dX5_keep_6 : decode cX5_keep 6 = .ok (.getfield 23, 3) := by decide +kernel
theorem dX5_keep_9 : decode cX5_keep 9 = .ok (.arraylength, 1) := by decide +kernel
theorem dX5_keep_10 : decode cX5_keep 10 = .ok (.if_icmp .ge 10, 3) := by decide +kernel
theorem dX5_keep_13 : decode cX5_keep 13 = .ok (.aload_n 0, 1) := by decide +kernel
theorem dX5_keep_14 : decode cX5_keep 14 = .ok (.getfield 23, 3) := by decide +kernel
theorem dX5_keep_17 : decode cX5_keep 17 = .ok (.iload_n 1, 1) := by decide +kernel
theorem dX5_keep_18 : decode cX5_keep 18 = .ok (.iload_n 2, 1) := by decide +kernel
theorem dX5_keep_19 : decode cX5_keep 19 = .ok (.iastore, 1) := by decide +kernel
theorem dX5_keep_20 : decode cX5_keep 20 = .ok (.return_, 1) := by decide +kernel
theorem dX6_init_0 : decode cX6_init 0 = .ok (.aload_n 0, 1) := by decide +kernel
theorem dX6_init_1 : decode cX6_init 1 = .ok (.invokespecial 3, 3) := by decide +kernel
theorem dX6_init_4 : decode cX6_init 4 = .ok (.aload_n 0, 1) := by decide +kernel
theorem dX6_init_5 : decode cX6_init 5 = .ok (.new 9, 3) := by decide +kernel
theorem dX6_init_8 : decode cX6_init 8 = .ok (.dup, 1) := by decide +kernel
theorem dX6_init_9 : decode cX6_init 9 = .ok (.invokespecial 11, 3) := by decide +kernel
theorem dX6_init_12 : decode cX6_init 12 = .ok (.putfield 12, 3) := by decide +kernel
theorem dX6_init_15 : decode cX6_init 15 = .ok (.aload_n 0, 1) := by decide +kernel
theorem dX6_init_16 : decode cX6_init 16 = .ok (.new 9, 3) := by decide +kernel
theorem dX6_init_19 : decode cX6_init 19 = .ok (.dup, 1) := by decide +kernel
theorem dX6_init_20 : decode cX6_init 20 = .ok (.invokespecial 11, 3) := by decide +kernel
theorem dX6_init_23 : decode cX6_init 23 = .ok (.putfield 18, 3) := by decide +kernel
theorem dX6_init_26 : decode cX6_init 26 = .ok (.aload_n 0, 1) := by decide +kernel
theorem dX6_init_27 : decode cX6_init 27 = .ok (.bipush 24, 2) := by decide +kernel
theorem dX6_init_29 : decode cX6_init 29 = .ok (.newarray .int, 2) := by decide +kernel
theorem dX6_init_31 : decode cX6_init 31 = .ok (.putfield 21, 3) := by decide +kernel
theorem dX6_init_34 : decode cX6_init 34 = .ok (.aload_n 0, 1) := by decide +kernel
theorem dX6_init_35 : decode cX6_init 35 = .ok (.iconst 1, 1) := by decide +kernel
theorem dX6_init_36 : decode cX6_init 36 = .ok (.putfield 25, 3) := by decide +kernel
theorem dX6_init_39 : decode cX6_init 39 = .ok (.return_, 1) := by decide +kernel
theorem dX6_begin_0 : decode cX6_begin 0 = .ok (.aload_n 0, 1) := by decide +kernel
theorem dX6_begin_1 : decode cX6_begin 1 = .ok (.iload_n 1, 1) := by decide +kernel
theorem dX6_begin_2 : decode cX6_begin 2 = .ok (.putfield 25, 3) := by decide +kernel
theorem dX6_begin_5 : decode cX6_begin 5 = .ok (.aload_n 0, 1) := by decide +kernel
theorem dX6_begin_6 : decode cX6_begin 6 = .ok (.iload 4, 2) := by decide +kernel
theorem dX6_begin_8 : decode cX6_begin 8 = .ok (.putfield 29, 3) := by decide +kernel
theorem dX6_begin_11 : decode cX6_begin 11 = .ok (.aload_n 0, 1) := by decide +kernel
theorem dX6_begin_12 : decode cX6_begin 12 = .ok (.getfield 12, 3) := by decide +kernel
theorem dX6_begin_15 : decode cX6_begin 15 = .ok (.iload_n 2, 1) := by decide +kernel
theorem dX6_begin_16 : decode cX6_begin 16 = .ok (.invokevirtual 32, 3) := by decide +kernel
theorem dX6_begin_19 : decode cX6_begin 19 = .ok (.aload_n 0, 1) := by decide +kernel
theorem dX6_begin_20 : decode cX6_begin 20 = .ok (.getfield 18, 3) := by decide +kernel
theorem dX6_begin_23 : decode cX6_begin 23 = .ok (.iload_n 3, 1) := by decide +kernel
theorem dX6_begin_24 : decode cX6_begin 24 = .ok (.invokevirtual 32, 3) := by decide +kernel
theorem dX6_begin_27 : decode cX6_begin 27 = .ok (.aload_n 0, 1) := by decide +kernel
theorem dX6_begin_28 : decode cX6_begin 28 = .ok (.iconst 0, 1) := by decide +kernel
theorem dX6_begin_29 : decode cX6_begin 29 = .ok (.putfield 36, 3) := by decide +kernel
theorem dX6_begin_32 : decode cX6_begin 32 = .ok (.aload_n 0, 1) := by decide +kernel
theorem dX6_begin_33 : decode cX6_begin 33 = .ok (.iconst 0, 1) := by decide +kernel
theorem dX6_begin_34 : decode cX6_begin 34 = .ok (.putfield 39, 3) := by decide +kernel
theorem dX6_begin_37 : decode cX6_begin 37 = .ok (.aload_n 0, 1) := by decide +kernel
theorem dX6_begin_38 : decode cX6_begin 38 = .ok (.iconst 0, 1) := by decide +kernel
theorem dX6_begin_39 : decode cX6_begin 39 = .ok (.putfield 42, 3) := by decide +kernel
theorem dX6_begin_42 : decode cX6_begin 42 = .ok (.return_, 1) := by decide +kernel
theorem dX6_bed_0 : decode cX6_bed 0 = .ok (.aload_n 0, 1) := by decide +kernel
theorem dX6_bed_1 : decode cX6_bed 1 = .ok (.getfield 25, 3) := by decide +kernel
theorem dX6_bed_4 : decode cX6_bed 4 = .ok (.ifCond .gt 7, 3) := by decide +kernel
theorem dX6_bed_7 : decode cX6_bed 7 = .ok (.iconst 0, 1) := by decide +kernel
theorem dX6_bed_8 : decode cX6_bed 8 = .ok (.goto 12, 3) := by decide +kernel
theorem dX6_bed_11 : decode cX6_bed 11 = .ok (.aload_n 0, 1) := by decide +kernel
theorem dX6_bed_12 : decode cX6_bed 12 = .ok (.getfield 29, 3) := by decide +kernel
theorem dX6_bed_15 : decode cX6_bed 15 = .ok (.aload_n 0, 1) := by decide +kernel
theorem dX6_bed_16 : decode cX6_bed 16 = .ok (.getfield 25, 3) := by decide +kernel
theorem dX6_bed_19 : decode cX6_bed 19 = .ok (.idiv, 1) := by decide +kernel
theorem dX6_bed_20 : decode cX6_bed 20 = .ok (.ireturn, 1) := by decide +kernel
theorem dX6_level_0 : decode cX6_level 0 = .ok (.aload_n 0, 1) := by decide +kernel
theorem dX6_level_1 : decode cX6_level 1 = .ok (.getfield 25, 3) := by decide +kernel
theorem dX6_level_4 : decode cX6_level 4 = .ok (.ifCond .gt 7, 3) := by decide +kernel
theorem dX6_level_7 : decode cX6_level 7 = .ok (.iconst 0, 1) := by decide +kernel
theorem dX6_level_8 : decode cX6_level 8 = .ok (.goto 28, 3) := by decide +kernel
theorem dX6_level_11 : decode cX6_level 11 = .ok (.aload_n 0, 1) := by decide +kernel
theorem dX6_level_12 : decode cX6_level 12 = .ok (.invokevirtual 45, 3) := by decide +kernel
theorem dX6_level_15 : decode cX6_level 15 = .ok (.aload_n 0, 1) := by decide +kernel
theorem dX6_level_16 : decode cX6_level 16 = .ok (.getfield 12, 3) := by decide +kernel
theorem dX6_level_19 : decode cX6_level 19 = .ok (.getfield 49, 3) := by decide +kernel
theorem dX6_level_22 : decode cX6_level 22 = .ok (.aload_n 0, 1) := by decide +kernel
theorem dX6_level_23 : decode cX6_level 23 = .ok (.getfield 18, 3) := by decide +kernel
theorem dX6_level_26 : decode cX6_level 26 = .ok (.getfield 49, 3) := by decide +kernel
theorem dX6_level_29 : decode cX6_level 29 = .ok (.iadd, 1) := by decide +kernel
theorem dX6_level_30 : decode cX6_level 30 = .ok (.aload_n 0, 1) := by decide +kernel
theorem dX6_level_31 : decode cX6_level 31 = .ok (.getfield 25, 3) := by decide +kernel
theorem dX6_level_34 : decode cX6_level 34 = .ok (.idiv, 1) := by decide +kernel
theorem dX6_level_35 : decode cX6_level 35 = .ok (.iadd, 1) := by decide +kernel
theorem dX6_level_36 : decode cX6_level 36 = .ok (.ireturn, 1) := by decide +kernel
theorem dX6_giveCloud_0 : decode cX6_giveCloud 0 = .ok (.iload_n 1, 1) := by decide +kernel
theorem dX6_giveCloud_1 : decode cX6_giveCloud 1 = .ok (.aload_n 0, 1) := by decide +kernel
theorem dX6_giveCloud_2 : decode cX6_giveCloud 2 = .ok (.getfield 36, 3) := by decide +kernel
theorem dX6_giveCloud_5 : decode cX6_giveCloud 5 = .ok (.aload_n 0, 1) := by decide +kernel
theorem dX6_giveCloud_6 : decode cX6_giveCloud 6 = .ok (.getfield 12, 3) := by decide +kernel
theorem dX6_giveCloud_9 : decode cX6_giveCloud 9 = .ok (.getfield 49, 3) := by decide +kernel
theorem dX6_giveCloud_12 : decode cX6_giveCloud 12 = .ok (.invokestatic 52, 3) := by decide +kernel
theorem dX6_giveCloud_15 : decode cX6_giveCloud 15 = .ok (.istore_n 2, 1) := by decide +kernel
theorem dX6_giveCloud_16 : decode cX6_giveCloud 16 = .ok (.aload_n 0, 1) := by decide +kernel
theorem dX6_giveCloud_17 : decode cX6_giveCloud 17 = .ok (.dup, 1) := by decide +kernel
theorem dX6_giveCloud_18 : decode cX6_giveCloud 18 = .ok (.getfield 36, 3) := by decide +kernel
theorem dX6_giveCloud_21 : decode cX6_giveCloud 21 = .ok (.iload_n 2, 1) := by decide +kernel
theorem dX6_giveCloud_22 : decode cX6_giveCloud 22 = .ok (.isub, 1) := by decide +kernel
theorem dX6_giveCloud_23 : decode cX6_giveCloud 23 = .ok (.putfield 36, 3) := by decide +kernel
theorem dX6_giveCloud_26 : decode cX6_giveCloud 26 = .ok (.iload_n 2, 1) := by decide +kernel
theorem dX6_giveCloud_27 : decode cX6_giveCloud 27 = .ok (.ireturn, 1) := by decide +kernel
theorem dX6_refusal_0 : decode cX6_refusal 0 = .ok (.aload_n 0, 1) := by decide +kernel
theorem dX6_refusal_1 : decode cX6_refusal 1 = .ok (.getfield 42, 3) := by decide +kernel
theorem dX6_refusal_4 : decode cX6_refusal 4 = .ok (.ifCond .ne 5, 3) := by decide +kernel
theorem dX6_refusal_7 : decode cX6_refusal 7 = .ok (.iconst 1, 1) := by decide +kernel
theorem dX6_refusal_8 : decode cX6_refusal 8 = .ok (.ireturn, 1) := by decide +kernel
theorem dX6_refusal_9 : decode cX6_refusal 9 = .ok (.iload_n 1, 1) := by decide +kernel
theorem dX6_refusal_10 : decode cX6_refusal 10 = .ok (.aload_n 0, 1) := by decide +kernel
theorem dX6_refusal_11 : decode cX6_refusal 11 = .ok (.getfield 42, 3) := by decide +kernel
theorem dX6_refusal_14 : decode cX6_refusal 14 = .ok (.if_icmp .le 5, 3) := by decide +kernel
theorem dX6_refusal_17 : decode cX6_refusal 17 = .ok (.iconst 2, 1) := by decide +kernel
theorem dX6_refusal_18 : decode cX6_refusal 18 = .ok (.ireturn, 1) := by decide +kernel
theorem dX6_refusal_19 : decode cX6_refusal 19 = .ok (.aload_n 0, 1) := by decide +kernel
theorem dX6_refusal_20 : decode cX6_refusal 20 = .ok (.getfield 29, 3) := by decide +kernel
theorem dX6_refusal_23 : decode cX6_refusal 23 = .ok (.iload_n 1, 1) := by decide +kernel
theorem dX6_refusal_24 : decode cX6_refusal 24 = .ok (.if_icmp .ge 7, 3) := by decide +kernel
theorem dX6_refusal_27 : decode cX6_refusal 27 = .ok (.iconst 3, 1) := by decide +kernel
theorem dX6_refusal_28 : decode cX6_refusal 28 = .ok (.goto 4, 3) := by decide +kernel
theorem dX6_refusal_31 : decode cX6_refusal 31 = .ok (.iconst 0, 1) := by decide +kernel
theorem dX6_refusal_32 : decode cX6_refusal 32 = .ok (.ireturn, 1) := by decide +kernel
theorem dX6_mix_0 : decode cX6_mix 0 = .ok (.aload_n 0, 1) := by decide +kernel
theorem dX6_mix_1 : decode cX6_mix 1 = .ok (.getfield 39, 3) := by decide +kernel
theorem dX6_mix_4 : decode cX6_mix 4 = .ok (.bipush 20, 2) := by decide +kernel
theorem dX6_mix_6 : decode cX6_mix 6 = .ok (.if_icmp .ge 4, 3) := by decide +kernel
theorem dX6_mix_9 : decode cX6_mix 9 = .ok (.return_, 1) := by decide +kernel
theorem dX6_mix_10 : decode cX6_mix 10 = .ok (.aload_n 0, 1) := by decide +kernel
theorem dX6_mix_11 : decode cX6_mix 11 = .ok (.getfield 12, 3) := by decide +kernel
theorem dX6_mix_14 : decode cX6_mix 14 = .ok (.getfield 49, 3) := by decide +kernel
theorem dX6_mix_17 : decode cX6_mix 17 = .ok (.aload_n 0, 1) := by decide +kernel
theorem dX6_mix_18 : decode cX6_mix 18 = .ok (.getfield 18, 3) := by decide +kernel
theorem dX6_mix_21 : decode cX6_mix 21 = .ok (.getfield 49, 3) := by decide +kernel
theorem dX6_mix_24 : decode cX6_mix 24 = .ok (.invokestatic 56, 3) := by decide +kernel
theorem dX6_mix_27 : decode cX6_mix 27 = .ok (.iconst 4, 1) := by decide +kernel
theorem dX6_mix_28 : decode cX6_mix 28 = .ok (.idiv, 1) := by decide +kernel
theorem dX6_mix_29 : decode cX6_mix 29 = .ok (.istore_n 1, 1) := by decide +kernel
theorem dX6_mix_30 : decode cX6_mix 30 = .ok (.aload_n 0, 1) := by decide +kernel
theorem dX6_mix_31 : decode cX6_mix 31 = .ok (.getfield 18, 3) := by decide +kernel
theorem dX6_mix_34 : decode cX6_mix 34 = .ok (.iload_n 1, 1) := by decide +kernel
theorem dX6_mix_35 : decode cX6_mix 35 = .ok (.invokevirtual 62, 3) := by decide +kernel
theorem dX6_mix_38 : decode cX6_mix 38 = .ok (.aload_n 0, 1) := by decide +kernel
theorem dX6_mix_39 : decode cX6_mix 39 = .ok (.getfield 12, 3) := by decide +kernel
theorem dX6_mix_42 : decode cX6_mix 42 = .ok (.iload_n 1, 1) := by decide +kernel
theorem dX6_mix_43 : decode cX6_mix 43 = .ok (.invokevirtual 62, 3) := by decide +kernel
theorem dX6_mix_46 : decode cX6_mix 46 = .ok (.isub, 1) := by decide +kernel
theorem dX6_mix_47 : decode cX6_mix 47 = .ok (.istore_n 2, 1) := by decide +kernel
theorem dX6_mix_48 : decode cX6_mix 48 = .ok (.iload_n 2, 1) := by decide +kernel
theorem dX6_mix_49 : decode cX6_mix 49 = .ok (.ifCond .le 29, 3) := by decide +kernel
theorem dX6_mix_52 : decode cX6_mix 52 = .ok (.aload_n 0, 1) := by decide +kernel
theorem dX6_mix_53 : decode cX6_mix 53 = .ok (.getfield 18, 3) := by decide +kernel
theorem dX6_mix_56 : decode cX6_mix 56 = .ok (.dup, 1) := by decide +kernel
theorem dX6_mix_57 : decode cX6_mix 57 = .ok (.getfield 66, 3) := by decide +kernel
theorem dX6_mix_60 : decode cX6_mix 60 = .ok (.iload_n 2, 1) := by decide +kernel
theorem dX6_mix_61 : decode cX6_mix 61 = .ok (.isub, 1) := by decide +kernel
theorem dX6_mix_62 : decode cX6_mix 62 = .ok (.putfield 66, 3) := by decide +kernel
theorem dX6_mix_65 : decode cX6_mix 65 = .ok (.aload_n 0, 1) := by decide +kernel
theorem dX6_mix_66 : decode cX6_mix 66 = .ok (.getfield 12, 3) := by decide +kernel
theorem dX6_mix_69 : decode cX6_mix 69 = .ok (.dup, 1) := by decide +kernel
theorem dX6_mix_70 : decode cX6_mix 70 = .ok (.getfield 66, 3) := by decide +kernel
theorem dX6_mix_73 : decode cX6_mix 73 = .ok (.iload_n 2, 1) := by decide +kernel
theorem dX6_mix_74 : decode cX6_mix 74 = .ok (.iadd, 1) := by decide +kernel
theorem dX6_mix_75 : decode cX6_mix 75 = .ok (.putfield 66, 3) := by decide +kernel
theorem dX6_mix_78 : decode cX6_mix 78 = .ok (.return_, 1) := by decide +kernel
theorem dX6_settleOrLift_0 : decode cX6_settleOrLift 0 = .ok (.aload_n 0, 1) := by decide +kernel
theorem dX6_settleOrLift_1 : decode cX6_settleOrLift 1 = .ok (.getfield 39, 3) := by decide +kernel
theorem dX6_settleOrLift_4 : decode cX6_settleOrLift 4 = .ok (.bipush 10, 2) := by decide +kernel
theorem dX6_settleOrLift_6 : decode cX6_settleOrLift 6 = .ok (.if_icmp .ge 38, 3) := by decide +kernel
theorem dX6_settleOrLift_9 : decode cX6_settleOrLift 9 = .ok (.aload_n 0, 1) := by decide +kernel
theorem dX6_settleOrLift_10 : decode cX6_settleOrLift 10 = .ok (.getfield 36, 3) := by decide +kernel
theorem dX6_settleOrLift_13 : decode cX6_settleOrLift 13 = .ok (.aload_n 0, 1) := by decide +kernel
theorem dX6_settleOrLift_14 : decode cX6_settleOrLift 14 = .ok (.getfield 36, 3) := by decide +kernel
theorem dX6_settleOrLift_17 : decode cX6_settleOrLift 17 = .ok (.iconst 2, 1) := by decide +kernel
theorem dX6_settleOrLift_18 : decode cX6_settleOrLift 18 = .ok (.idiv, 1) := by decide +kernel
theorem dX6_settleOrLift_19 : decode cX6_settleOrLift 19 = .ok (.isub, 1) := by decide +kernel
theorem dX6_settleOrLift_20 : decode cX6_settleOrLift 20 = .ok (.istore_n 1, 1) := by decide +kernel
theorem dX6_settleOrLift_21 : decode cX6_settleOrLift 21 = .ok (.aload_n 0, 1) := by decide +kernel
theorem dX6_settleOrLift_22 : decode cX6_settleOrLift 22 = .ok (.dup, 1) := by decide +kernel
theorem dX6_settleOrLift_23 : decode cX6_settleOrLift 23 = .ok (.getfield 36, 3) := by decide +kernel
theorem dX6_settleOrLift_26 : decode cX6_settleOrLift 26 = .ok (.iload_n 1, 1) := by decide +kernel
theorem dX6_settleOrLift_27 : decode cX6_settleOrLift 27 = .ok (.isub, 1) := by decide +kernel
theorem dX6_settleOrLift_28 : decode cX6_settleOrLift 28 = .ok (.putfield 36, 3) := by decide +kernel
theorem dX6_settleOrLift_31 : decode cX6_settleOrLift 31 = .ok (.aload_n 0, 1) := by decide +kernel
theorem dX6_settleOrLift_32 : decode cX6_settleOrLift 32 = .ok (.dup, 1) := by decide +kernel
theorem dX6_settleOrLift_33 : decode cX6_settleOrLift 33 = .ok (.getfield 29, 3) := by decide +kernel
theorem dX6_settleOrLift_36 : decode cX6_settleOrLift 36 = .ok (.iload_n 1, 1) := by decide +kernel
theorem dX6_settleOrLift_37 : decode cX6_settleOrLift 37 = .ok (.iadd, 1) := by decide +kernel
theorem dX6_settleOrLift_38 : decode cX6_settleOrLift 38 = .ok (.putfield 29, 3) := by decide +kernel
theorem dX6_settleOrLift_41 : decode cX6_settleOrLift 41 = .ok (.goto 47, 3) := by decide +kernel
theorem dX6_settleOrLift_44 : decode cX6_settleOrLift 44 = .ok (.aload_n 0, 1) := by decide +kernel
theorem dX6_settleOrLift_45 : decode cX6_settleOrLift 45 = .ok (.getfield 39, 3) := by decide +kernel
theorem dX6_settleOrLift_48 : decode cX6_settleOrLift 48 = .ok (.bipush 40, 2) := by decide +kernel
theorem dX6_settleOrLift_50 : decode cX6_settleOrLift 50 = .ok (.if_icmp .le 38, 3) := by decide +kernel
theorem dX6_settleOrLift_53 : decode cX6_settleOrLift 53 = .ok (.aload_n 0, 1) := by decide +kernel
theorem dX6_settleOrLift_54 : decode cX6_settleOrLift 54 = .ok (.getfield 39, 3) := by decide +kernel
theorem dX6_settleOrLift_57 : decode cX6_settleOrLift 57 = .ok (.bipush 8, 2) := by decide +kernel
theorem dX6_settleOrLift_59 : decode cX6_settleOrLift 59 = .ok (.idiv, 1) := by decide +kernel
theorem dX6_settleOrLift_60 : decode cX6_settleOrLift 60 = .ok (.aload_n 0, 1) := by decide +kernel
theorem dX6_settleOrLift_61 : decode cX6_settleOrLift 61 = .ok (.getfield 29, 3) := by decide +kernel
theorem dX6_settleOrLift_64 : decode cX6_settleOrLift 64 = .ok (.invokestatic 56, 3) := by decide +kernel
theorem dX6_settleOrLift_67 : decode cX6_settleOrLift 67 = .ok (.istore_n 1, 1) := by decide +kernel
theorem dX6_settleOrLift_68 : decode cX6_settleOrLift 68 = .ok (.aload_n 0, 1) := by decide +kernel
theorem dX6_settleOrLift_69 : decode cX6_settleOrLift 69 = .ok (.dup, 1) := by decide +kernel
theorem dX6_settleOrLift_70 : decode cX6_settleOrLift 70 = .ok (.getfield 29, 3) := by decide +kernel
theorem dX6_settleOrLift_73 : decode cX6_settleOrLift 73 = .ok (.iload_n 1, 1) := by decide +kernel
theorem dX6_settleOrLift_74 : decode cX6_settleOrLift 74 = .ok (.isub, 1) := by decide +kernel
theorem dX6_settleOrLift_75 : decode cX6_settleOrLift 75 = .ok (.putfield 29, 3) := by decide +kernel
theorem dX6_settleOrLift_78 : decode cX6_settleOrLift 78 = .ok (.aload_n 0, 1) := by decide +kernel
theorem dX6_settleOrLift_79 : decode cX6_settleOrLift 79 = .ok (.dup, 1) := by decide +kernel
theorem dX6_settleOrLift_80 : decode cX6_settleOrLift 80 = .ok (.getfield 36, 3) := by decide +kernel
theorem dX6_settleOrLift_83 : decode cX6_settleOrLift 83 = .ok (.iload_n 1, 1) := by decide +kernel
theorem dX6_settleOrLift_84 : decode cX6_settleOrLift 84 = .ok (.iadd, 1) := by decide +kernel
theorem dX6_settleOrLift_85 : decode cX6_settleOrLift 85 = .ok (.putfield 36, 3) := by decide +kernel
theorem dX6_settleOrLift_88 : decode cX6_settleOrLift 88 = .ok (.return_, 1) := by decide +kernel
theorem dX6_endHour_0 : decode cX6_endHour 0 = .ok (.aload_n 0, 1) := by decide +kernel
theorem dX6_endHour_1 : decode cX6_endHour 1 = .ok (.getfield 21, 3) := by decide +kernel
theorem dX6_endHour_4 : decode cX6_endHour 4 = .ok (.iload_n 1, 1) := by decide +kernel
theorem dX6_endHour_5 : decode cX6_endHour 5 = .ok (.bipush 24, 2) := by decide +kernel
theorem dX6_endHour_7 : decode cX6_endHour 7 = .ok (.invokestatic 69, 3) := by decide +kernel
theorem dX6_endHour_10 : decode cX6_endHour 10 = .ok (.aload_n 0, 1) := by decide +kernel
theorem dX6_endHour_11 : decode cX6_endHour 11 = .ok (.getfield 18, 3) := by decide +kernel
theorem dX6_endHour_14 : decode cX6_endHour 14 = .ok (.invokevirtual 72, 3) := by decide +kernel
theorem dX6_endHour_17 : decode cX6_endHour 17 = .ok (.iastore, 1) := by decide +kernel
theorem dX6_endHour_18 : decode cX6_endHour 18 = .ok (.return_, 1) := by decide +kernel
theorem dX6_wasFresher_0 : decode cX6_wasFresher 0 = .ok (.iconst 0, 1) := by decide +kernel
theorem dX6_wasFresher_1 : decode cX6_wasFresher 1 = .ok (.iload_n 3, 1) := by decide +kernel
theorem dX6_wasFresher_2 : decode cX6_wasFresher 2 = .ok (.iload_n 2, 1) := by decide +kernel
theorem dX6_wasFresher_3 : decode cX6_wasFresher 3 = .ok (.isub, 1) := by decide +kernel
theorem dX6_wasFresher_4 : decode cX6_wasFresher 4 = .ok (.invokestatic 75, 3) := by decide +kernel
theorem dX6_wasFresher_7 : decode cX6_wasFresher 7 = .ok (.istore 4, 2) := by decide +kernel
theorem dX6_wasFresher_9 : decode cX6_wasFresher 9 = .ok (.iload 4, 2) := by decide +kernel
theorem dX6_wasFresher_11 : decode cX6_wasFresher 11 = .ok (.iload_n 3, 1) := by decide +kernel
theorem dX6_wasFresher_12 : decode cX6_wasFresher 12 = .ok (.if_icmp .ge 27, 3) := by decide +kernel
theorem dX6_wasFresher_15 : decode cX6_wasFresher 15 = .ok (.aload_n 0, 1) := by decide +kernel
theorem dX6_wasFresher_16 : decode cX6_wasFresher 16 = .ok (.getfield 21, 3) := by decide +kernel
theorem dX6_wasFresher_19 : decode cX6_wasFresher 19 = .ok (.iload 4, 2) := by decide +kernel
theorem dX6_wasFresher_21 : decode cX6_wasFresher 21 = .ok (.bipush 24, 2) := by decide +kernel
theorem dX6_wasFresher_23 : decode cX6_wasFresher 23 = .ok (.invokestatic 69, 3) := by decide +kernel
theorem dX6_wasFresher_26 : decode cX6_wasFresher 26 = .ok (.iaload, 1) := by decide +kernel
theorem dX6_wasFresher_27 : decode cX6_wasFresher 27 = .ok (.iload_n 1, 1) := by decide +kernel
theorem dX6_wasFresher_28 : decode cX6_wasFresher 28 = .ok (.if_icmp .ge 5, 3) := by decide +kernel
theorem dX6_wasFresher_31 : decode cX6_wasFresher 31 = .ok (.iconst 1, 1) := by decide +kernel
theorem dX6_wasFresher_32 : decode cX6_wasFresher 32 = .ok (.ireturn, 1) := by decide +kernel
theorem dX6_wasFresher_33 : decode cX6_wasFresher 33 = .ok (.iinc 4 1, 3) := by decide +kernel
theorem dX6_wasFresher_36 : decode cX6_wasFresher 36 = .ok (.goto (-27), 3) := by decide +kernel
theorem dX6_wasFresher_39 : decode cX6_wasFresher 39 = .ok (.iconst 0, 1) := by decide +kernel
theorem dX6_wasFresher_40 : decode cX6_wasFresher 40 = .ok (.ireturn, 1) := by decide +kernel
theorem dX6_answer_0 : decode cX6_answer 0 = .ok (.iload_n 1, 1) := by decide +kernel
theorem dX6_answer_1 : decode cX6_answer 1 = .ok (.tableswitch 114 0 8 #[51, 59, 67, 75, 83, 88, 93, 98, 106], 51) := by decide +kernel
theorem dX6_answer_52 : decode cX6_answer 52 = .ok (.aload_n 0, 1) := by decide +kernel
theorem dX6_answer_53 : decode cX6_answer 53 = .ok (.getfield 12, 3) := by decide +kernel
theorem dX6_answer_56 : decode cX6_answer 56 = .ok (.getfield 49, 3) := by decide +kernel
theorem dX6_answer_59 : decode cX6_answer 59 = .ok (.ireturn, 1) := by decide +kernel
theorem dX6_answer_60 : decode cX6_answer 60 = .ok (.aload_n 0, 1) := by decide +kernel
theorem dX6_answer_61 : decode cX6_answer 61 = .ok (.getfield 12, 3) := by decide +kernel
theorem dX6_answer_64 : decode cX6_answer 64 = .ok (.getfield 66, 3) := by decide +kernel
theorem dX6_answer_67 : decode cX6_answer 67 = .ok (.ireturn, 1) := by decide +kernel
theorem dX6_answer_68 : decode cX6_answer 68 = .ok (.aload_n 0, 1) := by decide +kernel
theorem dX6_answer_69 : decode cX6_answer 69 = .ok (.getfield 18, 3) := by decide +kernel
theorem dX6_answer_72 : decode cX6_answer 72 = .ok (.getfield 49, 3) := by decide +kernel
theorem dX6_answer_75 : decode cX6_answer 75 = .ok (.ireturn, 1) := by decide +kernel
theorem dX6_answer_76 : decode cX6_answer 76 = .ok (.aload_n 0, 1) := by decide +kernel
theorem dX6_answer_77 : decode cX6_answer 77 = .ok (.getfield 18, 3) := by decide +kernel
theorem dX6_answer_80 : decode cX6_answer 80 = .ok (.getfield 66, 3) := by decide +kernel
theorem dX6_answer_83 : decode cX6_answer 83 = .ok (.ireturn, 1) := by decide +kernel
theorem dX6_answer_84 : decode cX6_answer 84 = .ok (.aload_n 0, 1) := by decide +kernel
theorem dX6_answer_85 : decode cX6_answer 85 = .ok (.getfield 36, 3) := by decide +kernel
theorem dX6_answer_88 : decode cX6_answer 88 = .ok (.ireturn, 1) := by decide +kernel
theorem dX6_answer_89 : decode cX6_answer 89 = .ok (.aload_n 0, 1) := by decide +kernel
theorem dX6_answer_90 : decode cX6_answer 90 = .ok (.getfield 29, 3) := by decide +kernel
theorem dX6_answer_93 : decode cX6_answer 93 = .ok (.ireturn, 1) := by decide +kernel
theorem dX6_answer_94 : decode cX6_answer 94 = .ok (.aload_n 0, 1) := by decide +kernel
theorem dX6_answer_95 : decode cX6_answer 95 = .ok (.invokevirtual 78, 3) := by decide +kernel
theorem dX6_answer_98 : decode cX6_answer 98 = .ok (.ireturn, 1) := by decide +kernel
theorem dX6_answer_99 : decode cX6_answer 99 = .ok (.aload_n 0, 1) := by decide +kernel
theorem dX6_answer_100 : decode cX6_answer 100 = .ok (.getfield 12, 3) := by decide +kernel
theorem dX6_answer_103 : decode cX6_answer 103 = .ok (.invokevirtual 72, 3) := by decide +kernel
theorem dX6_answer_106 : decode cX6_answer 106 = .ok (.ireturn, 1) := by decide +kernel
theorem dX6_answer_107 : decode cX6_answer 107 = .ok (.aload_n 0, 1) := by decide +kernel
theorem dX6_answer_108 : decode cX6_answer 108 = .ok (.getfield 18, 3) := by decide +kernel
theorem dX6_answer_111 : decode cX6_answer 111 = .ok (.invokevirtual 72, 3) := by decide +kernel
theorem dX6_answer_114 : decode cX6_answer 114 = .ok (.ireturn, 1) := by decide +kernel
theorem dX6_answer_115 : decode cX6_answer 115 = .ok (.aload_n 0, 1) := by decide +kernel
theorem dX6_answer_116 : decode cX6_answer 116 = .ok (.getfield 39, 3) := by decide +kernel
theorem dX6_answer_119 : decode cX6_answer 119 = .ok (.ireturn, 1) := by decide +kernel
theorem dX7_init_0 : decode cX7_init 0 = .ok (.aload_n 0, 1) := by decide +kernel
theorem dX7_init_1 : decode cX7_init 1 = .ok (.invokespecial 1, 3) := by decide +kernel
theorem dX7_init_4 : decode cX7_init 4 = .ok (.return_, 1) := by decide +kernel
theorem dX8_init_0 : decode cX8_init 0 = .ok (.aload_n 0, 1) := by decide +kernel
theorem dX8_init_1 : decode cX8_init 1 = .ok (.invokespecial 3, 3) := by decide +kernel
theorem dX8_init_4 : decode cX8_init 4 = .ok (.aload_n 0, 1) := by decide +kernel
theorem dX8_init_5 : decode cX8_init 5 = .ok (.sipush 3584, 3) := by decide +kernel
theorem dX8_init_8 : decode cX8_init 8 = .ok (.newarray .int, 2) := by decide +kernel
theorem dX8_init_10 : decode cX8_init 10 = .ok (.putfield 11, 3) := by decide +kernel
theorem dX8_init_13 : decode cX8_init 13 = .ok (.return_, 1) := by decide +kernel
theorem dX8_keep_0 : decode cX8_keep 0 = .ok (.aload_n 0, 1) := by decide +kernel
theorem dX8_keep_1 : decode cX8_keep 1 = .ok (.getfield 15, 3) := by decide +kernel
theorem dX8_keep_4 : decode cX8_keep 4 = .ok (.sipush 512, 3) := by decide +kernel
theorem dX8_keep_7 : decode cX8_keep 7 = .ok (.if_icmp .lt 4, 3) := by decide +kernel
theorem dX8_keep_10 : decode cX8_keep 10 = .ok (.return_, 1) := by decide +kernel
theorem dX8_keep_11 : decode cX8_keep 11 = .ok (.aload_n 0, 1) := by decide +kernel
theorem dX8_keep_12 : decode cX8_keep 12 = .ok (.getfield 15, 3) := by decide +kernel
theorem dX8_keep_15 : decode cX8_keep 15 = .ok (.bipush 7, 2) := by decide +kernel
theorem dX8_keep_17 : decode cX8_keep 17 = .ok (.imul, 1) := by decide +kernel
theorem dX8_keep_18 : decode cX8_keep 18 = .ok (.istore 8, 2) := by decide +kernel
theorem dX8_keep_20 : decode cX8_keep 20 = .ok (.aload_n 0, 1) := by decide +kernel
theorem dX8_keep_21 : decode cX8_keep 21 = .ok (.getfield 11, 3) := by decide +kernel
theorem dX8_keep_24 : decode cX8_keep 24 = .ok (.iload 8, 2) := by decide +kernel
theorem dX8_keep_26 : decode cX8_keep 26 = .ok (.iconst 0, 1) := by decide +kernel
theorem dX8_keep_27 : decode cX8_keep 27 = .ok (.iadd, 1) := by decide +kernel
theorem dX8_keep_28 : decode cX8_keep 28 = .ok (.iload_n 1, 1) := by decide +kernel
theorem dX8_keep_29 : decode cX8_keep 29 = .ok (.iastore, 1) := by decide +kernel
theorem dX8_keep_30 : decode cX8_keep 30 = .ok (.aload_n 0, 1) := by decide +kernel
theorem dX8_keep_31 : decode cX8_keep 31 = .ok (.getfield 11, 3) := by decide +kernel
theorem dX8_keep_34 : decode cX8_keep 34 = .ok (.iload 8, 2) := by decide +kernel
theorem dX8_keep_36 : decode cX8_keep 36 = .ok (.iconst 1, 1) := by decide +kernel
theorem dX8_keep_37 : decode cX8_keep 37 = .ok (.iadd, 1) := by decide +kernel
theorem dX8_keep_38 : decode cX8_keep 38 = .ok (.iload_n 2, 1) := by decide +kernel
theorem dX8_keep_39 : decode cX8_keep 39 = .ok (.iastore, 1) := by decide +kernel
theorem dX8_keep_40 : decode cX8_keep 40 = .ok (.aload_n 0, 1) := by decide +kernel
theorem dX8_keep_41 : decode cX8_keep 41 = .ok (.getfield 11, 3) := by decide +kernel
theorem dX8_keep_44 : decode cX8_keep 44 = .ok (.iload 8, 2) := by decide +kernel
theorem dX8_keep_46 : decode cX8_keep 46 = .ok (.iconst 2, 1) := by decide +kernel
theorem dX8_keep_47 : decode cX8_keep 47 = .ok (.iadd, 1) := by decide +kernel
theorem dX8_keep_48 : decode cX8_keep 48 = .ok (.iload_n 3, 1) := by decide +kernel
theorem dX8_keep_49 : decode cX8_keep 49 = .ok (.iastore, 1) := by decide +kernel
theorem dX8_keep_50 : decode cX8_keep 50 = .ok (.aload_n 0, 1) := by decide +kernel
theorem dX8_keep_51 : decode cX8_keep 51 = .ok (.getfield 11, 3) := by decide +kernel
theorem dX8_keep_54 : decode cX8_keep 54 = .ok (.iload 8, 2) := by decide +kernel
theorem dX8_keep_56 : decode cX8_keep 56 = .ok (.iconst 2, 1) := by decide +kernel
theorem dX8_keep_57 : decode cX8_keep 57 = .ok (.iadd, 1) := by decide +kernel
theorem dX8_keep_58 : decode cX8_keep 58 = .ok (.iconst 1, 1) := by decide +kernel
theorem dX8_keep_59 : decode cX8_keep 59 = .ok (.iadd, 1) := by decide +kernel
theorem dX8_keep_60 : decode cX8_keep 60 = .ok (.iload 4, 2) := by decide +kernel
theorem dX8_keep_62 : decode cX8_keep 62 = .ok (.iastore, 1) := by decide +kernel
theorem dX8_keep_63 : decode cX8_keep 63 = .ok (.aload_n 0, 1) := by decide +kernel
theorem dX8_keep_64 : decode cX8_keep 64 = .ok (.getfield 11, 3) := by decide +kernel
theorem dX8_keep_67 : decode cX8_keep 67 = .ok (.iload 8, 2) := by decide +kernel
theorem dX8_keep_69 : decode cX8_keep 69 = .ok (.iconst 2, 1) := by decide +kernel
theorem dX8_keep_70 : decode cX8_keep 70 = .ok (.iadd, 1) := by decide +kernel
theorem dX8_keep_71 : decode cX8_keep 71 = .ok (.iconst 2, 1) := by decide +kernel
theorem dX8_keep_72 : decode cX8_keep 72 = .ok (.iadd, 1) := by decide +kernel
theorem dX8_keep_73 : decode cX8_keep 73 = .ok (.iload 5, 2) := by decide +kernel
theorem dX8_keep_75 : decode cX8_keep 75 = .ok (.iastore, 1) := by decide +kernel
theorem dX8_keep_76 : decode cX8_keep 76 = .ok (.aload_n 0, 1) := by decide +kernel
theorem dX8_keep_77 : decode cX8_keep 77 = .ok (.getfield 11, 3) := by decide +kernel
theorem dX8_keep_80 : decode cX8_keep 80 = .ok (.iload 8, 2) := by decide +kernel
theorem dX8_keep_82 : decode cX8_keep 82 = .ok (.iconst 2, 1) := by decide +kernel
theorem dX8_keep_83 : decode cX8_keep 83 = .ok (.iadd, 1) := by decide +kernel
theorem dX8_keep_84 : decode cX8_keep 84 = .ok (.iconst 3, 1) := by decide +kernel
theorem dX8_keep_85 : decode cX8_keep 85 = .ok (.iadd, 1) := by decide +kernel
theorem dX8_keep_86 : decode cX8_keep 86 = .ok (.iload 6, 2) := by decide +kernel
theorem dX8_keep_88 : decode cX8_keep 88 = .ok (.iastore, 1) := by decide +kernel
theorem dX8_keep_89 : decode cX8_keep 89 = .ok (.aload_n 0, 1) := by decide +kernel
theorem dX8_keep_90 : decode cX8_keep 90 = .ok (.getfield 11, 3) := by decide +kernel
theorem dX8_keep_93 : decode cX8_keep 93 = .ok (.iload 8, 2) := by decide +kernel
theorem dX8_keep_95 : decode cX8_keep 95 = .ok (.iconst 2, 1) := by decide +kernel
theorem dX8_keep_96 : decode cX8_keep 96 = .ok (.iadd, 1) := by decide +kernel
theorem dX8_keep_97 : decode cX8_keep 97 = .ok (.iconst 4, 1) := by decide +kernel
theorem dX8_keep_98 : decode cX8_keep 98 = .ok (.iadd, 1) := by decide +kernel
theorem dX8_keep_99 : decode cX8_keep 99 = .ok (.iload 7, 2) := by decide +kernel
theorem dX8_keep_101 : decode cX8_keep 101 = .ok (.iastore, 1) := by decide +kernel
theorem dX8_keep_102 : decode cX8_keep 102 = .ok (.aload_n 0, 1) := by decide +kernel
theorem dX8_keep_103 : decode cX8_keep 103 = .ok (.dup, 1) := by decide +kernel
theorem dX8_keep_104 : decode cX8_keep 104 = .ok (.getfield 15, 3) := by decide +kernel
theorem dX8_keep_107 : decode cX8_keep 107 = .ok (.iconst 1, 1) := by decide +kernel
theorem dX8_keep_108 : decode cX8_keep 108 = .ok (.iadd, 1) := by decide +kernel
theorem dX8_keep_109 : decode cX8_keep 109 = .ok (.putfield 15, 3) := by decide +kernel
theorem dX8_keep_112 : decode cX8_keep 112 = .ok (.return_, 1) := by decide +kernel
theorem dX8_part_0 : decode cX8_part 0 = .ok (.iload_n 1, 1) := by decide +kernel
theorem dX8_part_1 : decode cX8_part 1 = .ok (.bipush 7, 2) := by decide +kernel
theorem dX8_part_3 : decode cX8_part 3 = .ok (.imul, 1) := by decide +kernel
theorem dX8_part_4 : decode cX8_part 4 = .ok (.iload_n 2, 1) := by decide +kernel
theorem dX8_part_5 : decode cX8_part 5 = .ok (.iadd, 1) := by decide +kernel
theorem dX8_part_6 : decode cX8_part 6 = .ok (.istore_n 3, 1) := by decide +kernel
theorem dX8_part_7 : decode cX8_part 7 = .ok (.iload_n 3, 1) := by decide +kernel
theorem dX8_part_8 : decode cX8_part 8 = .ok (.ifCond .lt 21, 3) := by decide +kernel
theorem dX8_part_11 : decode cX8_part 11 = .ok (.iload_n 3, 1) := by decide +kernel
theorem dX8_part_12 : decode cX8_part 12 = .ok (.aload_n 0, 1) := by decide +kernel
theorem dX8_part_13 : decode cX8_part 13 = .ok (.getfield 11, 3) := by decide +kernel
theorem dX8_part_16 : decode cX8_part 16 = .ok (.arraylength, 1) := by decide +kernel
theorem dX8_part_17 : decode cX8_part 17 = .ok (.if_icmp .ge 12, 3) := by decide +kernel
theorem dX8_part_20 : decode cX8_part 20 = .ok (.aload_n 0, 1) := by decide +kernel
theorem dX8_part_21 : decode cX8_part 21 = .ok (.getfield 11, 3) := by decide +kernel
theorem dX8_part_24 : decode cX8_part 24 = .ok (.iload_n 3, 1) := by decide +kernel
theorem dX8_part_25 : decode cX8_part 25 = .ok (.iaload, 1) := by decide +kernel
theorem dX8_part_26 : decode cX8_part 26 = .ok (.goto 4, 3) := by decide +kernel
theorem dX8_part_29 : decode cX8_part 29 = .ok (.iconst 0, 1) := by decide +kernel
theorem dX8_part_30 : decode cX8_part 30 = .ok (.ireturn, 1) := by decide +kernel
theorem dX9_init_0 : decode cX9_init 0 = .ok (.aload_n 0, 1) := by decide +kernel
theorem dX9_init_1 : decode cX9_init 1 = .ok (.invokespecial 1, 3) := by decide +kernel
theorem dX9_init_4 : decode cX9_init 4 = .ok (.return_, 1) := by decide +kernel
theorem dX9_height_0 : decode cX9_height 0 = .ok (.aload_n 0, 1) := by decide +kernel
theorem dX9_height_1 : decode cX9_height 1 = .ok (.getfield 7, 3) := by decide +kernel
theorem dX9_height_4 : decode cX9_height 4 = .ok (.ifCond .le 14, 3) := by decide +kernel
theorem dX9_height_7 : decode cX9_height 7 = .ok (.aload_n 0, 1) := by decide +kernel
theorem dX9_height_8 : decode cX9_height 8 = .ok (.getfield 13, 3) := by decide +kernel
theorem dX9_height_11 : decode cX9_height 11 = .ok (.aload_n 0, 1) := by decide +kernel
theorem dX9_height_12 : decode cX9_height 12 = .ok (.getfield 7, 3) := by decide +kernel
theorem dX9_height_15 : decode cX9_height 15 = .ok (.if_icmp .gt 5, 3) := by decide +kernel
theorem dX9_height_18 : decode cX9_height 18 = .ok (.iconst 0, 1) := by decide +kernel
theorem dX9_height_19 : decode cX9_height 19 = .ok (.ireturn, 1) := by decide +kernel
theorem dX9_height_20 : decode cX9_height 20 = .ok (.iload_n 1, 1) := by decide +kernel
theorem dX9_height_21 : decode cX9_height 21 = .ok (.aload_n 0, 1) := by decide +kernel
theorem dX9_height_22 : decode cX9_height 22 = .ok (.getfield 16, 3) := by decide +kernel
theorem dX9_height_25 : decode cX9_height 25 = .ok (.iadd, 1) := by decide +kernel
theorem dX9_height_26 : decode cX9_height 26 = .ok (.aload_n 0, 1) := by decide +kernel
theorem dX9_height_27 : decode cX9_height 27 = .ok (.getfield 13, 3) := by decide +kernel
theorem dX9_height_30 : decode cX9_height 30 = .ok (.irem, 1) := by decide +kernel
theorem dX9_height_31 : decode cX9_height 31 = .ok (.istore_n 2, 1) := by decide +kernel
theorem dX9_height_32 : decode cX9_height 32 = .ok (.iload_n 2, 1) := by decide +kernel
theorem dX9_height_33 : decode cX9_height 33 = .ok (.aload_n 0, 1) := by decide +kernel
theorem dX9_height_34 : decode cX9_height 34 = .ok (.getfield 7, 3) := by decide +kernel
theorem dX9_height_37 : decode cX9_height 37 = .ok (.if_icmp .ge 17, 3) := by decide +kernel
theorem dX9_height_40 : decode cX9_height 40 = .ok (.aload_n 0, 1) := by decide +kernel
theorem dX9_height_41 : decode cX9_height 41 = .ok (.getfield 19, 3) := by decide +kernel
theorem dX9_height_44 : decode cX9_height 44 = .ok (.iload_n 2, 1) := by decide +kernel
theorem dX9_height_45 : decode cX9_height 45 = .ok (.imul, 1) := by decide +kernel
theorem dX9_height_46 : decode cX9_height 46 = .ok (.aload_n 0, 1) := by decide +kernel
theorem dX9_height_47 : decode cX9_height 47 = .ok (.getfield 7, 3) := by decide +kernel
theorem dX9_height_50 : decode cX9_height 50 = .ok (.idiv, 1) := by decide +kernel
theorem dX9_height_51 : decode cX9_height 51 = .ok (.goto 24, 3) := by decide +kernel
theorem dX9_height_54 : decode cX9_height 54 = .ok (.aload_n 0, 1) := by decide +kernel
theorem dX9_height_55 : decode cX9_height 55 = .ok (.getfield 19, 3) := by decide +kernel
theorem dX9_height_58 : decode cX9_height 58 = .ok (.aload_n 0, 1) := by decide +kernel
theorem dX9_height_59 : decode cX9_height 59 = .ok (.getfield 13, 3) := by decide +kernel
theorem dX9_height_62 : decode cX9_height 62 = .ok (.iload_n 2, 1) := by decide +kernel
theorem dX9_height_63 : decode cX9_height 63 = .ok (.isub, 1) := by decide +kernel
theorem dX9_height_64 : decode cX9_height 64 = .ok (.imul, 1) := by decide +kernel
theorem dX9_height_65 : decode cX9_height 65 = .ok (.aload_n 0, 1) := by decide +kernel
theorem dX9_height_66 : decode cX9_height 66 = .ok (.getfield 13, 3) := by decide +kernel
theorem dX9_height_69 : decode cX9_height 69 = .ok (.aload_n 0, 1) := by decide +kernel
theorem dX9_height_70 : decode cX9_height 70 = .ok (.getfield 7, 3) := by decide +kernel
theorem dX9_height_73 : decode cX9_height 73 = .ok (.isub, 1) := by decide +kernel
theorem dX9_height_74 : decode cX9_height 74 = .ok (.idiv, 1) := by decide +kernel
theorem dX9_height_75 : decode cX9_height 75 = .ok (.ireturn, 1) := by decide +kernel
theorem dX10_init_0 : decode cX10_init 0 = .ok (.aload_n 0, 1) := by decide +kernel
theorem dX10_init_1 : decode cX10_init 1 = .ok (.invokespecial 1, 3) := by decide +kernel
theorem dX10_init_4 : decode cX10_init 4 = .ok (.aload_n 0, 1) := by decide +kernel
theorem dX10_init_5 : decode cX10_init 5 = .ok (.new 7, 3) := by decide +kernel
theorem dX10_init_8 : decode cX10_init 8 = .ok (.dup, 1) := by decide +kernel
theorem dX10_init_9 : decode cX10_init 9 = .ok (.invokespecial 9, 3) := by decide +kernel
theorem dX10_init_12 : decode cX10_init 12 = .ok (.putfield 10, 3) := by decide +kernel
theorem dX10_init_15 : decode cX10_init 15 = .ok (.aload_n 0, 1) := by decide +kernel
theorem dX10_init_16 : decode cX10_init 16 = .ok (.new 7, 3) := by decide +kernel
theorem dX10_init_19 : decode cX10_init 19 = .ok (.dup, 1) := by decide +kernel
theorem dX10_init_20 : decode cX10_init 20 = .ok (.invokespecial 9, 3) := by decide +kernel
theorem dX10_init_23 : decode cX10_init 23 = .ok (.putfield 16, 3) := by decide +kernel
theorem dX10_init_26 : decode cX10_init 26 = .ok (.aload_n 0, 1) := by decide +kernel
theorem dX10_init_27 : decode cX10_init 27 = .ok (.new 19, 3) := by decide +kernel
theorem dX10_init_30 : decode cX10_init 30 = .ok (.dup, 1) := by decide +kernel
theorem dX10_init_31 : decode cX10_init 31 = .ok (.invokespecial 21, 3) := by decide +kernel
theorem dX10_init_34 : decode cX10_init 34 = .ok (.putfield 22, 3) := by decide +kernel
theorem dX10_init_37 : decode cX10_init 37 = .ok (.aload_n 0, 1) := by decide +kernel
theorem dX10_init_38 : decode cX10_init 38 = .ok (.bipush 6, 2) := by decide +kernel
theorem dX10_init_40 : decode cX10_init 40 = .ok (.anewarray 26, 3) := by decide +kernel
theorem dX10_init_43 : decode cX10_init 43 = .ok (.putfield 28, 3) := by decide +kernel
theorem dX10_init_46 : decode cX10_init 46 = .ok (.iconst 0, 1) := by decide +kernel
theorem dX10_init_47 : decode cX10_init 47 = .ok (.istore_n 1, 1) := by decide +kernel
theorem dX10_init_48 : decode cX10_init 48 = .ok (.iload_n 1, 1) := by decide +kernel
theorem dX10_init_49 : decode cX10_init 49 = .ok (.aload_n 0, 1) := by decide +kernel
theorem dX10_init_50 : decode cX10_init 50 = .ok (.getfield 28, 3) := by decide +kernel
theorem dX10_init_53 : decode cX10_init 53 = .ok (.arraylength, 1) := by decide +kernel
theorem dX10_init_54 : decode cX10_init 54 = .ok (.if_icmp .ge 22, 3) := by decide +kernel
theorem dX10_init_57 : decode cX10_init 57 = .ok (.aload_n 0, 1) := by decide +kernel
theorem dX10_init_58 : decode cX10_init 58 = .ok (.getfield 28, 3) := by decide +kernel
theorem dX10_init_61 : decode cX10_init 61 = .ok (.iload_n 1, 1) := by decide +kernel
theorem dX10_init_62 : decode cX10_init 62 = .ok (.new 26, 3) := by decide +kernel
theorem dX10_init_65 : decode cX10_init 65 = .ok (.dup, 1) := by decide +kernel
theorem dX10_init_66 : decode cX10_init 66 = .ok (.invokespecial 32, 3) := by decide +kernel
theorem dX10_init_69 : decode cX10_init 69 = .ok (.aastore, 1) := by decide +kernel
theorem dX10_init_70 : decode cX10_init 70 = .ok (.iinc 1 1, 3) := by decide +kernel
theorem dX10_init_73 : decode cX10_init 73 = .ok (.goto (-25), 3) := by decide +kernel
theorem dX10_init_76 : decode cX10_init 76 = .ok (.return_, 1) := by decide +kernel
theorem dX10_turn_0 : decode cX10_turn 0 = .ok (.iload_n 1, 1) := by decide +kernel
theorem dX10_turn_1 : decode cX10_turn 1 = .ok (.iconst 2, 1) := by decide +kernel
theorem dX10_turn_2 : decode cX10_turn 2 = .ok (.bipush 60, 2) := by decide +kernel
theorem dX10_turn_4 : decode cX10_turn 4 = .ok (.invokestatic 33, 3) := by decide +kernel
theorem dX10_turn_7 : decode cX10_turn 7 = .ok (.ifCond .eq 14, 3) := by decide +kernel
theorem dX10_turn_10 : decode cX10_turn 10 = .ok (.iload_n 2, 1) := by decide +kernel
theorem dX10_turn_11 : decode cX10_turn 11 = .ok (.iconst 1, 1) := by decide +kernel
theorem dX10_turn_12 : decode cX10_turn 12 = .ok (.iload_n 1, 1) := by decide +kernel
theorem dX10_turn_13 : decode cX10_turn 13 = .ok (.iconst 1, 1) := by decide +kernel
theorem dX10_turn_14 : decode cX10_turn 14 = .ok (.isub, 1) := by decide +kernel
theorem dX10_turn_15 : decode cX10_turn 15 = .ok (.invokestatic 33, 3) := by decide +kernel
theorem dX10_turn_18 : decode cX10_turn 18 = .ok (.ifCond .ne 13, 3) := by decide +kernel
theorem dX10_turn_21 : decode cX10_turn 21 = .ok (.new 37, 3) := by decide +kernel
theorem dX10_turn_24 : decode cX10_turn 24 = .ok (.dup, 1) := by decide +kernel
theorem dX10_turn_25 : decode cX10_turn 25 = .ok (.ldc 39, 2) := by decide +kernel
theorem dX10_turn_27 : decode cX10_turn 27 = .ok (.invokespecial 41, 3) := by decide +kernel
theorem dX10_turn_30 : decode cX10_turn 30 = .ok (.athrow, 1) := by decide +kernel
theorem dX10_turn_31 : decode cX10_turn 31 = .ok (.iload_n 3, 1) := by decide +kernel
theorem dX10_turn_32 : decode cX10_turn 32 = .ok (.iconst 0, 1) := by decide +kernel
theorem dX10_turn_33 : decode cX10_turn 33 = .ok (.bipush 50, 2) := by decide +kernel
theorem dX10_turn_35 : decode cX10_turn 35 = .ok (.invokestatic 33, 3) := by decide +kernel
theorem dX10_turn_38 : decode cX10_turn 38 = .ok (.ifCond .eq 14, 3) := by decide +kernel
theorem dX10_turn_41 : decode cX10_turn 41 = .ok (.iload 4, 2) := by decide +kernel
theorem dX10_turn_43 : decode cX10_turn 43 = .ok (.iconst 0, 1) := by decide +kernel
theorem dX10_turn_44 : decode cX10_turn 44 = .ok (.bipush 59, 2) := by decide +kernel
theorem dX10_turn_46 : decode cX10_turn 46 = .ok (.invokestatic 33, 3) := by decide +kernel
theorem dX10_turn_49 : decode cX10_turn 49 = .ok (.ifCond .ne 13, 3) := by decide +kernel
theorem dX10_turn_52 : decode cX10_turn 52 = .ok (.new 37, 3) := by decide +kernel
theorem dX10_turn_55 : decode cX10_turn 55 = .ok (.dup, 1) := by decide +kernel
theorem dX10_turn_56 : decode cX10_turn 56 = .ok (.ldc 44, 2) := by decide +kernel
theorem dX10_turn_58 : decode cX10_turn 58 = .ok (.invokespecial 41, 3) := by decide +kernel
theorem dX10_turn_61 : decode cX10_turn 61 = .ok (.athrow, 1) := by decide +kernel
theorem dX10_turn_62 : decode cX10_turn 62 = .ok (.aload_n 0, 1) := by decide +kernel
theorem dX10_turn_63 : decode cX10_turn 63 = .ok (.getfield 10, 3) := by decide +kernel
theorem dX10_turn_66 : decode cX10_turn 66 = .ok (.getfield 46, 3) := by decide +kernel
theorem dX10_turn_69 : decode cX10_turn 69 = .ok (.getfield 50, 3) := by decide +kernel
theorem dX10_turn_72 : decode cX10_turn 72 = .ok (.bipush 6, 2) := by decide +kernel
theorem dX10_turn_74 : decode cX10_turn 74 = .ok (.if_icmp .lt 13, 3) := by decide +kernel
theorem dX10_turn_77 : decode cX10_turn 77 = .ok (.new 56, 3) := by decide +kernel
theorem dX10_turn_80 : decode cX10_turn 80 = .ok (.dup, 1) := by decide +kernel
theorem dX10_turn_81 : decode cX10_turn 81 = .ok (.ldc 58, 2) := by decide +kernel
theorem dX10_turn_83 : decode cX10_turn 83 = .ok (.invokespecial 60, 3) := by decide +kernel
theorem dX10_turn_86 : decode cX10_turn 86 = .ok (.athrow, 1) := by decide +kernel
theorem dX10_turn_87 : decode cX10_turn 87 = .ok (.aload_n 0, 1) := by decide +kernel
theorem dX10_turn_88 : decode cX10_turn 88 = .ok (.getfield 10, 3) := by decide +kernel
theorem dX10_turn_91 : decode cX10_turn 91 = .ok (.getfield 46, 3) := by decide +kernel
theorem dX10_turn_94 : decode cX10_turn 94 = .ok (.getfield 50, 3) := by decide +kernel
theorem dX10_turn_97 : decode cX10_turn 97 = .ok (.istore 5, 2) := by decide +kernel
theorem dX10_turn_99 : decode cX10_turn 99 = .ok (.aload_n 0, 1) := by decide +kernel
theorem dX10_turn_100 : decode cX10_turn 100 = .ok (.iconst 0, 1) := by decide +kernel
theorem dX10_turn_101 : decode cX10_turn 101 = .ok (.iload_n 1, 1) := by decide +kernel
theorem dX10_turn_102 : decode cX10_turn 102 = .ok (.iload_n 2, 1) := by decide +kernel
theorem dX10_turn_103 : decode cX10_turn 103 = .ok (.iload_n 3, 1) := by decide +kernel
theorem dX10_turn_104 : decode cX10_turn 104 = .ok (.iload 4, 2) := by decide +kernel
theorem dX10_turn_106 : decode cX10_turn 106 = .ok (.iconst 0, 1) := by decide +kernel
theorem dX10_turn_107 : decode cX10_turn 107 = .ok (.invokevirtual 61, 3) := by decide +kernel
theorem dX10_turn_110 : decode cX10_turn 110 = .ok (.iload 5, 2) := by decide +kernel
theorem dX10_turn_112 : decode cX10_turn 112 = .ok (.ireturn, 1) := by decide +kernel
theorem dX10_mean_0 : decode cX10_mean 0 = .ok (.iload_n 1, 1) := by decide +kernel
theorem dX10_mean_1 : decode cX10_mean 1 = .ok (.iconst 0, 1) := by decide +kernel
theorem dX10_mean_2 : decode cX10_mean 2 = .ok (.bipush 100, 2) := by decide +kernel
theorem dX10_mean_4 : decode cX10_mean 4 = .ok (.invokestatic 33, 3) := by decide +kernel
theorem dX10_mean_7 : decode cX10_mean 7 = .ok (.ifCond .ne 13, 3) := by decide +kernel
theorem dX10_mean_10 : decode cX10_mean 10 = .ok (.new 37, 3) := by decide +kernel
theorem dX10_mean_13 : decode cX10_mean 13 = .ok (.dup, 1) := by decide +kernel
theorem dX10_mean_14 : decode cX10_mean 14 = .ok (.ldc 65, 2) := by decide +kernel
theorem dX10_mean_16 : decode cX10_mean 16 = .ok (.invokespecial 41, 3) := by decide +kernel
theorem dX10_mean_19 : decode cX10_mean 19 = .ok (.athrow, 1) := by decide +kernel
theorem dX10_mean_20 : decode cX10_mean 20 = .ok (.aload_n 0, 1) := by decide +kernel
theorem dX10_mean_21 : decode cX10_mean 21 = .ok (.getfield 10, 3) := by decide +kernel
theorem dX10_mean_24 : decode cX10_mean 24 = .ok (.getfield 46, 3) := by decide +kernel
theorem dX10_mean_27 : decode cX10_mean 27 = .ok (.getfield 67, 3) := by decide +kernel
theorem dX10_mean_30 : decode cX10_mean 30 = .ok (.istore_n 2, 1) := by decide +kernel
theorem dX10_mean_31 : decode cX10_mean 31 = .ok (.aload_n 0, 1) := by decide +kernel
theorem dX10_mean_32 : decode cX10_mean 32 = .ok (.iconst 1, 1) := by decide +kernel
theorem dX10_mean_33 : decode cX10_mean 33 = .ok (.iload_n 1, 1) := by decide +kernel
theorem dX10_mean_34 : decode cX10_mean 34 = .ok (.iconst 0, 1) := by decide +kernel
theorem dX10_mean_35 : decode cX10_mean 35 = .ok (.iconst 0, 1) := by decide +kernel
theorem dX10_mean_36 : decode cX10_mean 36 = .ok (.iconst 0, 1) := by decide +kernel
theorem dX10_mean_37 : decode cX10_mean 37 = .ok (.iconst 0, 1) := by decide +kernel
theorem dX10_mean_38 : decode cX10_mean 38 = .ok (.invokevirtual 61, 3) := by decide +kernel
theorem dX10_mean_41 : decode cX10_mean 41 = .ok (.iload_n 2, 1) := by decide +kernel
theorem dX10_mean_42 : decode cX10_mean 42 = .ok (.ireturn, 1) := by decide +kernel
theorem dX10_surge_0 : decode cX10_surge 0 = .ok (.iload_n 1, 1) := by decide +kernel
theorem dX10_surge_1 : decode cX10_surge 1 = .ok (.aload_n 0, 1) := by decide +kernel
theorem dX10_surge_2 : decode cX10_surge 2 = .ok (.getfield 10, 3) := by decide +kernel
theorem dX10_surge_5 : decode cX10_surge 5 = .ok (.getfield 70, 3) := by decide +kernel
theorem dX10_surge_8 : decode cX10_surge 8 = .ok (.sipush 2000, 3) := by decide +kernel
theorem dX10_surge_11 : decode cX10_surge 11 = .ok (.invokestatic 33, 3) := by decide +kernel
theorem dX10_surge_14 : decode cX10_surge 14 = .ok (.ifCond .eq 25, 3) := by decide +kernel
theorem dX10_surge_17 : decode cX10_surge 17 = .ok (.iload_n 2, 1) := by decide +kernel
theorem dX10_surge_18 : decode cX10_surge 18 = .ok (.iload_n 1, 1) := by decide +kernel
theorem dX10_surge_19 : decode cX10_surge 19 = .ok (.sipush 2000, 3) := by decide +kernel
theorem dX10_surge_22 : decode cX10_surge 22 = .ok (.invokestatic 33, 3) := by decide +kernel
theorem dX10_surge_25 : decode cX10_surge 25 = .ok (.ifCond .eq 14, 3) := by decide +kernel
theorem dX10_surge_28 : decode cX10_surge 28 = .ok (.iload_n 3, 1) := by decide +kernel
theorem dX10_surge_29 : decode cX10_surge 29 = .ok (.bipush (-50), 2) := by decide +kernel
theorem dX10_surge_31 : decode cX10_surge 31 = .ok (.bipush 100, 2) := by decide +kernel
theorem dX10_surge_33 : decode cX10_surge 33 = .ok (.invokestatic 33, 3) := by decide +kernel
theorem dX10_surge_36 : decode cX10_surge 36 = .ok (.ifCond .ne 13, 3) := by decide +kernel
theorem dX10_surge_39 : decode cX10_surge 39 = .ok (.new 37, 3) := by decide +kernel
theorem dX10_surge_42 : decode cX10_surge 42 = .ok (.dup, 1) := by decide +kernel
theorem dX10_surge_43 : decode cX10_surge 43 = .ok (.ldc 73, 2) := by decide +kernel
theorem dX10_surge_45 : decode cX10_surge 45 = .ok (.invokespecial 41, 3) := by decide +kernel
theorem dX10_surge_48 : decode cX10_surge 48 = .ok (.athrow, 1) := by decide +kernel
theorem dX10_surge_49 : decode cX10_surge 49 = .ok (.aload_n 0, 1) := by decide +kernel
theorem dX10_surge_50 : decode cX10_surge 50 = .ok (.getfield 10, 3) := by decide +kernel
theorem dX10_surge_53 : decode cX10_surge 53 = .ok (.getfield 46, 3) := by decide +kernel
theorem dX10_surge_56 : decode cX10_surge 56 = .ok (.getfield 75, 3) := by decide +kernel
theorem dX10_surge_59 : decode cX10_surge 59 = .ok (.bipush 20, 2) := by decide +kernel
theorem dX10_surge_61 : decode cX10_surge 61 = .ok (.if_icmp .lt 13, 3) := by decide +kernel
theorem dX10_surge_64 : decode cX10_surge 64 = .ok (.new 56, 3) := by decide +kernel
theorem dX10_surge_67 : decode cX10_surge 67 = .ok (.dup, 1) := by decide +kernel
theorem dX10_surge_68 : decode cX10_surge 68 = .ok (.ldc 78, 2) := by decide +kernel
theorem dX10_surge_70 : decode cX10_surge 70 = .ok (.invokespecial 60, 3) := by decide +kernel
theorem dX10_surge_73 : decode cX10_surge 73 = .ok (.athrow, 1) := by decide +kernel
theorem dX10_surge_74 : decode cX10_surge 74 = .ok (.aload_n 0, 1) := by decide +kernel
theorem dX10_surge_75 : decode cX10_surge 75 = .ok (.iconst 2, 1) := by decide +kernel
theorem dX10_surge_76 : decode cX10_surge 76 = .ok (.iload_n 1, 1) := by decide +kernel
theorem dX10_surge_77 : decode cX10_surge 77 = .ok (.iload_n 2, 1) := by decide +kernel
theorem dX10_surge_78 : decode cX10_surge 78 = .ok (.iload_n 3, 1) := by decide +kernel
theorem dX10_surge_79 : decode cX10_surge 79 = .ok (.iconst 0, 1) := by decide +kernel
theorem dX10_surge_80 : decode cX10_surge 80 = .ok (.iconst 0, 1) := by decide +kernel
theorem dX10_surge_81 : decode cX10_surge 81 = .ok (.invokevirtual 61, 3) := by decide +kernel
theorem dX10_surge_84 : decode cX10_surge 84 = .ok (.aload_n 0, 1) := by decide +kernel
theorem dX10_surge_85 : decode cX10_surge 85 = .ok (.getfield 10, 3) := by decide +kernel
theorem dX10_surge_88 : decode cX10_surge 88 = .ok (.getfield 46, 3) := by decide +kernel
theorem dX10_surge_91 : decode cX10_surge 91 = .ok (.getfield 75, 3) := by decide +kernel
theorem dX10_surge_94 : decode cX10_surge 94 = .ok (.ireturn, 1) := by decide +kernel
theorem dX10_river_0 : decode cX10_river 0 = .ok (.iload_n 1, 1) := by decide +kernel
theorem dX10_river_1 : decode cX10_river 1 = .ok (.iconst 0, 1) := by decide +kernel
theorem dX10_river_2 : decode cX10_river 2 = .ok (.sipush 500, 3) := by decide +kernel
theorem dX10_river_5 : decode cX10_river 5 = .ok (.invokestatic 33, 3) := by decide +kernel
theorem dX10_river_8 : decode cX10_river 8 = .ok (.ifCond .eq 14, 3) := by decide +kernel
theorem dX10_river_11 : decode cX10_river 11 = .ok (.iload_n 2, 1) := by decide +kernel
theorem dX10_river_12 : decode cX10_river 12 = .ok (.iconst 0, 1) := by decide +kernel
theorem dX10_river_13 : decode cX10_river 13 = .ok (.sipush 500, 3) := by decide +kernel
theorem dX10_river_16 : decode cX10_river 16 = .ok (.invokestatic 33, 3) := by decide +kernel
theorem dX10_river_19 : decode cX10_river 19 = .ok (.ifCond .ne 13, 3) := by decide +kernel
theorem dX10_river_22 : decode cX10_river 22 = .ok (.new 37, 3) := by decide +kernel
theorem dX10_river_25 : decode cX10_river 25 = .ok (.dup, 1) := by decide +kernel
theorem dX10_river_26 : decode cX10_river 26 = .ok (.ldc 80, 2) := by decide +kernel
theorem dX10_river_28 : decode cX10_river 28 = .ok (.invokespecial 41, 3) := by decide +kernel
theorem dX10_river_31 : decode cX10_river 31 = .ok (.athrow, 1) := by decide +kernel
theorem dX10_river_32 : decode cX10_river 32 = .ok (.aload_n 0, 1) := by decide +kernel
theorem dX10_river_33 : decode cX10_river 33 = .ok (.getfield 10, 3) := by decide +kernel
theorem dX10_river_36 : decode cX10_river 36 = .ok (.getfield 82, 3) := by decide +kernel
theorem dX10_river_39 : decode cX10_river 39 = .ok (.istore_n 3, 1) := by decide +kernel
theorem dX10_river_40 : decode cX10_river 40 = .ok (.aload_n 0, 1) := by decide +kernel
theorem dX10_river_41 : decode cX10_river 41 = .ok (.iconst 3, 1) := by decide +kernel
theorem dX10_river_42 : decode cX10_river 42 = .ok (.iload_n 1, 1) := by decide +kernel
theorem dX10_river_43 : decode cX10_river 43 = .ok (.iload_n 2, 1) := by decide +kernel
theorem dX10_river_44 : decode cX10_river 44 = .ok (.iconst 0, 1) := by decide +kernel
theorem dX10_river_45 : decode cX10_river 45 = .ok (.iconst 0, 1) := by decide +kernel
theorem dX10_river_46 : decode cX10_river 46 = .ok (.iconst 0, 1) := by decide +kernel
theorem dX10_river_47 : decode cX10_river 47 = .ok (.invokevirtual 61, 3) := by decide +kernel
theorem dX10_river_50 : decode cX10_river 50 = .ok (.iload_n 3, 1) := by decide +kernel
theorem dX10_river_51 : decode cX10_river 51 = .ok (.ireturn, 1) := by decide +kernel
theorem dX10_barrier_0 : decode cX10_barrier 0 = .ok (.iload_n 1, 1) := by decide +kernel
theorem dX10_barrier_1 : decode cX10_barrier 1 = .ok (.iconst (-1), 1) := by decide +kernel
theorem dX10_barrier_2 : decode cX10_barrier 2 = .ok (.if_icmp .eq 14, 3) := by decide +kernel
theorem dX10_barrier_5 : decode cX10_barrier 5 = .ok (.iload_n 1, 1) := by decide +kernel
theorem dX10_barrier_6 : decode cX10_barrier 6 = .ok (.iconst 0, 1) := by decide +kernel
theorem dX10_barrier_7 : decode cX10_barrier 7 = .ok (.sipush 500, 3) := by decide +kernel
theorem dX10_barrier_10 : decode cX10_barrier 10 = .ok (.invokestatic 33, 3) := by decide +kernel
theorem dX10_barrier_13 : decode cX10_barrier 13 = .ok (.ifCond .eq 13, 3) := by decide +kernel
theorem dX10_barrier_16 : decode cX10_barrier 16 = .ok (.iload_n 2, 1) := by decide +kernel
theorem dX10_barrier_17 : decode cX10_barrier 17 = .ok (.iconst 0, 1) := by decide +kernel
theorem dX10_barrier_18 : decode cX10_barrier 18 = .ok (.bipush 12, 2) := by decide +kernel
theorem dX10_barrier_20 : decode cX10_barrier 20 = .ok (.invokestatic 33, 3) := by decide +kernel
theorem dX10_barrier_23 : decode cX10_barrier 23 = .ok (.ifCond .ne 13, 3) := by decide +kernel
theorem dX10_barrier_26 : decode cX10_barrier 26 = .ok (.new 37, 3) := by decide +kernel
theorem dX10_barrier_29 : decode cX10_barrier 29 = .ok (.dup, 1) := by decide +kernel
theorem dX10_barrier_30 : decode cX10_barrier 30 = .ok (.ldc 85, 2) := by decide +kernel
theorem dX10_barrier_32 : decode cX10_barrier 32 = .ok (.invokespecial 41, 3) := by decide +kernel
theorem dX10_barrier_35 : decode cX10_barrier 35 = .ok (.athrow, 1) := by decide +kernel
theorem dX10_barrier_36 : decode cX10_barrier 36 = .ok (.aload_n 0, 1) := by decide +kernel
theorem dX10_barrier_37 : decode cX10_barrier 37 = .ok (.getfield 10, 3) := by decide +kernel
theorem dX10_barrier_40 : decode cX10_barrier 40 = .ok (.getfield 87, 3) := by decide +kernel
theorem dX10_barrier_43 : decode cX10_barrier 43 = .ok (.getfield 91, 3) := by decide +kernel
theorem dX10_barrier_46 : decode cX10_barrier 46 = .ok (.istore_n 3, 1) := by decide +kernel
theorem dX10_barrier_47 : decode cX10_barrier 47 = .ok (.aload_n 0, 1) := by decide +kernel
theorem dX10_barrier_48 : decode cX10_barrier 48 = .ok (.iconst 4, 1) := by decide +kernel
theorem dX10_barrier_49 : decode cX10_barrier 49 = .ok (.iload_n 1, 1) := by decide +kernel
theorem dX10_barrier_50 : decode cX10_barrier 50 = .ok (.iload_n 2, 1) := by decide +kernel
theorem dX10_barrier_51 : decode cX10_barrier 51 = .ok (.iconst 0, 1) := by decide +kernel
theorem dX10_barrier_52 : decode cX10_barrier 52 = .ok (.iconst 0, 1) := by decide +kernel
theorem dX10_barrier_53 : decode cX10_barrier 53 = .ok (.iconst 0, 1) := by decide +kernel
theorem dX10_barrier_54 : decode cX10_barrier 54 = .ok (.invokevirtual 61, 3) := by decide +kernel
theorem dX10_barrier_57 : decode cX10_barrier 57 = .ok (.iload_n 3, 1) := by decide +kernel
theorem dX10_barrier_58 : decode cX10_barrier 58 = .ok (.ireturn, 1) := by decide +kernel
theorem dX10_section_0 : decode cX10_section 0 = .ok (.iload_n 1, 1) := by decide +kernel
theorem dX10_section_1 : decode cX10_section 1 = .ok (.iconst 1, 1) := by decide +kernel
theorem dX10_section_2 : decode cX10_section 2 = .ok (.bipush 100, 2) := by decide +kernel
theorem dX10_section_4 : decode cX10_section 4 = .ok (.invokestatic 33, 3) := by decide +kernel
theorem dX10_section_7 : decode cX10_section 7 = .ok (.ifCond .eq 15, 3) := by decide +kernel
theorem dX10_section_10 : decode cX10_section 10 = .ok (.iload 4, 2) := by decide +kernel
theorem dX10_section_12 : decode cX10_section 12 = .ok (.iconst 0, 1) := by decide +kernel
theorem dX10_section_13 : decode cX10_section 13 = .ok (.sipush 10000, 3) := by decide +kernel
theorem dX10_section_16 : decode cX10_section 16 = .ok (.invokestatic 33, 3) := by decide +kernel
theorem dX10_section_19 : decode cX10_section 19 = .ok (.ifCond .ne 13, 3) := by decide +kernel
theorem dX10_section_22 : decode cX10_section 22 = .ok (.new 37, 3) := by decide +kernel
theorem dX10_section_25 : decode cX10_section 25 = .ok (.dup, 1) := by decide +kernel
theorem dX10_section_26 : decode cX10_section 26 = .ok (.ldc 96, 2) := by decide +kernel
theorem dX10_section_28 : decode cX10_section 28 = .ok (.invokespecial 41, 3) := by decide +kernel
theorem dX10_section_31 : decode cX10_section 31 = .ok (.athrow, 1) := by decide +kernel
theorem dX10_section_32 : decode cX10_section 32 = .ok (.iload_n 2, 1) := by decide +kernel
theorem dX10_section_33 : decode cX10_section 33 = .ok (.iconst 0, 1) := by decide +kernel
theorem dX10_section_34 : decode cX10_section 34 = .ok (.sipush 10000, 3) := by decide +kernel
theorem dX10_section_37 : decode cX10_section 37 = .ok (.invokestatic 33, 3) := by decide +kernel
theorem dX10_section_40 : decode cX10_section 40 = .ok (.ifCond .eq 14, 3) := by decide +kernel
theorem dX10_section_43 : decode cX10_section 43 = .ok (.iload_n 3, 1) := by decide +kernel
theorem dX10_section_44 : decode cX10_section 44 = .ok (.iconst 0, 1) := by decide +kernel
theorem dX10_section_45 : decode cX10_section 45 = .ok (.sipush 10000, 3) := by decide +kernel
theorem dX10_section_48 : decode cX10_section 48 = .ok (.invokestatic 33, 3) := by decide +kernel
theorem dX10_section_51 : decode cX10_section 51 = .ok (.ifCond .ne 13, 3) := by decide +kernel
theorem dX10_section_54 : decode cX10_section 54 = .ok (.new 37, 3) := by decide +kernel
theorem dX10_section_57 : decode cX10_section 57 = .ok (.dup, 1) := by decide +kernel
theorem dX10_section_58 : decode cX10_section 58 = .ok (.ldc 98, 2) := by decide +kernel
theorem dX10_section_60 : decode cX10_section 60 = .ok (.invokespecial 41, 3) := by decide +kernel
theorem dX10_section_63 : decode cX10_section 63 = .ok (.athrow, 1) := by decide +kernel
theorem dX10_section_64 : decode cX10_section 64 = .ok (.aload_n 0, 1) := by decide +kernel
theorem dX10_section_65 : decode cX10_section 65 = .ok (.getfield 10, 3) := by decide +kernel
theorem dX10_section_68 : decode cX10_section 68 = .ok (.getfield 100, 3) := by decide +kernel
theorem dX10_section_71 : decode cX10_section 71 = .ok (.bipush 8, 2) := by decide +kernel
theorem dX10_section_73 : decode cX10_section 73 = .ok (.if_icmp .ge 13, 3) := by decide +kernel
theorem dX10_section_76 : decode cX10_section 76 = .ok (.aload_n 0, 1) := by decide +kernel
theorem dX10_section_77 : decode cX10_section 77 = .ok (.getfield 10, 3) := by decide +kernel
theorem dX10_section_80 : decode cX10_section 80 = .ok (.getfield 70, 3) := by decide +kernel
theorem dX10_section_83 : decode cX10_section 83 = .ok (.ifCond .le 13, 3) := by decide +kernel
theorem dX10_section_86 : decode cX10_section 86 = .ok (.new 56, 3) := by decide +kernel
theorem dX10_section_89 : decode cX10_section 89 = .ok (.dup, 1) := by decide +kernel
theorem dX10_section_90 : decode cX10_section 90 = .ok (.ldc 103, 2) := by decide +kernel
theorem dX10_section_92 : decode cX10_section 92 = .ok (.invokespecial 60, 3) := by decide +kernel
theorem dX10_section_95 : decode cX10_section 95 = .ok (.athrow, 1) := by decide +kernel
theorem dX10_section_96 : decode cX10_section 96 = .ok (.aload_n 0, 1) := by decide +kernel
theorem dX10_section_97 : decode cX10_section 97 = .ok (.getfield 10, 3) := by decide +kernel
theorem dX10_section_100 : decode cX10_section 100 = .ok (.getfield 100, 3) := by decide +kernel
theorem dX10_section_103 : decode cX10_section 103 = .ok (.istore 5, 2) := by decide +kernel
theorem dX10_section_105 : decode cX10_section 105 = .ok (.aload_n 0, 1) := by decide +kernel
theorem dX10_section_106 : decode cX10_section 106 = .ok (.iconst 5, 1) := by decide +kernel
theorem dX10_section_107 : decode cX10_section 107 = .ok (.iload_n 1, 1) := by decide +kernel
theorem dX10_section_108 : decode cX10_section 108 = .ok (.iload_n 2, 1) := by decide +kernel
theorem dX10_section_109 : decode cX10_section 109 = .ok (.iload_n 3, 1) := by decide +kernel
theorem dX10_section_110 : decode cX10_section 110 = .ok (.iload 4, 2) := by decide +kernel
theorem dX10_section_112 : decode cX10_section 112 = .ok (.iconst 0, 1) := by decide +kernel
theorem dX10_section_113 : decode cX10_section 113 = .ok (.invokevirtual 61, 3) := by decide +kernel
theorem dX10_section_116 : decode cX10_section 116 = .ok (.iload 5, 2) := by decide +kernel
theorem dX10_section_118 : decode cX10_section 118 = .ok (.ireturn, 1) := by decide +kernel
theorem dX10_intake_0 : decode cX10_intake 0 = .ok (.aload_n 0, 1) := by decide +kernel
theorem dX10_intake_1 : decode cX10_intake 1 = .ok (.getfield 10, 3) := by decide +kernel
theorem dX10_intake_4 : decode cX10_intake 4 = .ok (.iload_n 1, 1) := by decide +kernel
theorem dX10_intake_5 : decode cX10_intake 5 = .ok (.invokevirtual 105, 3) := by decide +kernel
theorem dX10_intake_8 : decode cX10_intake 8 = .ok (.ifCond .ne 13, 3) := by decide +kernel
theorem dX10_intake_11 : decode cX10_intake 11 = .ok (.new 109, 3) := by decide +kernel
theorem dX10_intake_14 : decode cX10_intake 14 = .ok (.dup, 1) := by decide +kernel
theorem dX10_intake_15 : decode cX10_intake 15 = .ok (.ldc 111, 2) := by decide +kernel
theorem dX10_intake_17 : decode cX10_intake 17 = .ok (.invokespecial 113, 3) := by decide +kernel
theorem dX10_intake_20 : decode cX10_intake 20 = .ok (.athrow, 1) := by decide +kernel
theorem dX10_intake_21 : decode cX10_intake 21 = .ok (.iload_n 2, 1) := by decide +kernel
theorem dX10_intake_22 : decode cX10_intake 22 = .ok (.iconst 1, 1) := by decide +kernel
theorem dX10_intake_23 : decode cX10_intake 23 = .ok (.sipush 500, 3) := by decide +kernel
theorem dX10_intake_26 : decode cX10_intake 26 = .ok (.invokestatic 33, 3) := by decide +kernel
theorem dX10_intake_29 : decode cX10_intake 29 = .ok (.ifCond .eq 13, 3) := by decide +kernel
theorem dX10_intake_32 : decode cX10_intake 32 = .ok (.iload_n 3, 1) := by decide +kernel
theorem dX10_intake_33 : decode cX10_intake 33 = .ok (.iconst 0, 1) := by decide +kernel
theorem dX10_intake_34 : decode cX10_intake 34 = .ok (.bipush 30, 2) := by decide +kernel
theorem dX10_intake_36 : decode cX10_intake 36 = .ok (.invokestatic 33, 3) := by decide +kernel
theorem dX10_intake_39 : decode cX10_intake 39 = .ok (.ifCond .ne 13, 3) := by decide +kernel
theorem dX10_intake_42 : decode cX10_intake 42 = .ok (.new 37, 3) := by decide +kernel
theorem dX10_intake_45 : decode cX10_intake 45 = .ok (.dup, 1) := by decide +kernel
theorem dX10_intake_46 : decode cX10_intake 46 = .ok (.ldc 114, 2) := by decide +kernel
theorem dX10_intake_48 : decode cX10_intake 48 = .ok (.invokespecial 41, 3) := by decide +kernel
theorem dX10_intake_51 : decode cX10_intake 51 = .ok (.athrow, 1) := by decide +kernel
theorem dX10_intake_52 : decode cX10_intake 52 = .ok (.iload 4, 2) := by decide +kernel
theorem dX10_intake_54 : decode cX10_intake 54 = .ok (.iconst 1, 1) := by decide +kernel
theorem dX10_intake_55 : decode cX10_intake 55 = .ok (.sipush 10000, 3) := by decide +kernel
theorem dX10_intake_58 : decode cX10_intake 58 = .ok (.invokestatic 33, 3) := by decide +kernel
theorem dX10_intake_61 : decode cX10_intake 61 = .ok (.ifCond .eq 15, 3) := by decide +kernel
theorem dX10_intake_64 : decode cX10_intake 64 = .ok (.iload 5, 2) := by decide +kernel
theorem dX10_intake_66 : decode cX10_intake 66 = .ok (.iconst 0, 1) := by decide +kernel
theorem dX10_intake_67 : decode cX10_intake 67 = .ok (.sipush 500, 3) := by decide +kernel
theorem dX10_intake_70 : decode cX10_intake 70 = .ok (.invokestatic 33, 3) := by decide +kernel
theorem dX10_intake_73 : decode cX10_intake 73 = .ok (.ifCond .ne 13, 3) := by decide +kernel
theorem dX10_intake_76 : decode cX10_intake 76 = .ok (.new 37, 3) := by decide +kernel
theorem dX10_intake_79 : decode cX10_intake 79 = .ok (.dup, 1) := by decide +kernel
theorem dX10_intake_80 : decode cX10_intake 80 = .ok (.ldc 116, 2) := by decide +kernel
theorem dX10_intake_82 : decode cX10_intake 82 = .ok (.invokespecial 41, 3) := by decide +kernel
theorem dX10_intake_85 : decode cX10_intake 85 = .ok (.athrow, 1) := by decide +kernel
theorem dX10_intake_86 : decode cX10_intake 86 = .ok (.aload_n 0, 1) := by decide +kernel
theorem dX10_intake_87 : decode cX10_intake 87 = .ok (.getfield 10, 3) := by decide +kernel
theorem dX10_intake_90 : decode cX10_intake 90 = .ok (.getfield 118, 3) := by decide +kernel
theorem dX10_intake_93 : decode cX10_intake 93 = .ok (.bipush 6, 2) := by decide +kernel
theorem dX10_intake_95 : decode cX10_intake 95 = .ok (.if_icmp .lt 13, 3) := by decide +kernel
theorem dX10_intake_98 : decode cX10_intake 98 = .ok (.new 56, 3) := by decide +kernel
theorem dX10_intake_101 : decode cX10_intake 101 = .ok (.dup, 1) := by decide +kernel
theorem dX10_intake_102 : decode cX10_intake 102 = .ok (.ldc 121, 2) := by decide +kernel
theorem dX10_intake_104 : decode cX10_intake 104 = .ok (.invokespecial 60, 3) := by decide +kernel
theorem dX10_intake_107 : decode cX10_intake 107 = .ok (.athrow, 1) := by decide +kernel
theorem dX10_intake_108 : decode cX10_intake 108 = .ok (.aload_n 0, 1) := by decide +kernel
theorem dX10_intake_109 : decode cX10_intake 109 = .ok (.getfield 10, 3) := by decide +kernel
theorem dX10_intake_112 : decode cX10_intake 112 = .ok (.getfield 118, 3) := by decide +kernel
theorem dX10_intake_115 : decode cX10_intake 115 = .ok (.istore 6, 2) := by decide +kernel
theorem dX10_intake_117 : decode cX10_intake 117 = .ok (.aload_n 0, 1) := by decide +kernel
theorem dX10_intake_118 : decode cX10_intake 118 = .ok (.bipush 6, 2) := by decide +kernel
theorem dX10_intake_120 : decode cX10_intake 120 = .ok (.iload_n 1, 1) := by decide +kernel
theorem dX10_intake_121 : decode cX10_intake 121 = .ok (.iload_n 2, 1) := by decide +kernel
theorem dX10_intake_122 : decode cX10_intake 122 = .ok (.iload_n 3, 1) := by decide +kernel
theorem dX10_intake_123 : decode cX10_intake 123 = .ok (.iload 4, 2) := by decide +kernel
theorem dX10_intake_125 : decode cX10_intake 125 = .ok (.iload 5, 2) := by decide +kernel
theorem dX10_intake_127 : decode cX10_intake 127 = .ok (.invokevirtual 61, 3) := by decide +kernel
theorem dX10_intake_130 : decode cX10_intake 130 = .ok (.iload 6, 2) := by decide +kernel
theorem dX10_intake_132 : decode cX10_intake 132 = .ok (.ireturn, 1) := by decide +kernel
theorem dX10_oysters_0 : decode cX10_oysters 0 = .ok (.aload_n 0, 1) := by decide +kernel
theorem dX10_oysters_1 : decode cX10_oysters 1 = .ok (.getfield 10, 3) := by decide +kernel
theorem dX10_oysters_4 : decode cX10_oysters 4 = .ok (.iload_n 1, 1) := by decide +kernel
theorem dX10_oysters_5 : decode cX10_oysters 5 = .ok (.invokevirtual 105, 3) := by decide +kernel
theorem dX10_oysters_8 : decode cX10_oysters 8 = .ok (.ifCond .ne 13, 3) := by decide +kernel
theorem dX10_oysters_11 : decode cX10_oysters 11 = .ok (.new 109, 3) := by decide +kernel
theorem dX10_oysters_14 : decode cX10_oysters 14 = .ok (.dup, 1) := by decide +kernel
theorem dX10_oysters_15 : decode cX10_oysters 15 = .ok (.ldc 111, 2) := by decide +kernel
theorem dX10_oysters_17 : decode cX10_oysters 17 = .ok (.invokespecial 113, 3) := by decide +kernel
theorem dX10_oysters_20 : decode cX10_oysters 20 = .ok (.athrow, 1) := by decide +kernel
theorem dX10_oysters_21 : decode cX10_oysters 21 = .ok (.iload_n 2, 1) := by decide +kernel
theorem dX10_oysters_22 : decode cX10_oysters 22 = .ok (.iconst 0, 1) := by decide +kernel
theorem dX10_oysters_23 : decode cX10_oysters 23 = .ok (.bipush 30, 2) := by decide +kernel
theorem dX10_oysters_25 : decode cX10_oysters 25 = .ok (.invokestatic 33, 3) := by decide +kernel
theorem dX10_oysters_28 : decode cX10_oysters 28 = .ok (.ifCond .eq 13, 3) := by decide +kernel
theorem dX10_oysters_31 : decode cX10_oysters 31 = .ok (.iload_n 3, 1) := by decide +kernel
theorem dX10_oysters_32 : decode cX10_oysters 32 = .ok (.iconst 1, 1) := by decide +kernel
theorem dX10_oysters_33 : decode cX10_oysters 33 = .ok (.bipush 24, 2) := by decide +kernel
theorem dX10_oysters_35 : decode cX10_oysters 35 = .ok (.invokestatic 33, 3) := by decide +kernel
theorem dX10_oysters_38 : decode cX10_oysters 38 = .ok (.ifCond .ne 13, 3) := by decide +kernel
theorem dX10_oysters_41 : decode cX10_oysters 41 = .ok (.new 37, 3) := by decide +kernel
theorem dX10_oysters_44 : decode cX10_oysters 44 = .ok (.dup, 1) := by decide +kernel
theorem dX10_oysters_45 : decode cX10_oysters 45 = .ok (.ldc 123, 2) := by decide +kernel
theorem dX10_oysters_47 : decode cX10_oysters 47 = .ok (.invokespecial 41, 3) := by decide +kernel
theorem dX10_oysters_50 : decode cX10_oysters 50 = .ok (.athrow, 1) := by decide +kernel
theorem dX10_oysters_51 : decode cX10_oysters 51 = .ok (.aload_n 0, 1) := by decide +kernel
theorem dX10_oysters_52 : decode cX10_oysters 52 = .ok (.getfield 125, 3) := by decide +kernel
theorem dX10_oysters_55 : decode cX10_oysters 55 = .ok (.bipush 6, 2) := by decide +kernel
theorem dX10_oysters_57 : decode cX10_oysters 57 = .ok (.if_icmp .lt 13, 3) := by decide +kernel
theorem dX10_oysters_60 : decode cX10_oysters 60 = .ok (.new 56, 3) := by decide +kernel
theorem dX10_oysters_63 : decode cX10_oysters 63 = .ok (.dup, 1) := by decide +kernel
theorem dX10_oysters_64 : decode cX10_oysters 64 = .ok (.ldc 128, 2) := by decide +kernel
theorem dX10_oysters_66 : decode cX10_oysters 66 = .ok (.invokespecial 60, 3) := by decide +kernel
theorem dX10_oysters_69 : decode cX10_oysters 69 = .ok (.athrow, 1) := by decide +kernel
theorem dX10_oysters_70 : decode cX10_oysters 70 = .ok (.aload_n 0, 1) := by decide +kernel
theorem dX10_oysters_71 : decode cX10_oysters 71 = .ok (.getfield 125, 3) := by decide +kernel
theorem dX10_oysters_74 : decode cX10_oysters 74 = .ok (.istore 4, 2) := by decide +kernel
theorem dX10_oysters_76 : decode cX10_oysters 76 = .ok (.aload_n 0, 1) := by decide +kernel
theorem dX10_oysters_77 : decode cX10_oysters 77 = .ok (.getfield 28, 3) := by decide +kernel
theorem dX10_oysters_80 : decode cX10_oysters 80 = .ok (.iload 4, 2) := by decide +kernel
theorem dX10_oysters_82 : decode cX10_oysters 82 = .ok (.aaload, 1) := by decide +kernel
theorem dX10_oysters_83 : decode cX10_oysters 83 = .ok (.iload_n 1, 1) := by decide +kernel
theorem dX10_oysters_84 : decode cX10_oysters 84 = .ok (.putfield 130, 3) := by decide +kernel
theorem dX10_oysters_87 : decode cX10_oysters 87 = .ok (.aload_n 0, 1) := by decide +kernel
theorem dX10_oysters_88 : decode cX10_oysters 88 = .ok (.getfield 28, 3) := by decide +kernel
theorem dX10_oysters_91 : decode cX10_oysters 91 = .ok (.iload 4, 2) := by decide +kernel
theorem dX10_oysters_93 : decode cX10_oysters 93 = .ok (.aaload, 1) := by decide +kernel
theorem dX10_oysters_94 : decode cX10_oysters 94 = .ok (.iload_n 2, 1) := by decide +kernel
theorem dX10_oysters_95 : decode cX10_oysters 95 = .ok (.putfield 133, 3) := by decide +kernel
theorem dX10_oysters_98 : decode cX10_oysters 98 = .ok (.aload_n 0, 1) := by decide +kernel
theorem dX10_oysters_99 : decode cX10_oysters 99 = .ok (.getfield 28, 3) := by decide +kernel
theorem dX10_oysters_102 : decode cX10_oysters 102 = .ok (.iload 4, 2) := by decide +kernel
theorem dX10_oysters_104 : decode cX10_oysters 104 = .ok (.aaload, 1) := by decide +kernel
theorem dX10_oysters_105 : decode cX10_oysters 105 = .ok (.iload_n 3, 1) := by decide +kernel
theorem dX10_oysters_106 : decode cX10_oysters 106 = .ok (.putfield 136, 3) := by decide +kernel
theorem dX10_oysters_109 : decode cX10_oysters 109 = .ok (.aload_n 0, 1) := by decide +kernel
theorem dX10_oysters_110 : decode cX10_oysters 110 = .ok (.iload 4, 2) := by decide +kernel
theorem dX10_oysters_112 : decode cX10_oysters 112 = .ok (.iconst 1, 1) := by decide +kernel
theorem dX10_oysters_113 : decode cX10_oysters 113 = .ok (.iadd, 1) := by decide +kernel
theorem dX10_oysters_114 : decode cX10_oysters 114 = .ok (.putfield 125, 3) := by decide +kernel
theorem dX10_oysters_117 : decode cX10_oysters 117 = .ok (.iload 4, 2) := by decide +kernel
theorem dX10_oysters_119 : decode cX10_oysters 119 = .ok (.ireturn, 1) := by decide +kernel
theorem dX10_permit_0 : decode cX10_permit 0 = .ok (.aload_n 0, 1) := by decide +kernel
theorem dX10_permit_1 : decode cX10_permit 1 = .ok (.getfield 10, 3) := by decide +kernel
theorem dX10_permit_4 : decode cX10_permit 4 = .ok (.iload_n 1, 1) := by decide +kernel
theorem dX10_permit_5 : decode cX10_permit 5 = .ok (.invokevirtual 105, 3) := by decide +kernel
theorem dX10_permit_8 : decode cX10_permit 8 = .ok (.ifCond .ne 13, 3) := by decide +kernel
theorem dX10_permit_11 : decode cX10_permit 11 = .ok (.new 109, 3) := by decide +kernel
theorem dX10_permit_14 : decode cX10_permit 14 = .ok (.dup, 1) := by decide +kernel
theorem dX10_permit_15 : decode cX10_permit 15 = .ok (.ldc 111, 2) := by decide +kernel
theorem dX10_permit_17 : decode cX10_permit 17 = .ok (.invokespecial 113, 3) := by decide +kernel
theorem dX10_permit_20 : decode cX10_permit 20 = .ok (.athrow, 1) := by decide +kernel
theorem dX10_permit_21 : decode cX10_permit 21 = .ok (.iload_n 2, 1) := by decide +kernel
theorem dX10_permit_22 : decode cX10_permit 22 = .ok (.iconst 0, 1) := by decide +kernel
theorem dX10_permit_23 : decode cX10_permit 23 = .ok (.sipush 10000, 3) := by decide +kernel
theorem dX10_permit_26 : decode cX10_permit 26 = .ok (.invokestatic 33, 3) := by decide +kernel
theorem dX10_permit_29 : decode cX10_permit 29 = .ok (.ifCond .ne 13, 3) := by decide +kernel
theorem dX10_permit_32 : decode cX10_permit 32 = .ok (.new 37, 3) := by decide +kernel
theorem dX10_permit_35 : decode cX10_permit 35 = .ok (.dup, 1) := by decide +kernel
theorem dX10_permit_36 : decode cX10_permit 36 = .ok (.ldc 139, 2) := by decide +kernel
theorem dX10_permit_38 : decode cX10_permit 38 = .ok (.invokespecial 41, 3) := by decide +kernel
theorem dX10_permit_41 : decode cX10_permit 41 = .ok (.athrow, 1) := by decide +kernel
theorem dX10_permit_42 : decode cX10_permit 42 = .ok (.aload_n 0, 1) := by decide +kernel
theorem dX10_permit_43 : decode cX10_permit 43 = .ok (.getfield 10, 3) := by decide +kernel
theorem dX10_permit_46 : decode cX10_permit 46 = .ok (.getfield 141, 3) := by decide +kernel
theorem dX10_permit_49 : decode cX10_permit 49 = .ok (.iload_n 1, 1) := by decide +kernel
theorem dX10_permit_50 : decode cX10_permit 50 = .ok (.aaload, 1) := by decide +kernel
theorem dX10_permit_51 : decode cX10_permit 51 = .ok (.getfield 145, 3) := by decide +kernel
theorem dX10_permit_54 : decode cX10_permit 54 = .ok (.istore_n 3, 1) := by decide +kernel
theorem dX10_permit_55 : decode cX10_permit 55 = .ok (.aload_n 0, 1) := by decide +kernel
theorem dX10_permit_56 : decode cX10_permit 56 = .ok (.bipush 7, 2) := by decide +kernel
theorem dX10_permit_58 : decode cX10_permit 58 = .ok (.iload_n 1, 1) := by decide +kernel
theorem dX10_permit_59 : decode cX10_permit 59 = .ok (.iload_n 2, 1) := by decide +kernel
theorem dX10_permit_60 : decode cX10_permit 60 = .ok (.iconst 0, 1) := by decide +kernel
theorem dX10_permit_61 : decode cX10_permit 61 = .ok (.iconst 0, 1) := by decide +kernel
theorem dX10_permit_62 : decode cX10_permit 62 = .ok (.iconst 0, 1) := by decide +kernel
theorem dX10_permit_63 : decode cX10_permit 63 = .ok (.invokevirtual 61, 3) := by decide +kernel
theorem dX10_permit_66 : decode cX10_permit 66 = .ok (.iload_n 3, 1) := by decide +kernel
theorem dX10_permit_67 : decode cX10_permit 67 = .ok (.ireturn, 1) := by decide +kernel
theorem dX10_whyNot_0 : decode cX10_whyNot 0 = .ok (.aload_n 0, 1) := by decide +kernel
theorem dX10_whyNot_1 : decode cX10_whyNot 1 = .ok (.getfield 10, 3) := by decide +kernel
theorem dX10_whyNot_4 : decode cX10_whyNot 4 = .ok (.iload_n 1, 1) := by decide +kernel
theorem dX10_whyNot_5 : decode cX10_whyNot 5 = .ok (.invokevirtual 105, 3) := by decide +kernel
theorem dX10_whyNot_8 : decode cX10_whyNot 8 = .ok (.ifCond .ne 13, 3) := by decide +kernel
theorem dX10_whyNot_11 : decode cX10_whyNot 11 = .ok (.new 109, 3) := by decide +kernel
theorem dX10_whyNot_14 : decode cX10_whyNot 14 = .ok (.dup, 1) := by decide +kernel
theorem dX10_whyNot_15 : decode cX10_whyNot 15 = .ok (.ldc 111, 2) := by decide +kernel
theorem dX10_whyNot_17 : decode cX10_whyNot 17 = .ok (.invokespecial 113, 3) := by decide +kernel
theorem dX10_whyNot_20 : decode cX10_whyNot 20 = .ok (.athrow, 1) := by decide +kernel
theorem dX10_whyNot_21 : decode cX10_whyNot 21 = .ok (.iload_n 2, 1) := by decide +kernel
theorem dX10_whyNot_22 : decode cX10_whyNot 22 = .ok (.iconst 1, 1) := by decide +kernel
theorem dX10_whyNot_23 : decode cX10_whyNot 23 = .ok (.sipush 10000, 3) := by decide +kernel
theorem dX10_whyNot_26 : decode cX10_whyNot 26 = .ok (.invokestatic 33, 3) := by decide +kernel
theorem dX10_whyNot_29 : decode cX10_whyNot 29 = .ok (.ifCond .ne 13, 3) := by decide +kernel
theorem dX10_whyNot_32 : decode cX10_whyNot 32 = .ok (.new 37, 3) := by decide +kernel
theorem dX10_whyNot_35 : decode cX10_whyNot 35 = .ok (.dup, 1) := by decide +kernel
theorem dX10_whyNot_36 : decode cX10_whyNot 36 = .ok (.ldc 139, 2) := by decide +kernel
theorem dX10_whyNot_38 : decode cX10_whyNot 38 = .ok (.invokespecial 41, 3) := by decide +kernel
theorem dX10_whyNot_41 : decode cX10_whyNot 41 = .ok (.athrow, 1) := by decide +kernel
theorem dX10_whyNot_42 : decode cX10_whyNot 42 = .ok (.aload_n 0, 1) := by decide +kernel
theorem dX10_whyNot_43 : decode cX10_whyNot 43 = .ok (.getfield 10, 3) := by decide +kernel
theorem dX10_whyNot_46 : decode cX10_whyNot 46 = .ok (.getfield 141, 3) := by decide +kernel
theorem dX10_whyNot_49 : decode cX10_whyNot 49 = .ok (.iload_n 1, 1) := by decide +kernel
theorem dX10_whyNot_50 : decode cX10_whyNot 50 = .ok (.aaload, 1) := by decide +kernel
theorem dX10_whyNot_51 : decode cX10_whyNot 51 = .ok (.iload_n 2, 1) := by decide +kernel
theorem dX10_whyNot_52 : decode cX10_whyNot 52 = .ok (.invokevirtual 150, 3) := by decide +kernel
theorem dX10_whyNot_55 : decode cX10_whyNot 55 = .ok (.ireturn, 1) := by decide +kernel
theorem dX10_dredge_0 : decode cX10_dredge 0 = .ok (.aload_n 0, 1) := by decide +kernel
theorem dX10_dredge_1 : decode cX10_dredge 1 = .ok (.getfield 10, 3) := by decide +kernel
theorem dX10_dredge_4 : decode cX10_dredge 4 = .ok (.iload_n 1, 1) := by decide +kernel
theorem dX10_dredge_5 : decode cX10_dredge 5 = .ok (.invokevirtual 105, 3) := by decide +kernel
theorem dX10_dredge_8 : decode cX10_dredge 8 = .ok (.ifCond .eq 19, 3) := by decide +kernel
theorem dX10_dredge_11 : decode cX10_dredge 11 = .ok (.iload_n 3, 1) := by decide +kernel
theorem dX10_dredge_12 : decode cX10_dredge 12 = .ok (.iconst (-1), 1) := by decide +kernel
theorem dX10_dredge_13 : decode cX10_dredge 13 = .ok (.if_icmp .eq 24, 3) := by decide +kernel
theorem dX10_dredge_16 : decode cX10_dredge 16 = .ok (.aload_n 0, 1) := by decide +kernel
theorem dX10_dredge_17 : decode cX10_dredge 17 = .ok (.getfield 10, 3) := by decide +kernel
theorem dX10_dredge_20 : decode cX10_dredge 20 = .ok (.iload_n 3, 1) := by decide +kernel
theorem dX10_dredge_21 : decode cX10_dredge 21 = .ok (.invokevirtual 105, 3) := by decide +kernel
theorem dX10_dredge_24 : decode cX10_dredge 24 = .ok (.ifCond .ne 13, 3) := by decide +kernel
theorem dX10_dredge_27 : decode cX10_dredge 27 = .ok (.new 109, 3) := by decide +kernel
theorem dX10_dredge_30 : decode cX10_dredge 30 = .ok (.dup, 1) := by decide +kernel
theorem dX10_dredge_31 : decode cX10_dredge 31 = .ok (.ldc 111, 2) := by decide +kernel
theorem dX10_dredge_33 : decode cX10_dredge 33 = .ok (.invokespecial 113, 3) := by decide +kernel
theorem dX10_dredge_36 : decode cX10_dredge 36 = .ok (.athrow, 1) := by decide +kernel
theorem dX10_dredge_37 : decode cX10_dredge 37 = .ok (.iload_n 2, 1) := by decide +kernel
theorem dX10_dredge_38 : decode cX10_dredge 38 = .ok (.iconst 1, 1) := by decide +kernel
theorem dX10_dredge_39 : decode cX10_dredge 39 = .ok (.sipush 10000, 3) := by decide +kernel
theorem dX10_dredge_42 : decode cX10_dredge 42 = .ok (.invokestatic 33, 3) := by decide +kernel
theorem dX10_dredge_45 : decode cX10_dredge 45 = .ok (.ifCond .eq 8, 3) := by decide +kernel
theorem dX10_dredge_48 : decode cX10_dredge 48 = .ok (.iload_n 1, 1) := by decide +kernel
theorem dX10_dredge_49 : decode cX10_dredge 49 = .ok (.iload_n 3, 1) := by decide +kernel
theorem dX10_dredge_50 : decode cX10_dredge 50 = .ok (.if_icmp .ne 13, 3) := by decide +kernel
theorem dX10_dredge_53 : decode cX10_dredge 53 = .ok (.new 37, 3) := by decide +kernel
theorem dX10_dredge_56 : decode cX10_dredge 56 = .ok (.dup, 1) := by decide +kernel
theorem dX10_dredge_57 : decode cX10_dredge 57 = .ok (.ldc 154, 2) := by decide +kernel
theorem dX10_dredge_59 : decode cX10_dredge 59 = .ok (.invokespecial 41, 3) := by decide +kernel
theorem dX10_dredge_62 : decode cX10_dredge 62 = .ok (.athrow, 1) := by decide +kernel
theorem dX10_dredge_63 : decode cX10_dredge 63 = .ok (.aload_n 0, 1) := by decide +kernel
theorem dX10_dredge_64 : decode cX10_dredge 64 = .ok (.getfield 10, 3) := by decide +kernel
theorem dX10_dredge_67 : decode cX10_dredge 67 = .ok (.getfield 141, 3) := by decide +kernel
theorem dX10_dredge_70 : decode cX10_dredge 70 = .ok (.iload_n 1, 1) := by decide +kernel
theorem dX10_dredge_71 : decode cX10_dredge 71 = .ok (.aaload, 1) := by decide +kernel
theorem dX10_dredge_72 : decode cX10_dredge 72 = .ok (.iload_n 2, 1) := by decide +kernel
theorem dX10_dredge_73 : decode cX10_dredge 73 = .ok (.invokevirtual 150, 3) := by decide +kernel
theorem dX10_dredge_76 : decode cX10_dredge 76 = .ok (.ifCond .eq 13, 3) := by decide +kernel
theorem dX10_dredge_79 : decode cX10_dredge 79 = .ok (.new 56, 3) := by decide +kernel
theorem dX10_dredge_82 : decode cX10_dredge 82 = .ok (.dup, 1) := by decide +kernel
theorem dX10_dredge_83 : decode cX10_dredge 83 = .ok (.ldc 156, 2) := by decide +kernel
theorem dX10_dredge_85 : decode cX10_dredge 85 = .ok (.invokespecial 60, 3) := by decide +kernel
theorem dX10_dredge_88 : decode cX10_dredge 88 = .ok (.athrow, 1) := by decide +kernel
theorem dX10_dredge_89 : decode cX10_dredge 89 = .ok (.aload_n 0, 1) := by decide +kernel
theorem dX10_dredge_90 : decode cX10_dredge 90 = .ok (.bipush 8, 2) := by decide +kernel
theorem dX10_dredge_92 : decode cX10_dredge 92 = .ok (.iload_n 1, 1) := by decide +kernel
theorem dX10_dredge_93 : decode cX10_dredge 93 = .ok (.iload_n 2, 1) := by decide +kernel
theorem dX10_dredge_94 : decode cX10_dredge 94 = .ok (.iload_n 3, 1) := by decide +kernel
theorem dX10_dredge_95 : decode cX10_dredge 95 = .ok (.iconst 0, 1) := by decide +kernel
theorem dX10_dredge_96 : decode cX10_dredge 96 = .ok (.iconst 0, 1) := by decide +kernel
theorem dX10_dredge_97 : decode cX10_dredge 97 = .ok (.invokevirtual 61, 3) := by decide +kernel
theorem dX10_dredge_100 : decode cX10_dredge 100 = .ok (.aload_n 0, 1) := by decide +kernel
theorem dX10_dredge_101 : decode cX10_dredge 101 = .ok (.getfield 10, 3) := by decide +kernel
theorem dX10_dredge_104 : decode cX10_dredge 104 = .ok (.getfield 141, 3) := by decide +kernel
theorem dX10_dredge_107 : decode cX10_dredge 107 = .ok (.iload_n 1, 1) := by decide +kernel
theorem dX10_dredge_108 : decode cX10_dredge 108 = .ok (.aaload, 1) := by decide +kernel
theorem dX10_dredge_109 : decode cX10_dredge 109 = .ok (.getfield 145, 3) := by decide +kernel
theorem dX10_dredge_112 : decode cX10_dredge 112 = .ok (.ireturn, 1) := by decide +kernel
theorem dX10_pass_0 : decode cX10_pass 0 = .ok (.iload_n 1, 1) := by decide +kernel
theorem dX10_pass_1 : decode cX10_pass 1 = .ok (.iconst 1, 1) := by decide +kernel
theorem dX10_pass_2 : decode cX10_pass 2 = .ok (.bipush 48, 2) := by decide +kernel
theorem dX10_pass_4 : decode cX10_pass 4 = .ok (.invokestatic 33, 3) := by decide +kernel
theorem dX10_pass_7 : decode cX10_pass 7 = .ok (.ifCond .ne 13, 3) := by decide +kernel
theorem dX10_pass_10 : decode cX10_pass 10 = .ok (.new 37, 3) := by decide +kernel
theorem dX10_pass_13 : decode cX10_pass 13 = .ok (.dup, 1) := by decide +kernel
theorem dX10_pass_14 : decode cX10_pass 14 = .ok (.ldc 158, 2) := by decide +kernel
theorem dX10_pass_16 : decode cX10_pass 16 = .ok (.invokespecial 41, 3) := by decide +kernel
theorem dX10_pass_19 : decode cX10_pass 19 = .ok (.athrow, 1) := by decide +kernel
theorem dX10_pass_20 : decode cX10_pass 20 = .ok (.aload_n 0, 1) := by decide +kernel
theorem dX10_pass_21 : decode cX10_pass 21 = .ok (.getfield 10, 3) := by decide +kernel
theorem dX10_pass_24 : decode cX10_pass 24 = .ok (.getfield 70, 3) := by decide +kernel
theorem dX10_pass_27 : decode cX10_pass 27 = .ok (.iload_n 1, 1) := by decide +kernel
theorem dX10_pass_28 : decode cX10_pass 28 = .ok (.iadd, 1) := by decide +kernel
theorem dX10_pass_29 : decode cX10_pass 29 = .ok (.sipush 1000, 3) := by decide +kernel
theorem dX10_pass_32 : decode cX10_pass 32 = .ok (.if_icmp .le 13, 3) := by decide +kernel
theorem dX10_pass_35 : decode cX10_pass 35 = .ok (.new 56, 3) := by decide +kernel
theorem dX10_pass_38 : decode cX10_pass 38 = .ok (.dup, 1) := by decide +kernel
theorem dX10_pass_39 : decode cX10_pass 39 = .ok (.ldc 160, 2) := by decide +kernel
theorem dX10_pass_41 : decode cX10_pass 41 = .ok (.invokespecial 60, 3) := by decide +kernel
theorem dX10_pass_44 : decode cX10_pass 44 = .ok (.athrow, 1) := by decide +kernel
theorem dX10_pass_45 : decode cX10_pass 45 = .ok (.aload_n 0, 1) := by decide +kernel
theorem dX10_pass_46 : decode cX10_pass 46 = .ok (.getfield 10, 3) := by decide +kernel
theorem dX10_pass_49 : decode cX10_pass 49 = .ok (.aload_n 0, 1) := by decide +kernel
theorem dX10_pass_50 : decode cX10_pass 50 = .ok (.getfield 10, 3) := by decide +kernel
theorem dX10_pass_53 : decode cX10_pass 53 = .ok (.getfield 70, 3) := by decide +kernel
theorem dX10_pass_56 : decode cX10_pass 56 = .ok (.iload_n 1, 1) := by decide +kernel
theorem dX10_pass_57 : decode cX10_pass 57 = .ok (.iadd, 1) := by decide +kernel
theorem dX10_pass_58 : decode cX10_pass 58 = .ok (.invokevirtual 162, 3) := by decide +kernel
theorem dX10_pass_61 : decode cX10_pass 61 = .ok (.aload_n 0, 1) := by decide +kernel
theorem dX10_pass_62 : decode cX10_pass 62 = .ok (.getfield 10, 3) := by decide +kernel
theorem dX10_pass_65 : decode cX10_pass 65 = .ok (.getfield 70, 3) := by decide +kernel
theorem dX10_pass_68 : decode cX10_pass 68 = .ok (.ireturn, 1) := by decide +kernel
theorem dX10_now_0 : decode cX10_now 0 = .ok (.aload_n 0, 1) := by decide +kernel
theorem dX10_now_1 : decode cX10_now 1 = .ok (.getfield 10, 3) := by decide +kernel
theorem dX10_now_4 : decode cX10_now 4 = .ok (.getfield 70, 3) := by decide +kernel
theorem dX10_now_7 : decode cX10_now 7 = .ok (.ireturn, 1) := by decide +kernel
theorem dX10_sea_0 : decode cX10_sea 0 = .ok (.iload_n 1, 1) := by decide +kernel
theorem dX10_sea_1 : decode cX10_sea 1 = .ok (.iconst 0, 1) := by decide +kernel
theorem dX10_sea_2 : decode cX10_sea 2 = .ok (.sipush 2000, 3) := by decide +kernel
theorem dX10_sea_5 : decode cX10_sea 5 = .ok (.invokestatic 33, 3) := by decide +kernel
theorem dX10_sea_8 : decode cX10_sea 8 = .ok (.ifCond .ne 13, 3) := by decide +kernel
theorem dX10_sea_11 : decode cX10_sea 11 = .ok (.new 37, 3) := by decide +kernel
theorem dX10_sea_14 : decode cX10_sea 14 = .ok (.dup, 1) := by decide +kernel
theorem dX10_sea_15 : decode cX10_sea 15 = .ok (.ldc 166, 2) := by decide +kernel
theorem dX10_sea_17 : decode cX10_sea 17 = .ok (.invokespecial 41, 3) := by decide +kernel
theorem dX10_sea_20 : decode cX10_sea 20 = .ok (.athrow, 1) := by decide +kernel
theorem dX10_sea_21 : decode cX10_sea 21 = .ok (.aload_n 0, 1) := by decide +kernel
theorem dX10_sea_22 : decode cX10_sea 22 = .ok (.getfield 10, 3) := by decide +kernel
theorem dX10_sea_25 : decode cX10_sea 25 = .ok (.iload_n 1, 1) := by decide +kernel
theorem dX10_sea_26 : decode cX10_sea 26 = .ok (.invokevirtual 168, 3) := by decide +kernel
theorem dX10_sea_29 : decode cX10_sea 29 = .ok (.ireturn, 1) := by decide +kernel
theorem dX10_ofSection_0 : decode cX10_ofSection 0 = .ok (.aload_n 0, 1) := by decide +kernel
theorem dX10_ofSection_1 : decode cX10_ofSection 1 = .ok (.getfield 10, 3) := by decide +kernel
theorem dX10_ofSection_4 : decode cX10_ofSection 4 = .ok (.iload_n 1, 1) := by decide +kernel
theorem dX10_ofSection_5 : decode cX10_ofSection 5 = .ok (.invokevirtual 105, 3) := by decide +kernel
theorem dX10_ofSection_8 : decode cX10_ofSection 8 = .ok (.ifCond .ne 13, 3) := by decide +kernel
theorem dX10_ofSection_11 : decode cX10_ofSection 11 = .ok (.new 109, 3) := by decide +kernel
theorem dX10_ofSection_14 : decode cX10_ofSection 14 = .ok (.dup, 1) := by decide +kernel
theorem dX10_ofSection_15 : decode cX10_ofSection 15 = .ok (.ldc 111, 2) := by decide +kernel
theorem dX10_ofSection_17 : decode cX10_ofSection 17 = .ok (.invokespecial 113, 3) := by decide +kernel
theorem dX10_ofSection_20 : decode cX10_ofSection 20 = .ok (.athrow, 1) := by decide +kernel
theorem dX10_ofSection_21 : decode cX10_ofSection 21 = .ok (.iload_n 2, 1) := by decide +kernel
theorem dX10_ofSection_22 : decode cX10_ofSection 22 = .ok (.iconst 0, 1) := by decide +kernel
theorem dX10_ofSection_23 : decode cX10_ofSection 23 = .ok (.bipush 9, 2) := by decide +kernel
theorem dX10_ofSection_25 : decode cX10_ofSection 25 = .ok (.invokestatic 33, 3) := by decide +kernel
theorem dX10_ofSection_28 : decode cX10_ofSection 28 = .ok (.ifCond .ne 13, 3) := by decide +kernel
theorem dX10_ofSection_31 : decode cX10_ofSection 31 = .ok (.new 37, 3) := by decide +kernel
theorem dX10_ofSection_34 : decode cX10_ofSection 34 = .ok (.dup, 1) := by decide +kernel
theorem dX10_ofSection_35 : decode cX10_ofSection 35 = .ok (.ldc 171, 2) := by decide +kernel
theorem dX10_ofSection_37 : decode cX10_ofSection 37 = .ok (.invokespecial 41, 3) := by decide +kernel
theorem dX10_ofSection_40 : decode cX10_ofSection 40 = .ok (.athrow, 1) := by decide +kernel
theorem dX10_ofSection_41 : decode cX10_ofSection 41 = .ok (.aload_n 0, 1) := by decide +kernel
theorem dX10_ofSection_42 : decode cX10_ofSection 42 = .ok (.getfield 10, 3) := by decide +kernel
theorem dX10_ofSection_45 : decode cX10_ofSection 45 = .ok (.getfield 141, 3) := by decide +kernel
theorem dX10_ofSection_48 : decode cX10_ofSection 48 = .ok (.iload_n 1, 1) := by decide +kernel
theorem dX10_ofSection_49 : decode cX10_ofSection 49 = .ok (.aaload, 1) := by decide +kernel
theorem dX10_ofSection_50 : decode cX10_ofSection 50 = .ok (.iload_n 2, 1) := by decide +kernel
theorem dX10_ofSection_51 : decode cX10_ofSection 51 = .ok (.invokevirtual 173, 3) := by decide +kernel
theorem dX10_ofSection_54 : decode cX10_ofSection 54 = .ok (.ireturn, 1) := by decide +kernel
theorem dX10_ofSectionAnew_0 : decode cX10_ofSectionAnew 0 = .ok (.aload_n 0, 1) := by decide +kernel
theorem dX10_ofSectionAnew_1 : decode cX10_ofSectionAnew 1 = .ok (.getfield 10, 3) := by decide +kernel
theorem dX10_ofSectionAnew_4 : decode cX10_ofSectionAnew 4 = .ok (.iload_n 1, 1) := by decide +kernel
theorem dX10_ofSectionAnew_5 : decode cX10_ofSectionAnew 5 = .ok (.invokevirtual 105, 3) := by decide +kernel
theorem dX10_ofSectionAnew_8 : decode cX10_ofSectionAnew 8 = .ok (.ifCond .ne 13, 3) := by decide +kernel
theorem dX10_ofSectionAnew_11 : decode cX10_ofSectionAnew 11 = .ok (.new 109, 3) := by decide +kernel
theorem dX10_ofSectionAnew_14 : decode cX10_ofSectionAnew 14 = .ok (.dup, 1) := by decide +kernel
theorem dX10_ofSectionAnew_15 : decode cX10_ofSectionAnew 15 = .ok (.ldc 111, 2) := by decide +kernel
theorem dX10_ofSectionAnew_17 : decode cX10_ofSectionAnew 17 = .ok (.invokespecial 113, 3) := by decide +kernel
theorem dX10_ofSectionAnew_20 : decode cX10_ofSectionAnew 20 = .ok (.athrow, 1) := by decide +kernel
theorem dX10_ofSectionAnew_21 : decode cX10_ofSectionAnew 21 = .ok (.iload_n 2, 1) := by decide +kernel
theorem dX10_ofSectionAnew_22 : decode cX10_ofSectionAnew 22 = .ok (.iconst 0, 1) := by decide +kernel
theorem dX10_ofSectionAnew_23 : decode cX10_ofSectionAnew 23 = .ok (.bipush 9, 2) := by decide +kernel
theorem dX10_ofSectionAnew_25 : decode cX10_ofSectionAnew 25 = .ok (.invokestatic 33, 3) := by decide +kernel
theorem dX10_ofSectionAnew_28 : decode cX10_ofSectionAnew 28 = .ok (.ifCond .ne 13, 3) := by decide +kernel
theorem dX10_ofSectionAnew_31 : decode cX10_ofSectionAnew 31 = .ok (.new 37, 3) := by decide +kernel
theorem dX10_ofSectionAnew_34 : decode cX10_ofSectionAnew 34 = .ok (.dup, 1) := by decide +kernel
theorem dX10_ofSectionAnew_35 : decode cX10_ofSectionAnew 35 = .ok (.ldc 171, 2) := by decide +kernel
theorem dX10_ofSectionAnew_37 : decode cX10_ofSectionAnew 37 = .ok (.invokespecial 41, 3) := by decide +kernel
theorem dX10_ofSectionAnew_40 : decode cX10_ofSectionAnew 40 = .ok (.athrow, 1) := by decide +kernel
theorem dX10_ofSectionAnew_41 : decode cX10_ofSectionAnew 41 = .ok (.aload_n 0, 1) := by decide +kernel
theorem dX10_ofSectionAnew_42 : decode cX10_ofSectionAnew 42 = .ok (.getfield 16, 3) := by decide +kernel
theorem dX10_ofSectionAnew_45 : decode cX10_ofSectionAnew 45 = .ok (.invokevirtual 176, 3) := by decide +kernel
theorem dX10_ofSectionAnew_48 : decode cX10_ofSectionAnew 48 = .ok (.iconst 0, 1) := by decide +kernel
theorem dX10_ofSectionAnew_49 : decode cX10_ofSectionAnew 49 = .ok (.istore_n 3, 1) := by decide +kernel
theorem dX10_ofSectionAnew_50 : decode cX10_ofSectionAnew 50 = .ok (.iload_n 3, 1) := by decide +kernel
theorem dX10_ofSectionAnew_51 : decode cX10_ofSectionAnew 51 = .ok (.aload_n 0, 1) := by decide +kernel
theorem dX10_ofSectionAnew_52 : decode cX10_ofSectionAnew 52 = .ok (.getfield 22, 3) := by decide +kernel
theorem dX10_ofSectionAnew_55 : decode cX10_ofSectionAnew 55 = .ok (.getfield 179, 3) := by decide +kernel
theorem dX10_ofSectionAnew_58 : decode cX10_ofSectionAnew 58 = .ok (.if_icmp .ge 87, 3) := by decide +kernel
theorem dX10_ofSectionAnew_61 : decode cX10_ofSectionAnew 61 = .ok (.aload_n 0, 1) := by decide +kernel
theorem dX10_ofSectionAnew_62 : decode cX10_ofSectionAnew 62 = .ok (.getfield 16, 3) := by decide +kernel
theorem dX10_ofSectionAnew_65 : decode cX10_ofSectionAnew 65 = .ok (.aload_n 0, 1) := by decide +kernel
theorem dX10_ofSectionAnew_66 : decode cX10_ofSectionAnew 66 = .ok (.getfield 22, 3) := by decide +kernel
theorem dX10_ofSectionAnew_69 : decode cX10_ofSectionAnew 69 = .ok (.iload_n 3, 1) := by decide +kernel
theorem dX10_ofSectionAnew_70 : decode cX10_ofSectionAnew 70 = .ok (.iconst 0, 1) := by decide +kernel
theorem dX10_ofSectionAnew_71 : decode cX10_ofSectionAnew 71 = .ok (.invokevirtual 182, 3) := by decide +kernel
theorem dX10_ofSectionAnew_74 : decode cX10_ofSectionAnew 74 = .ok (.invokevirtual 162, 3) := by decide +kernel
theorem dX10_ofSectionAnew_77 : decode cX10_ofSectionAnew 77 = .ok (.aload_n 0, 1) := by decide +kernel
theorem dX10_ofSectionAnew_78 : decode cX10_ofSectionAnew 78 = .ok (.getfield 16, 3) := by decide +kernel
theorem dX10_ofSectionAnew_81 : decode cX10_ofSectionAnew 81 = .ok (.aload_n 0, 1) := by decide +kernel
theorem dX10_ofSectionAnew_82 : decode cX10_ofSectionAnew 82 = .ok (.getfield 22, 3) := by decide +kernel
theorem dX10_ofSectionAnew_85 : decode cX10_ofSectionAnew 85 = .ok (.iload_n 3, 1) := by decide +kernel
theorem dX10_ofSectionAnew_86 : decode cX10_ofSectionAnew 86 = .ok (.iconst 1, 1) := by decide +kernel
theorem dX10_ofSectionAnew_87 : decode cX10_ofSectionAnew 87 = .ok (.invokevirtual 182, 3) := by decide +kernel
theorem dX10_ofSectionAnew_90 : decode cX10_ofSectionAnew 90 = .ok (.aload_n 0, 1) := by decide +kernel
theorem dX10_ofSectionAnew_91 : decode cX10_ofSectionAnew 91 = .ok (.getfield 22, 3) := by decide +kernel
theorem dX10_ofSectionAnew_94 : decode cX10_ofSectionAnew 94 = .ok (.iload_n 3, 1) := by decide +kernel
theorem dX10_ofSectionAnew_95 : decode cX10_ofSectionAnew 95 = .ok (.iconst 2, 1) := by decide +kernel
theorem dX10_ofSectionAnew_96 : decode cX10_ofSectionAnew 96 = .ok (.invokevirtual 182, 3) := by decide +kernel
theorem dX10_ofSectionAnew_99 : decode cX10_ofSectionAnew 99 = .ok (.aload_n 0, 1) := by decide +kernel
theorem dX10_ofSectionAnew_100 : decode cX10_ofSectionAnew 100 = .ok (.getfield 22, 3) := by decide +kernel
theorem dX10_ofSectionAnew_103 : decode cX10_ofSectionAnew 103 = .ok (.iload_n 3, 1) := by decide +kernel
theorem dX10_ofSectionAnew_104 : decode cX10_ofSectionAnew 104 = .ok (.iconst 3, 1) := by decide +kernel
theorem dX10_ofSectionAnew_105 : decode cX10_ofSectionAnew 105 = .ok (.invokevirtual 182, 3) := by decide +kernel
theorem dX10_ofSectionAnew_108 : decode cX10_ofSectionAnew 108 = .ok (.aload_n 0, 1) := by decide +kernel
theorem dX10_ofSectionAnew_109 : decode cX10_ofSectionAnew 109 = .ok (.getfield 22, 3) := by decide +kernel
theorem dX10_ofSectionAnew_112 : decode cX10_ofSectionAnew 112 = .ok (.iload_n 3, 1) := by decide +kernel
theorem dX10_ofSectionAnew_113 : decode cX10_ofSectionAnew 113 = .ok (.iconst 4, 1) := by decide +kernel
theorem dX10_ofSectionAnew_114 : decode cX10_ofSectionAnew 114 = .ok (.invokevirtual 182, 3) := by decide +kernel
theorem dX10_ofSectionAnew_117 : decode cX10_ofSectionAnew 117 = .ok (.aload_n 0, 1) := by decide +kernel
theorem dX10_ofSectionAnew_118 : decode cX10_ofSectionAnew 118 = .ok (.getfield 22, 3) := by decide +kernel
theorem dX10_ofSectionAnew_121 : decode cX10_ofSectionAnew 121 = .ok (.iload_n 3, 1) := by decide +kernel
theorem dX10_ofSectionAnew_122 : decode cX10_ofSectionAnew 122 = .ok (.iconst 5, 1) := by decide +kernel
theorem dX10_ofSectionAnew_123 : decode cX10_ofSectionAnew 123 = .ok (.invokevirtual 182, 3) := by decide +kernel
theorem dX10_ofSectionAnew_126 : decode cX10_ofSectionAnew 126 = .ok (.aload_n 0, 1) := by decide +kernel
theorem dX10_ofSectionAnew_127 : decode cX10_ofSectionAnew 127 = .ok (.getfield 22, 3) := by decide +kernel
theorem dX10_ofSectionAnew_130 : decode cX10_ofSectionAnew 130 = .ok (.iload_n 3, 1) := by decide +kernel
theorem dX10_ofSectionAnew_131 : decode cX10_ofSectionAnew 131 = .ok (.bipush 6, 2) := by decide +kernel
theorem dX10_ofSectionAnew_133 : decode cX10_ofSectionAnew 133 = .ok (.invokevirtual 182, 3) := by decide +kernel
theorem dX10_ofSectionAnew_136 : decode cX10_ofSectionAnew 136 = .ok (.invokevirtual 186, 3) := by decide +kernel
theorem dX10_ofSectionAnew_139 : decode cX10_ofSectionAnew 139 = .ok (.iinc 3 1, 3) := by decide +kernel
theorem dX10_ofSectionAnew_142 : decode cX10_ofSectionAnew 142 = .ok (.goto (-92), 3) := by decide +kernel
theorem dX10_ofSectionAnew_145 : decode cX10_ofSectionAnew 145 = .ok (.aload_n 0, 1) := by decide +kernel
theorem dX10_ofSectionAnew_146 : decode cX10_ofSectionAnew 146 = .ok (.getfield 16, 3) := by decide +kernel
theorem dX10_ofSectionAnew_149 : decode cX10_ofSectionAnew 149 = .ok (.aload_n 0, 1) := by decide +kernel
theorem dX10_ofSectionAnew_150 : decode cX10_ofSectionAnew 150 = .ok (.getfield 10, 3) := by decide +kernel
theorem dX10_ofSectionAnew_153 : decode cX10_ofSectionAnew 153 = .ok (.getfield 70, 3) := by decide +kernel
theorem dX10_ofSectionAnew_156 : decode cX10_ofSectionAnew 156 = .ok (.invokevirtual 162, 3) := by decide +kernel
theorem dX10_ofSectionAnew_159 : decode cX10_ofSectionAnew 159 = .ok (.aload_n 0, 1) := by decide +kernel
theorem dX10_ofSectionAnew_160 : decode cX10_ofSectionAnew 160 = .ok (.getfield 16, 3) := by decide +kernel
theorem dX10_ofSectionAnew_163 : decode cX10_ofSectionAnew 163 = .ok (.getfield 141, 3) := by decide +kernel
theorem dX10_ofSectionAnew_166 : decode cX10_ofSectionAnew 166 = .ok (.iload_n 1, 1) := by decide +kernel
theorem dX10_ofSectionAnew_167 : decode cX10_ofSectionAnew 167 = .ok (.aaload, 1) := by decide +kernel
theorem dX10_ofSectionAnew_168 : decode cX10_ofSectionAnew 168 = .ok (.iload_n 2, 1) := by decide +kernel
theorem dX10_ofSectionAnew_169 : decode cX10_ofSectionAnew 169 = .ok (.invokevirtual 173, 3) := by decide +kernel
theorem dX10_ofSectionAnew_172 : decode cX10_ofSectionAnew 172 = .ok (.ireturn, 1) := by decide +kernel
theorem dX10_ofIntake_0 : decode cX10_ofIntake 0 = .ok (.iload_n 1, 1) := by decide +kernel
theorem dX10_ofIntake_1 : decode cX10_ofIntake 1 = .ok (.ifCond .lt 14, 3) := by decide +kernel
theorem dX10_ofIntake_4 : decode cX10_ofIntake 4 = .ok (.iload_n 1, 1) := by decide +kernel
theorem dX10_ofIntake_5 : decode cX10_ofIntake 5 = .ok (.aload_n 0, 1) := by decide +kernel
theorem dX10_ofIntake_6 : decode cX10_ofIntake 6 = .ok (.getfield 10, 3) := by decide +kernel
theorem dX10_ofIntake_9 : decode cX10_ofIntake 9 = .ok (.getfield 118, 3) := by decide +kernel
theorem dX10_ofIntake_12 : decode cX10_ofIntake 12 = .ok (.if_icmp .lt 13, 3) := by decide +kernel
theorem dX10_ofIntake_15 : decode cX10_ofIntake 15 = .ok (.new 109, 3) := by decide +kernel
theorem dX10_ofIntake_18 : decode cX10_ofIntake 18 = .ok (.dup, 1) := by decide +kernel
theorem dX10_ofIntake_19 : decode cX10_ofIntake 19 = .ok (.ldc 189, 2) := by decide +kernel
theorem dX10_ofIntake_21 : decode cX10_ofIntake 21 = .ok (.invokespecial 113, 3) := by decide +kernel
theorem dX10_ofIntake_24 : decode cX10_ofIntake 24 = .ok (.athrow, 1) := by decide +kernel
theorem dX10_ofIntake_25 : decode cX10_ofIntake 25 = .ok (.iload_n 2, 1) := by decide +kernel
theorem dX10_ofIntake_26 : decode cX10_ofIntake 26 = .ok (.iconst 0, 1) := by decide +kernel
theorem dX10_ofIntake_27 : decode cX10_ofIntake 27 = .ok (.iconst 4, 1) := by decide +kernel
theorem dX10_ofIntake_28 : decode cX10_ofIntake 28 = .ok (.invokestatic 33, 3) := by decide +kernel
theorem dX10_ofIntake_31 : decode cX10_ofIntake 31 = .ok (.ifCond .ne 13, 3) := by decide +kernel
theorem dX10_ofIntake_34 : decode cX10_ofIntake 34 = .ok (.new 37, 3) := by decide +kernel
theorem dX10_ofIntake_37 : decode cX10_ofIntake 37 = .ok (.dup, 1) := by decide +kernel
theorem dX10_ofIntake_38 : decode cX10_ofIntake 38 = .ok (.ldc 171, 2) := by decide +kernel
theorem dX10_ofIntake_40 : decode cX10_ofIntake 40 = .ok (.invokespecial 41, 3) := by decide +kernel
theorem dX10_ofIntake_43 : decode cX10_ofIntake 43 = .ok (.athrow, 1) := by decide +kernel
theorem dX10_ofIntake_44 : decode cX10_ofIntake 44 = .ok (.aload_n 0, 1) := by decide +kernel
theorem dX10_ofIntake_45 : decode cX10_ofIntake 45 = .ok (.getfield 10, 3) := by decide +kernel
theorem dX10_ofIntake_48 : decode cX10_ofIntake 48 = .ok (.getfield 191, 3) := by decide +kernel
theorem dX10_ofIntake_51 : decode cX10_ofIntake 51 = .ok (.iload_n 1, 1) := by decide +kernel
theorem dX10_ofIntake_52 : decode cX10_ofIntake 52 = .ok (.aaload, 1) := by decide +kernel
theorem dX10_ofIntake_53 : decode cX10_ofIntake 53 = .ok (.iload_n 2, 1) := by decide +kernel
theorem dX10_ofIntake_54 : decode cX10_ofIntake 54 = .ok (.invokevirtual 195, 3) := by decide +kernel
theorem dX10_ofIntake_57 : decode cX10_ofIntake 57 = .ok (.ireturn, 1) := by decide +kernel
theorem dX10_isClosed_0 : decode cX10_isClosed 0 = .ok (.iload_n 1, 1) := by decide +kernel
theorem dX10_isClosed_1 : decode cX10_isClosed 1 = .ok (.ifCond .lt 11, 3) := by decide +kernel
theorem dX10_isClosed_4 : decode cX10_isClosed 4 = .ok (.iload_n 1, 1) := by decide +kernel
theorem dX10_isClosed_5 : decode cX10_isClosed 5 = .ok (.aload_n 0, 1) := by decide +kernel
theorem dX10_isClosed_6 : decode cX10_isClosed 6 = .ok (.getfield 125, 3) := by decide +kernel
theorem dX10_isClosed_9 : decode cX10_isClosed 9 = .ok (.if_icmp .lt 13, 3) := by decide +kernel
theorem dX10_isClosed_12 : decode cX10_isClosed 12 = .ok (.new 109, 3) := by decide +kernel
theorem dX10_isClosed_15 : decode cX10_isClosed 15 = .ok (.dup, 1) := by decide +kernel
theorem dX10_isClosed_16 : decode cX10_isClosed 16 = .ok (.ldc 198, 2) := by decide +kernel
theorem dX10_isClosed_18 : decode cX10_isClosed 18 = .ok (.invokespecial 113, 3) := by decide +kernel
theorem dX10_isClosed_21 : decode cX10_isClosed 21 = .ok (.athrow, 1) := by decide +kernel
theorem dX10_isClosed_22 : decode cX10_isClosed 22 = .ok (.aload_n 0, 1) := by decide +kernel
theorem dX10_isClosed_23 : decode cX10_isClosed 23 = .ok (.getfield 28, 3) := by decide +kernel
theorem dX10_isClosed_26 : decode cX10_isClosed 26 = .ok (.iload_n 1, 1) := by decide +kernel
theorem dX10_isClosed_27 : decode cX10_isClosed 27 = .ok (.aaload, 1) := by decide +kernel
theorem dX10_isClosed_28 : decode cX10_isClosed 28 = .ok (.astore_n 2, 1) := by decide +kernel
theorem dX10_isClosed_29 : decode cX10_isClosed 29 = .ok (.aload_n 0, 1) := by decide +kernel
theorem dX10_isClosed_30 : decode cX10_isClosed 30 = .ok (.getfield 10, 3) := by decide +kernel
theorem dX10_isClosed_33 : decode cX10_isClosed 33 = .ok (.getfield 141, 3) := by decide +kernel
theorem dX10_isClosed_36 : decode cX10_isClosed 36 = .ok (.aload_n 2, 1) := by decide +kernel
theorem dX10_isClosed_37 : decode cX10_isClosed 37 = .ok (.getfield 130, 3) := by decide +kernel
theorem dX10_isClosed_40 : decode cX10_isClosed 40 = .ok (.aaload, 1) := by decide +kernel
theorem dX10_isClosed_41 : decode cX10_isClosed 41 = .ok (.aload_n 2, 1) := by decide +kernel
theorem dX10_isClosed_42 : decode cX10_isClosed 42 = .ok (.getfield 133, 3) := by decide +kernel
theorem dX10_isClosed_45 : decode cX10_isClosed 45 = .ok (.aload_n 2, 1) := by decide +kernel
theorem dX10_isClosed_46 : decode cX10_isClosed 46 = .ok (.getfield 136, 3) := by decide +kernel
theorem dX10_isClosed_49 : decode cX10_isClosed 49 = .ok (.aload_n 0, 1) := by decide +kernel
theorem dX10_isClosed_50 : decode cX10_isClosed 50 = .ok (.getfield 10, 3) := by decide +kernel
theorem dX10_isClosed_53 : decode cX10_isClosed 53 = .ok (.getfield 70, 3) := by decide +kernel
theorem dX10_isClosed_56 : decode cX10_isClosed 56 = .ok (.invokevirtual 200, 3) := by decide +kernel
theorem dX10_isClosed_59 : decode cX10_isClosed 59 = .ok (.ireturn, 1) := by decide +kernel
theorem dX10_closures_0 : decode cX10_closures 0 = .ok (.aload_n 0, 1) := by decide +kernel
theorem dX10_closures_1 : decode cX10_closures 1 = .ok (.getfield 10, 3) := by decide +kernel
theorem dX10_closures_4 : decode cX10_closures 4 = .ok (.getfield 87, 3) := by decide +kernel
theorem dX10_closures_7 : decode cX10_closures 7 = .ok (.getfield 203, 3) := by decide +kernel
theorem dX10_closures_10 : decode cX10_closures 10 = .ok (.ireturn, 1) := by decide +kernel
theorem dX10_closure_0 : decode cX10_closure 0 = .ok (.iload_n 1, 1) := by decide +kernel
theorem dX10_closure_1 : decode cX10_closure 1 = .ok (.ifCond .lt 17, 3) := by decide +kernel
theorem dX10_closure_4 : decode cX10_closure 4 = .ok (.iload_n 1, 1) := by decide +kernel
theorem dX10_closure_5 : decode cX10_closure 5 = .ok (.aload_n 0, 1) := by decide +kernel
theorem dX10_closure_6 : decode cX10_closure 6 = .ok (.getfield 10, 3) := by decide +kernel
theorem dX10_closure_9 : decode cX10_closure 9 = .ok (.getfield 87, 3) := by decide +kernel
theorem dX10_closure_12 : decode cX10_closure 12 = .ok (.getfield 203, 3) := by decide +kernel
theorem dX10_closure_15 : decode cX10_closure 15 = .ok (.if_icmp .lt 13, 3) := by decide +kernel
theorem dX10_closure_18 : decode cX10_closure 18 = .ok (.new 109, 3) := by decide +kernel
theorem dX10_closure_21 : decode cX10_closure 21 = .ok (.dup, 1) := by decide +kernel
theorem dX10_closure_22 : decode cX10_closure 22 = .ok (.ldc 206, 2) := by decide +kernel
theorem dX10_closure_24 : decode cX10_closure 24 = .ok (.invokespecial 113, 3) := by decide +kernel
theorem dX10_closure_27 : decode cX10_closure 27 = .ok (.athrow, 1) := by decide +kernel
theorem dX10_closure_28 : decode cX10_closure 28 = .ok (.iload_n 2, 1) := by decide +kernel
theorem dX10_closure_29 : decode cX10_closure 29 = .ok (.iconst 0, 1) := by decide +kernel
theorem dX10_closure_30 : decode cX10_closure 30 = .ok (.iconst 2, 1) := by decide +kernel
theorem dX10_closure_31 : decode cX10_closure 31 = .ok (.invokestatic 33, 3) := by decide +kernel
theorem dX10_closure_34 : decode cX10_closure 34 = .ok (.ifCond .ne 13, 3) := by decide +kernel
theorem dX10_closure_37 : decode cX10_closure 37 = .ok (.new 37, 3) := by decide +kernel
theorem dX10_closure_40 : decode cX10_closure 40 = .ok (.dup, 1) := by decide +kernel
theorem dX10_closure_41 : decode cX10_closure 41 = .ok (.ldc 171, 2) := by decide +kernel
theorem dX10_closure_43 : decode cX10_closure 43 = .ok (.invokespecial 41, 3) := by decide +kernel
theorem dX10_closure_46 : decode cX10_closure 46 = .ok (.athrow, 1) := by decide +kernel
theorem dX10_closure_47 : decode cX10_closure 47 = .ok (.aload_n 0, 1) := by decide +kernel
theorem dX10_closure_48 : decode cX10_closure 48 = .ok (.getfield 10, 3) := by decide +kernel
theorem dX10_closure_51 : decode cX10_closure 51 = .ok (.getfield 87, 3) := by decide +kernel
theorem dX10_closure_54 : decode cX10_closure 54 = .ok (.iload_n 1, 1) := by decide +kernel
theorem dX10_closure_55 : decode cX10_closure 55 = .ok (.iload_n 2, 1) := by decide +kernel
theorem dX10_closure_56 : decode cX10_closure 56 = .ok (.invokevirtual 208, 3) := by decide +kernel
theorem dX10_closure_59 : decode cX10_closure 59 = .ok (.ireturn, 1) := by decide +kernel
theorem dX10_intrusion_0 : decode cX10_intrusion 0 = .ok (.iload_n 1, 1) := by decide +kernel
theorem dX10_intrusion_1 : decode cX10_intrusion 1 = .ok (.iconst 1, 1) := by decide +kernel
theorem dX10_intrusion_2 : decode cX10_intrusion 2 = .ok (.bipush 30, 2) := by decide +kernel
theorem dX10_intrusion_4 : decode cX10_intrusion 4 = .ok (.invokestatic 33, 3) := by decide +kernel
theorem dX10_intrusion_7 : decode cX10_intrusion 7 = .ok (.ifCond .ne 13, 3) := by decide +kernel
theorem dX10_intrusion_10 : decode cX10_intrusion 10 = .ok (.new 37, 3) := by decide +kernel
theorem dX10_intrusion_13 : decode cX10_intrusion 13 = .ok (.dup, 1) := by decide +kernel
theorem dX10_intrusion_14 : decode cX10_intrusion 14 = .ok (.ldc 210, 2) := by decide +kernel
theorem dX10_intrusion_16 : decode cX10_intrusion 16 = .ok (.invokespecial 41, 3) := by decide +kernel
theorem dX10_intrusion_19 : decode cX10_intrusion 19 = .ok (.athrow, 1) := by decide +kernel
theorem dX10_intrusion_20 : decode cX10_intrusion 20 = .ok (.iconst 0, 1) := by decide +kernel
theorem dX10_intrusion_21 : decode cX10_intrusion 21 = .ok (.istore_n 2, 1) := by decide +kernel
theorem dX10_intrusion_22 : decode cX10_intrusion 22 = .ok (.iload_n 2, 1) := by decide +kernel
theorem dX10_intrusion_23 : decode cX10_intrusion 23 = .ok (.aload_n 0, 1) := by decide +kernel
theorem dX10_intrusion_24 : decode cX10_intrusion 24 = .ok (.getfield 10, 3) := by decide +kernel
theorem dX10_intrusion_27 : decode cX10_intrusion 27 = .ok (.getfield 100, 3) := by decide +kernel
theorem dX10_intrusion_30 : decode cX10_intrusion 30 = .ok (.if_icmp .ge 28, 3) := by decide +kernel
theorem dX10_intrusion_33 : decode cX10_intrusion 33 = .ok (.aload_n 0, 1) := by decide +kernel
theorem dX10_intrusion_34 : decode cX10_intrusion 34 = .ok (.getfield 10, 3) := by decide +kernel
theorem dX10_intrusion_37 : decode cX10_intrusion 37 = .ok (.getfield 141, 3) := by decide +kernel
theorem dX10_intrusion_40 : decode cX10_intrusion 40 = .ok (.iload_n 2, 1) := by decide +kernel
theorem dX10_intrusion_41 : decode cX10_intrusion 41 = .ok (.aaload, 1) := by decide +kernel
theorem dX10_intrusion_42 : decode cX10_intrusion 42 = .ok (.getfield 212, 3) := by decide +kernel
theorem dX10_intrusion_45 : decode cX10_intrusion 45 = .ok (.invokevirtual 216, 3) := by decide +kernel
theorem dX10_intrusion_48 : decode cX10_intrusion 48 = .ok (.iload_n 1, 1) := by decide +kernel
theorem dX10_intrusion_49 : decode cX10_intrusion 49 = .ok (.if_icmp .lt 9, 3) := by decide +kernel
theorem dX10_intrusion_52 : decode cX10_intrusion 52 = .ok (.iinc 2 1, 3) := by decide +kernel
theorem dX10_intrusion_55 : decode cX10_intrusion 55 = .ok (.goto (-33), 3) := by decide +kernel
theorem dX10_intrusion_58 : decode cX10_intrusion 58 = .ok (.iload_n 2, 1) := by decide +kernel
theorem dX10_intrusion_59 : decode cX10_intrusion 59 = .ok (.ireturn, 1) := by decide +kernel
theorem dX10_window_0 : decode cX10_window 0 = .ok (.iload_n 1, 1) := by decide +kernel
theorem dX10_window_1 : decode cX10_window 1 = .ok (.iconst 1, 1) := by decide +kernel
theorem dX10_window_2 : decode cX10_window 2 = .ok (.sipush 200, 3) := by decide +kernel
theorem dX10_window_5 : decode cX10_window 5 = .ok (.invokestatic 33, 3) := by decide +kernel
theorem dX10_window_8 : decode cX10_window 8 = .ok (.ifCond .eq 13, 3) := by decide +kernel
theorem dX10_window_11 : decode cX10_window 11 = .ok (.iload_n 2, 1) := by decide +kernel
theorem dX10_window_12 : decode cX10_window 12 = .ok (.iconst 1, 1) := by decide +kernel
theorem dX10_window_13 : decode cX10_window 13 = .ok (.bipush 24, 2) := by decide +kernel
theorem dX10_window_15 : decode cX10_window 15 = .ok (.invokestatic 33, 3) := by decide +kernel
theorem dX10_window_18 : decode cX10_window 18 = .ok (.ifCond .ne 13, 3) := by decide +kernel
theorem dX10_window_21 : decode cX10_window 21 = .ok (.new 37, 3) := by decide +kernel
theorem dX10_window_24 : decode cX10_window 24 = .ok (.dup, 1) := by decide +kernel
theorem dX10_window_25 : decode cX10_window 25 = .ok (.ldc 222, 2) := by decide +kernel
theorem dX10_window_27 : decode cX10_window 27 = .ok (.invokespecial 41, 3) := by decide +kernel
theorem dX10_window_30 : decode cX10_window 30 = .ok (.athrow, 1) := by decide +kernel
theorem dX10_window_31 : decode cX10_window 31 = .ok (.aload_n 0, 1) := by decide +kernel
theorem dX10_window_32 : decode cX10_window 32 = .ok (.getfield 10, 3) := by decide +kernel
theorem dX10_window_35 : decode cX10_window 35 = .ok (.getfield 100, 3) := by decide +kernel
theorem dX10_window_38 : decode cX10_window 38 = .ok (.ifCond .ne 13, 3) := by decide +kernel
theorem dX10_window_41 : decode cX10_window 41 = .ok (.new 56, 3) := by decide +kernel
theorem dX10_window_44 : decode cX10_window 44 = .ok (.dup, 1) := by decide +kernel
theorem dX10_window_45 : decode cX10_window 45 = .ok (.ldc 224, 2) := by decide +kernel
theorem dX10_window_47 : decode cX10_window 47 = .ok (.invokespecial 60, 3) := by decide +kernel
theorem dX10_window_50 : decode cX10_window 50 = .ok (.athrow, 1) := by decide +kernel
theorem dX10_window_51 : decode cX10_window 51 = .ok (.aload_n 0, 1) := by decide +kernel
theorem dX10_window_52 : decode cX10_window 52 = .ok (.getfield 10, 3) := by decide +kernel
theorem dX10_window_55 : decode cX10_window 55 = .ok (.aload_n 0, 1) := by decide +kernel
theorem dX10_window_56 : decode cX10_window 56 = .ok (.getfield 10, 3) := by decide +kernel
theorem dX10_window_59 : decode cX10_window 59 = .ok (.getfield 141, 3) := by decide +kernel
theorem dX10_window_62 : decode cX10_window 62 = .ok (.iconst 0, 1) := by decide +kernel
theorem dX10_window_63 : decode cX10_window 63 = .ok (.aaload, 1) := by decide +kernel
theorem dX10_window_64 : decode cX10_window 64 = .ok (.invokevirtual 226, 3) := by decide +kernel
theorem dX10_window_67 : decode cX10_window 67 = .ok (.iload_n 1, 1) := by decide +kernel
theorem dX10_window_68 : decode cX10_window 68 = .ok (.iadd, 1) := by decide +kernel
theorem dX10_window_69 : decode cX10_window 69 = .ok (.iload_n 2, 1) := by decide +kernel
theorem dX10_window_70 : decode cX10_window 70 = .ok (.invokevirtual 229, 3) := by decide +kernel
theorem dX10_window_73 : decode cX10_window 73 = .ok (.ireturn, 1) := by decide +kernel
theorem dX10_sum_0 : decode cX10_sum 0 = .ok (.iload_n 1, 1) := by decide +kernel
theorem dX10_sum_1 : decode cX10_sum 1 = .ok (.iconst 0, 1) := by decide +kernel
theorem dX10_sum_2 : decode cX10_sum 2 = .ok (.bipush 9, 2) := by decide +kernel
theorem dX10_sum_4 : decode cX10_sum 4 = .ok (.invokestatic 33, 3) := by decide +kernel
theorem dX10_sum_7 : decode cX10_sum 7 = .ok (.ifCond .ne 13, 3) := by decide +kernel
theorem dX10_sum_10 : decode cX10_sum 10 = .ok (.new 37, 3) := by decide +kernel
theorem dX10_sum_13 : decode cX10_sum 13 = .ok (.dup, 1) := by decide +kernel
theorem dX10_sum_14 : decode cX10_sum 14 = .ok (.ldc 171, 2) := by decide +kernel
theorem dX10_sum_16 : decode cX10_sum 16 = .ok (.invokespecial 41, 3) := by decide +kernel
theorem dX10_sum_19 : decode cX10_sum 19 = .ok (.athrow, 1) := by decide +kernel
theorem dX10_sum_20 : decode cX10_sum 20 = .ok (.aload_n 0, 1) := by decide +kernel
theorem dX10_sum_21 : decode cX10_sum 21 = .ok (.getfield 10, 3) := by decide +kernel
theorem dX10_sum_24 : decode cX10_sum 24 = .ok (.getfield 232, 3) := by decide +kernel
theorem dX10_sum_27 : decode cX10_sum 27 = .ok (.iload_n 1, 1) := by decide +kernel
theorem dX10_sum_28 : decode cX10_sum 28 = .ok (.laload, 1) := by decide +kernel
theorem dX10_sum_29 : decode cX10_sum 29 = .ok (.lreturn, 1) := by decide +kernel
theorem dX10_within_0 : decode cX10_within 0 = .ok (.iload_n 0, 1) := by decide +kernel
theorem dX10_within_1 : decode cX10_within 1 = .ok (.iload_n 1, 1) := by decide +kernel
theorem dX10_within_2 : decode cX10_within 2 = .ok (.if_icmp .lt 12, 3) := by decide +kernel
theorem dX10_within_5 : decode cX10_within 5 = .ok (.iload_n 0, 1) := by decide +kernel
theorem dX10_within_6 : decode cX10_within 6 = .ok (.iload_n 2, 1) := by decide +kernel
theorem dX10_within_7 : decode cX10_within 7 = .ok (.if_icmp .gt 7, 3) := by decide +kernel
theorem dX10_within_10 : decode cX10_within 10 = .ok (.iconst 1, 1) := by decide +kernel
theorem dX10_within_11 : decode cX10_within 11 = .ok (.goto 4, 3) := by decide +kernel
theorem dX10_within_14 : decode cX10_within 14 = .ok (.iconst 0, 1) := by decide +kernel
theorem dX10_within_15 : decode cX10_within 15 = .ok (.ireturn, 1) := by decide +kernel
theorem dX10_goesWith_0 : decode cX10_goesWith 0 = .ok (.iload_n 2, 1) := by decide +kernel
theorem dX10_goesWith_1 : decode cX10_goesWith 1 = .ok (.ifCond .gt 5, 3) := by decide +kernel
theorem dX10_goesWith_4 : decode cX10_goesWith 4 = .ok (.iconst 0, 1) := by decide +kernel
theorem dX10_goesWith_5 : decode cX10_goesWith 5 = .ok (.ireturn, 1) := by decide +kernel
theorem dX10_goesWith_6 : decode cX10_goesWith 6 = .ok (.iload_n 1, 1) := by decide +kernel
theorem dX10_goesWith_7 : decode cX10_goesWith 7 = .ok (.i2l, 1) := by decide +kernel
theorem dX10_goesWith_8 : decode cX10_goesWith 8 = .ok (.iload_n 0, 1) := by decide +kernel
theorem dX10_goesWith_9 : decode cX10_goesWith 9 = .ok (.i2l, 1) := by decide +kernel
theorem dX10_goesWith_10 : decode cX10_goesWith 10 = .ok (.lmul, 1) := by decide +kernel
theorem dX10_goesWith_11 : decode cX10_goesWith 11 = .ok (.iload_n 2, 1) := by decide +kernel
theorem dX10_goesWith_12 : decode cX10_goesWith 12 = .ok (.i2l, 1) := by decide +kernel
theorem dX10_goesWith_13 : decode cX10_goesWith 13 = .ok (.ldiv, 1) := by decide +kernel
theorem dX10_goesWith_14 : decode cX10_goesWith 14 = .ok (.l2i, 1) := by decide +kernel
theorem dX10_goesWith_15 : decode cX10_goesWith 15 = .ok (.ireturn, 1) := by decide +kernel
theorem dX10_tell_0 : decode cX10_tell 0 = .ok (.aload_n 0, 1) := by decide +kernel
theorem dX10_tell_1 : decode cX10_tell 1 = .ok (.getfield 22, 3) := by decide +kernel
theorem dX10_tell_4 : decode cX10_tell 4 = .ok (.aload_n 0, 1) := by decide +kernel
theorem dX10_tell_5 : decode cX10_tell 5 = .ok (.getfield 10, 3) := by decide +kernel
theorem dX10_tell_8 : decode cX10_tell 8 = .ok (.getfield 70, 3) := by decide +kernel
theorem dX10_tell_11 : decode cX10_tell 11 = .ok (.iload_n 1, 1) := by decide +kernel
theorem dX10_tell_12 : decode cX10_tell 12 = .ok (.iload_n 2, 1) := by decide +kernel
theorem dX10_tell_13 : decode cX10_tell 13 = .ok (.iload_n 3, 1) := by decide +kernel
theorem dX10_tell_14 : decode cX10_tell 14 = .ok (.iload 4, 2) := by decide +kernel
theorem dX10_tell_16 : decode cX10_tell 16 = .ok (.iload 5, 2) := by decide +kernel
theorem dX10_tell_18 : decode cX10_tell 18 = .ok (.iload 6, 2) := by decide +kernel
theorem dX10_tell_20 : decode cX10_tell 20 = .ok (.invokevirtual 236, 3) := by decide +kernel
theorem dX10_tell_23 : decode cX10_tell 23 = .ok (.aload_n 0, 1) := by decide +kernel
theorem dX10_tell_24 : decode cX10_tell 24 = .ok (.getfield 10, 3) := by decide +kernel
theorem dX10_tell_27 : decode cX10_tell 27 = .ok (.iload_n 1, 1) := by decide +kernel
theorem dX10_tell_28 : decode cX10_tell 28 = .ok (.iload_n 2, 1) := by decide +kernel
theorem dX10_tell_29 : decode cX10_tell 29 = .ok (.iload_n 3, 1) := by decide +kernel
theorem dX10_tell_30 : decode cX10_tell 30 = .ok (.iload 4, 2) := by decide +kernel
theorem dX10_tell_32 : decode cX10_tell 32 = .ok (.iload 5, 2) := by decide +kernel
theorem dX10_tell_34 : decode cX10_tell 34 = .ok (.iload 6, 2) := by decide +kernel
theorem dX10_tell_36 : decode cX10_tell 36 = .ok (.invokevirtual 186, 3) := by decide +kernel
theorem dX10_tell_39 : decode cX10_tell 39 = .ok (.return_, 1) := by decide +kernel
theorem dJ9_floorMod_7cf53_0 : decode cJ9_floorMod_7cf53 0 = .ok (.iload_n 0, 1) := by decide +kernel
theorem dJ9_floorMod_7cf53_1 : decode cJ9_floorMod_7cf53 1 = .ok (.iload_n 1, 1) := by decide +kernel
theorem dJ9_floorMod_7cf53_2 : decode cJ9_floorMod_7cf53 2 = .ok (.irem, 1) := by decide +kernel
theorem dJ9_floorMod_7cf53_3 : decode cJ9_floorMod_7cf53 3 = .ok (.istore_n 2, 1) := by decide +kernel
theorem dJ9_floorMod_7cf53_4 : decode cJ9_floorMod_7cf53 4 = .ok (.iload_n 0, 1) := by decide +kernel
theorem dJ9_floorMod_7cf53_5 : decode cJ9_floorMod_7cf53 5 = .ok (.iload_n 1, 1) := by decide +kernel
theorem dJ9_floorMod_7cf53_6 : decode cJ9_floorMod_7cf53 6 = .ok (.ixor, 1) := by decide +kernel
theorem dJ9_floorMod_7cf53_7 : decode cJ9_floorMod_7cf53 7 = .ok (.ifCond .ge 11, 3) := by decide +kernel
theorem dJ9_floorMod_7cf53_10 : decode cJ9_floorMod_7cf53 10 = .ok (.iload_n 2, 1) := by decide +kernel
theorem dJ9_floorMod_7cf53_11 : decode cJ9_floorMod_7cf53 11 = .ok (.ifCond .eq 7, 3) := by decide +kernel
theorem dJ9_floorMod_7cf53_14 : decode cJ9_floorMod_7cf53 14 = .ok (.iload_n 2, 1) := by decide +kernel
theorem dJ9_floorMod_7cf53_15 : decode cJ9_floorMod_7cf53 15 = .ok (.iload_n 1, 1) := by decide +kernel
theorem dJ9_floorMod_7cf53_16 : decode cJ9_floorMod_7cf53 16 = .ok (.iadd, 1) := by decide +kernel
theorem dJ9_floorMod_7cf53_17 : decode cJ9_floorMod_7cf53 17 = .ok (.ireturn, 1) := by decide +kernel
theorem dJ9_floorMod_7cf53_18 : decode cJ9_floorMod_7cf53 18 = .ok (.iload_n 2, 1) := by decide +kernel
theorem dJ9_floorMod_7cf53_19 : decode cJ9_floorMod_7cf53 19 = .ok (.ireturn, 1) := by decide +kernel
theorem dJ9_max_7cf53_0 : decode cJ9_max_7cf53 0 = .ok (.iload_n 0, 1) := by decide +kernel
theorem dJ9_max_7cf53_1 : decode cJ9_max_7cf53 1 = .ok (.iload_n 1, 1) := by decide +kernel
theorem dJ9_max_7cf53_2 : decode cJ9_max_7cf53 2 = .ok (.if_icmp .lt 7, 3) := by decide +kernel
theorem dJ9_max_7cf53_5 : decode cJ9_max_7cf53 5 = .ok (.iload_n 0, 1) := by decide +kernel
theorem dJ9_max_7cf53_6 : decode cJ9_max_7cf53 6 = .ok (.goto 4, 3) := by decide +kernel
theorem dJ9_max_7cf53_9 : decode cJ9_max_7cf53 9 = .ok (.iload_n 1, 1) := by decide +kernel
theorem dJ9_max_7cf53_10 : decode cJ9_max_7cf53 10 = .ok (.ireturn, 1) := by decide +kernel
theorem dJ9_min_7cf53_0 : decode cJ9_min_7cf53 0 = .ok (.iload_n 0, 1) := by decide +kernel
theorem dJ9_min_7cf53_1 : decode cJ9_min_7cf53 1 = .ok (.iload_n 1, 1) := by decide +kernel
theorem dJ9_min_7cf53_2 : decode cJ9_min_7cf53 2 = .ok (.if_icmp .gt 7, 3) := by decide +kernel
theorem dJ9_min_7cf53_5 : decode cJ9_min_7cf53 5 = .ok (.iload_n 0, 1) := by decide +kernel
theorem dJ9_min_7cf53_6 : decode cJ9_min_7cf53 6 = .ok (.goto 4, 3) := by decide +kernel
theorem dJ9_min_7cf53_9 : decode cJ9_min_7cf53 9 = .ok (.iload_n 1, 1) := by decide +kernel
theorem dJ9_min_7cf53_10 : decode cJ9_min_7cf53 10 = .ok (.ireturn, 1) := by decide +kernel
