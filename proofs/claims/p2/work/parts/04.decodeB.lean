theorem dX3_init_0 : decode cX3_init 0 = .ok (.aload_n 0, 1) := by decide +kernel
theorem dX3_init_1 : decode cX3_init 1 = .ok (.invokespecial 1, 3) := by decide +kernel
theorem dX3_init_4 : decode cX3_init 4 = .ok (.aload_n 0, 1) := by decide +kernel
theorem dX3_init_5 : decode cX3_init 5 = .ok (.ldc 7, 2) := by decide +kernel
theorem dX3_init_7 : decode cX3_init 7 = .ok (.newarray .int, 2) := by decide +kernel
theorem dX3_init_9 : decode cX3_init 9 = .ok (.putfield 8, 3) := by decide +kernel
theorem dX3_init_12 : decode cX3_init 12 = .ok (.aload_n 0, 1) := by decide +kernel
theorem dX3_init_13 : decode cX3_init 13 = .ok (.bipush 13, 2) := by decide +kernel
theorem dX3_init_15 : decode cX3_init 15 = .ok (.newarray .int, 2) := by decide +kernel
theorem dX3_init_17 : decode cX3_init 17 = .ok (.putfield 14, 3) := by decide +kernel
theorem dX3_init_20 : decode cX3_init 20 = .ok (.aload_n 0, 1) := by decide +kernel
theorem dX3_init_21 : decode cX3_init 21 = .ok (.sipush 256, 3) := by decide +kernel
theorem dX3_init_24 : decode cX3_init 24 = .ok (.newarray .int, 2) := by decide +kernel
theorem dX3_init_26 : decode cX3_init 26 = .ok (.putfield 17, 3) := by decide +kernel
theorem dX3_init_29 : decode cX3_init 29 = .ok (.aload_n 0, 1) := by decide +kernel
theorem dX3_init_30 : decode cX3_init 30 = .ok (.sipush 200, 3) := by decide +kernel
theorem dX3_init_33 : decode cX3_init 33 = .ok (.newarray .int, 2) := by decide +kernel
theorem dX3_init_35 : decode cX3_init 35 = .ok (.putfield 20, 3) := by decide +kernel
theorem dX3_init_38 : decode cX3_init 38 = .ok (.aload_n 0, 1) := by decide +kernel
theorem dX3_init_39 : decode cX3_init 39 = .ok (.bipush 8, 2) := by decide +kernel
theorem dX3_init_41 : decode cX3_init 41 = .ok (.newarray .int, 2) := by decide +kernel
theorem dX3_init_43 : decode cX3_init 43 = .ok (.putfield 23, 3) := by decide +kernel
theorem dX3_init_46 : decode cX3_init 46 = .ok (.aload_n 0, 1) := by decide +kernel
theorem dX3_init_47 : decode cX3_init 47 = .ok (.iload_n 1, 1) := by decide +kernel
theorem dX3_init_48 : decode cX3_init 48 = .ok (.iconst 1, 1) := by decide +kernel
theorem dX3_init_49 : decode cX3_init 49 = .ok (.if_icmp .ge 7, 3) := by decide +kernel
theorem dX3_init_52 : decode cX3_init 52 = .ok (.iconst 1, 1) := by decide +kernel
theorem dX3_init_53 : decode cX3_init 53 = .ok (.goto 15, 3) := by decide +kernel
theorem dX3_init_56 : decode cX3_init 56 = .ok (.iload_n 1, 1) := by decide +kernel
theorem dX3_init_57 : decode cX3_init 57 = .ok (.bipush 66, 2) := by decide +kernel
theorem dX3_init_59 : decode cX3_init 59 = .ok (.if_icmp .le 8, 3) := by decide +kernel
theorem dX3_init_62 : decode cX3_init 62 = .ok (.bipush 66, 2) := by decide +kernel
theorem dX3_init_64 : decode cX3_init 64 = .ok (.goto 4, 3) := by decide +kernel
theorem dX3_init_67 : decode cX3_init 67 = .ok (.iload_n 1, 1) := by decide +kernel
theorem dX3_init_68 : decode cX3_init 68 = .ok (.putfield 26, 3) := by decide +kernel
theorem dX3_init_71 : decode cX3_init 71 = .ok (.aload_n 0, 1) := by decide +kernel
theorem dX3_init_72 : decode cX3_init 72 = .ok (.iload_n 2, 1) := by decide +kernel
theorem dX3_init_73 : decode cX3_init 73 = .ok (.iconst 1, 1) := by decide +kernel
theorem dX3_init_74 : decode cX3_init 74 = .ok (.if_icmp .ge 7, 3) := by decide +kernel
theorem dX3_init_77 : decode cX3_init 77 = .ok (.iconst 1, 1) := by decide +kernel
theorem dX3_init_78 : decode cX3_init 78 = .ok (.goto 17, 3) := by decide +kernel
theorem dX3_init_81 : decode cX3_init 81 = .ok (.iload_n 2, 1) := by decide +kernel
theorem dX3_init_82 : decode cX3_init 82 = .ok (.sipush 132, 3) := by decide +kernel
theorem dX3_init_85 : decode cX3_init 85 = .ok (.if_icmp .le 9, 3) := by decide +kernel
theorem dX3_init_88 : decode cX3_init 88 = .ok (.sipush 132, 3) := by decide +kernel
theorem dX3_init_91 : decode cX3_init 91 = .ok (.goto 4, 3) := by decide +kernel
theorem dX3_init_94 : decode cX3_init 94 = .ok (.iload_n 2, 1) := by decide +kernel
theorem dX3_init_95 : decode cX3_init 95 = .ok (.putfield 30, 3) := by decide +kernel
theorem dX3_init_98 : decode cX3_init 98 = .ok (.iconst 0, 1) := by decide +kernel
theorem dX3_init_99 : decode cX3_init 99 = .ok (.istore_n 3, 1) := by decide +kernel
theorem dX3_init_100 : decode cX3_init 100 = .ok (.iload_n 3, 1) := by decide +kernel
theorem dX3_init_101 : decode cX3_init 101 = .ok (.aload_n 0, 1) := by decide +kernel
theorem dX3_init_102 : decode cX3_init 102 = .ok (.getfield 14, 3) := by decide +kernel
theorem dX3_init_105 : decode cX3_init 105 = .ok (.arraylength, 1) := by decide +kernel
theorem dX3_init_106 : decode cX3_init 106 = .ok (.if_icmp .ge 16, 3) := by decide +kernel
theorem dX3_init_109 : decode cX3_init 109 = .ok (.aload_n 0, 1) := by decide +kernel
theorem dX3_init_110 : decode cX3_init 110 = .ok (.getfield 14, 3) := by decide +kernel
theorem dX3_init_113 : decode cX3_init 113 = .ok (.iload_n 3, 1) := by decide +kernel
theorem dX3_init_114 : decode cX3_init 114 = .ok (.iconst (-1), 1) := by decide +kernel
theorem dX3_init_115 : decode cX3_init 115 = .ok (.iastore, 1) := by decide +kernel
theorem dX3_init_116 : decode cX3_init 116 = .ok (.iinc 3 1, 3) := by decide +kernel
theorem dX3_init_119 : decode cX3_init 119 = .ok (.goto (-19), 3) := by decide +kernel
theorem dX3_init_122 : decode cX3_init 122 = .ok (.iconst 0, 1) := by decide +kernel
theorem dX3_init_123 : decode cX3_init 123 = .ok (.istore_n 3, 1) := by decide +kernel
theorem dX3_init_124 : decode cX3_init 124 = .ok (.iload_n 3, 1) := by decide +kernel
theorem dX3_init_125 : decode cX3_init 125 = .ok (.aload_n 0, 1) := by decide +kernel
theorem dX3_init_126 : decode cX3_init 126 = .ok (.getfield 17, 3) := by decide +kernel
theorem dX3_init_129 : decode cX3_init 129 = .ok (.arraylength, 1) := by decide +kernel
theorem dX3_init_130 : decode cX3_init 130 = .ok (.if_icmp .ge 16, 3) := by decide +kernel
theorem dX3_init_133 : decode cX3_init 133 = .ok (.aload_n 0, 1) := by decide +kernel
theorem dX3_init_134 : decode cX3_init 134 = .ok (.getfield 17, 3) := by decide +kernel
theorem dX3_init_137 : decode cX3_init 137 = .ok (.iload_n 3, 1) := by decide +kernel
theorem dX3_init_138 : decode cX3_init 138 = .ok (.iload_n 3, 1) := by decide +kernel
theorem dX3_init_139 : decode cX3_init 139 = .ok (.iastore, 1) := by decide +kernel
theorem dX3_init_140 : decode cX3_init 140 = .ok (.iinc 3 1, 3) := by decide +kernel
theorem dX3_init_143 : decode cX3_init 143 = .ok (.goto (-19), 3) := by decide +kernel
theorem dX3_init_146 : decode cX3_init 146 = .ok (.return_, 1) := by decide +kernel
theorem dX3_channel_0 : decode cX3_channel 0 = .ok (.aload_n 0, 1) := by decide +kernel
theorem dX3_channel_1 : decode cX3_channel 1 = .ok (.iconst 0, 1) := by decide +kernel
theorem dX3_channel_2 : decode cX3_channel 2 = .ok (.putfield 33, 3) := by decide +kernel
theorem dX3_channel_5 : decode cX3_channel 5 = .ok (.iload_n 1, 1) := by decide +kernel
theorem dX3_channel_6 : decode cX3_channel 6 = .ok (.iconst 1, 1) := by decide +kernel
theorem dX3_channel_7 : decode cX3_channel 7 = .ok (.if_icmp .lt 22, 3) := by decide +kernel
theorem dX3_channel_10 : decode cX3_channel 10 = .ok (.iload_n 1, 1) := by decide +kernel
theorem dX3_channel_11 : decode cX3_channel 11 = .ok (.bipush 12, 2) := by decide +kernel
theorem dX3_channel_13 : decode cX3_channel 13 = .ok (.if_icmp .gt 16, 3) := by decide +kernel
theorem dX3_channel_16 : decode cX3_channel 16 = .ok (.iload_n 2, 1) := by decide +kernel
theorem dX3_channel_17 : decode cX3_channel 17 = .ok (.iconst (-1), 1) := by decide +kernel
theorem dX3_channel_18 : decode cX3_channel 18 = .ok (.if_icmp .lt 11, 3) := by decide +kernel
theorem dX3_channel_21 : decode cX3_channel 21 = .ok (.iload_n 2, 1) := by decide +kernel
theorem dX3_channel_22 : decode cX3_channel 22 = .ok (.aload_n 0, 1) := by decide +kernel
theorem dX3_channel_23 : decode cX3_channel 23 = .ok (.getfield 26, 3) := by decide +kernel
theorem dX3_channel_26 : decode cX3_channel 26 = .ok (.if_icmp .lt 6, 3) := by decide +kernel
theorem dX3_channel_29 : decode cX3_channel 29 = .ok (.bipush (-2), 2) := by decide +kernel
theorem dX3_channel_31 : decode cX3_channel 31 = .ok (.ireturn, 1) := by decide +kernel
theorem dX3_channel_32 : decode cX3_channel 32 = .ok (.aload_n 0, 1) := by decide +kernel
theorem dX3_channel_33 : decode cX3_channel 33 = .ok (.getfield 14, 3) := by decide +kernel
theorem dX3_channel_36 : decode cX3_channel 36 = .ok (.iload_n 1, 1) := by decide +kernel
theorem dX3_channel_37 : decode cX3_channel 37 = .ok (.iaload, 1) := by decide +kernel
theorem dX3_channel_38 : decode cX3_channel 38 = .ok (.istore_n 3, 1) := by decide +kernel
theorem dX3_channel_39 : decode cX3_channel 39 = .ok (.aload_n 0, 1) := by decide +kernel
theorem dX3_channel_40 : decode cX3_channel 40 = .ok (.getfield 14, 3) := by decide +kernel
theorem dX3_channel_43 : decode cX3_channel 43 = .ok (.iload_n 1, 1) := by decide +kernel
theorem dX3_channel_44 : decode cX3_channel 44 = .ok (.iload_n 2, 1) := by decide +kernel
theorem dX3_channel_45 : decode cX3_channel 45 = .ok (.iastore, 1) := by decide +kernel
theorem dX3_channel_46 : decode cX3_channel 46 = .ok (.iload_n 3, 1) := by decide +kernel
theorem dX3_channel_47 : decode cX3_channel 47 = .ok (.ireturn, 1) := by decide +kernel
theorem dX3_sign_0 : decode cX3_sign 0 = .ok (.aload_n 0, 1) := by decide +kernel
theorem dX3_sign_1 : decode cX3_sign 1 = .ok (.iconst 0, 1) := by decide +kernel
theorem dX3_sign_2 : decode cX3_sign 2 = .ok (.putfield 33, 3) := by decide +kernel
theorem dX3_sign_5 : decode cX3_sign 5 = .ok (.aload_n 0, 1) := by decide +kernel
theorem dX3_sign_6 : decode cX3_sign 6 = .ok (.getfield 36, 3) := by decide +kernel
theorem dX3_sign_9 : decode cX3_sign 9 = .ok (.sipush 200, 3) := by decide +kernel
theorem dX3_sign_12 : decode cX3_sign 12 = .ok (.if_icmp .ne 4, 3) := by decide +kernel
theorem dX3_sign_15 : decode cX3_sign 15 = .ok (.return_, 1) := by decide +kernel
theorem dX3_sign_16 : decode cX3_sign 16 = .ok (.aload_n 0, 1) := by decide +kernel
theorem dX3_sign_17 : decode cX3_sign 17 = .ok (.getfield 20, 3) := by decide +kernel
theorem dX3_sign_20 : decode cX3_sign 20 = .ok (.aload_n 0, 1) := by decide +kernel
theorem dX3_sign_21 : decode cX3_sign 21 = .ok (.getfield 36, 3) := by decide +kernel
theorem dX3_sign_24 : decode cX3_sign 24 = .ok (.iload_n 1, 1) := by decide +kernel
theorem dX3_sign_25 : decode cX3_sign 25 = .ok (.sipush 255, 3) := by decide +kernel
theorem dX3_sign_28 : decode cX3_sign 28 = .ok (.iand, 1) := by decide +kernel
theorem dX3_sign_29 : decode cX3_sign 29 = .ok (.bipush 32, 2) := by decide +kernel
theorem dX3_sign_31 : decode cX3_sign 31 = .ok (.if_icmp .ge 8, 3) := by decide +kernel
theorem dX3_sign_34 : decode cX3_sign 34 = .ok (.bipush 32, 2) := by decide +kernel
theorem dX3_sign_36 : decode cX3_sign 36 = .ok (.goto 8, 3) := by decide +kernel
theorem dX3_sign_39 : decode cX3_sign 39 = .ok (.iload_n 1, 1) := by decide +kernel
theorem dX3_sign_40 : decode cX3_sign 40 = .ok (.sipush 255, 3) := by decide +kernel
theorem dX3_sign_43 : decode cX3_sign 43 = .ok (.iand, 1) := by decide +kernel
theorem dX3_sign_44 : decode cX3_sign 44 = .ok (.iastore, 1) := by decide +kernel
theorem dX3_sign_45 : decode cX3_sign 45 = .ok (.aload_n 0, 1) := by decide +kernel
theorem dX3_sign_46 : decode cX3_sign 46 = .ok (.dup, 1) := by decide +kernel
theorem dX3_sign_47 : decode cX3_sign 47 = .ok (.getfield 36, 3) := by decide +kernel
theorem dX3_sign_50 : decode cX3_sign 50 = .ok (.iconst 1, 1) := by decide +kernel
theorem dX3_sign_51 : decode cX3_sign 51 = .ok (.iadd, 1) := by decide +kernel
theorem dX3_sign_52 : decode cX3_sign 52 = .ok (.putfield 36, 3) := by decide +kernel
theorem dX3_sign_55 : decode cX3_sign 55 = .ok (.return_, 1) := by decide +kernel
theorem dX3_tries_0 : decode cX3_tries 0 = .ok (.aload_n 0, 1) := by decide +kernel
theorem dX3_tries_1 : decode cX3_tries 1 = .ok (.aload_n 0, 1) := by decide +kernel
theorem dX3_tries_2 : decode cX3_tries 2 = .ok (.getfield 39, 3) := by decide +kernel
theorem dX3_tries_5 : decode cX3_tries 5 = .ok (.putfield 42, 3) := by decide +kernel
theorem dX3_tries_8 : decode cX3_tries 8 = .ok (.aload_n 0, 1) := by decide +kernel
theorem dX3_tries_9 : decode cX3_tries 9 = .ok (.aload_n 0, 1) := by decide +kernel
theorem dX3_tries_10 : decode cX3_tries 10 = .ok (.getfield 45, 3) := by decide +kernel
theorem dX3_tries_13 : decode cX3_tries 13 = .ok (.putfield 48, 3) := by decide +kernel
theorem dX3_tries_16 : decode cX3_tries 16 = .ok (.aload_n 0, 1) := by decide +kernel
theorem dX3_tries_17 : decode cX3_tries 17 = .ok (.aload_n 0, 1) := by decide +kernel
theorem dX3_tries_18 : decode cX3_tries 18 = .ok (.getfield 51, 3) := by decide +kernel
theorem dX3_tries_21 : decode cX3_tries 21 = .ok (.putfield 55, 3) := by decide +kernel
theorem dX3_tries_24 : decode cX3_tries 24 = .ok (.return_, 1) := by decide +kernel
theorem dX3_move_0 : decode cX3_move 0 = .ok (.iconst 0, 1) := by decide +kernel
theorem dX3_move_1 : decode cX3_move 1 = .ok (.istore_n 2, 1) := by decide +kernel
theorem dX3_move_2 : decode cX3_move 2 = .ok (.iload_n 2, 1) := by decide +kernel
theorem dX3_move_3 : decode cX3_move 3 = .ok (.iload_n 1, 1) := by decide +kernel
theorem dX3_move_4 : decode cX3_move 4 = .ok (.if_icmp .ge 64, 3) := by decide +kernel
theorem dX3_move_7 : decode cX3_move 7 = .ok (.aload_n 0, 1) := by decide +kernel
theorem dX3_move_8 : decode cX3_move 8 = .ok (.dup, 1) := by decide +kernel
theorem dX3_move_9 : decode cX3_move 9 = .ok (.getfield 48, 3) := by decide +kernel
theorem dX3_move_12 : decode cX3_move 12 = .ok (.iconst 1, 1) := by decide +kernel
theorem dX3_move_13 : decode cX3_move 13 = .ok (.iadd, 1) := by decide +kernel
theorem dX3_move_14 : decode cX3_move 14 = .ok (.putfield 48, 3) := by decide +kernel
theorem dX3_move_17 : decode cX3_move 17 = .ok (.aload_n 0, 1) := by decide +kernel
theorem dX3_move_18 : decode cX3_move 18 = .ok (.getfield 48, 3) := by decide +kernel
theorem dX3_move_21 : decode cX3_move 21 = .ok (.aload_n 0, 1) := by decide +kernel
theorem dX3_move_22 : decode cX3_move 22 = .ok (.getfield 26, 3) := by decide +kernel
theorem dX3_move_25 : decode cX3_move 25 = .ok (.if_icmp .ge 6, 3) := by decide +kernel
theorem dX3_move_28 : decode cX3_move 28 = .ok (.goto 34, 3) := by decide +kernel
theorem dX3_move_31 : decode cX3_move 31 = .ok (.aload_n 0, 1) := by decide +kernel
theorem dX3_move_32 : decode cX3_move 32 = .ok (.dup, 1) := by decide +kernel
theorem dX3_move_33 : decode cX3_move 33 = .ok (.getfield 42, 3) := by decide +kernel
theorem dX3_move_36 : decode cX3_move 36 = .ok (.aload_n 0, 1) := by decide +kernel
theorem dX3_move_37 : decode cX3_move 37 = .ok (.getfield 55, 3) := by decide +kernel
theorem dX3_move_40 : decode cX3_move 40 = .ok (.ifCond .eq 7, 3) := by decide +kernel
theorem dX3_move_43 : decode cX3_move 43 = .ok (.iconst 0, 1) := by decide +kernel
theorem dX3_move_44 : decode cX3_move 44 = .ok (.goto 4, 3) := by decide +kernel
theorem dX3_move_47 : decode cX3_move 47 = .ok (.iconst 1, 1) := by decide +kernel
theorem dX3_move_48 : decode cX3_move 48 = .ok (.iadd, 1) := by decide +kernel
theorem dX3_move_49 : decode cX3_move 49 = .ok (.putfield 42, 3) := by decide +kernel
theorem dX3_move_52 : decode cX3_move 52 = .ok (.aload_n 0, 1) := by decide +kernel
theorem dX3_move_53 : decode cX3_move 53 = .ok (.iconst 0, 1) := by decide +kernel
theorem dX3_move_54 : decode cX3_move 54 = .ok (.putfield 55, 3) := by decide +kernel
theorem dX3_move_57 : decode cX3_move 57 = .ok (.aload_n 0, 1) := by decide +kernel
theorem dX3_move_58 : decode cX3_move 58 = .ok (.iconst 0, 1) := by decide +kernel
theorem dX3_move_59 : decode cX3_move 59 = .ok (.putfield 48, 3) := by decide +kernel
theorem dX3_move_62 : decode cX3_move 62 = .ok (.iinc 2 1, 3) := by decide +kernel
theorem dX3_move_65 : decode cX3_move 65 = .ok (.goto (-63), 3) := by decide +kernel
theorem dX3_move_68 : decode cX3_move 68 = .ok (.return_, 1) := by decide +kernel
theorem dX3_way_0 : decode cX3_way 0 = .ok (.aload_n 0, 1) := by decide +kernel
theorem dX3_way_1 : decode cX3_way 1 = .ok (.getfield 14, 3) := by decide +kernel
theorem dX3_way_4 : decode cX3_way 4 = .ok (.iload_n 1, 1) := by decide +kernel
theorem dX3_way_5 : decode cX3_way 5 = .ok (.iaload, 1) := by decide +kernel
theorem dX3_way_6 : decode cX3_way 6 = .ok (.iconst (-1), 1) := by decide +kernel
theorem dX3_way_7 : decode cX3_way 7 = .ok (.if_icmp .ne 8, 3) := by decide +kernel
theorem dX3_way_10 : decode cX3_way 10 = .ok (.aload_n 0, 1) := by decide +kernel
theorem dX3_way_11 : decode cX3_way 11 = .ok (.getfield 26, 3) := by decide +kernel
theorem dX3_way_14 : decode cX3_way 14 = .ok (.ireturn, 1) := by decide +kernel
theorem dX3_way_15 : decode cX3_way 15 = .ok (.aload_n 0, 1) := by decide +kernel
theorem dX3_way_16 : decode cX3_way 16 = .ok (.getfield 14, 3) := by decide +kernel
theorem dX3_way_19 : decode cX3_way 19 = .ok (.iload_n 1, 1) := by decide +kernel
theorem dX3_way_20 : decode cX3_way 20 = .ok (.iaload, 1) := by decide +kernel
theorem dX3_way_21 : decode cX3_way 21 = .ok (.aload_n 0, 1) := by decide +kernel
theorem dX3_way_22 : decode cX3_way 22 = .ok (.getfield 48, 3) := by decide +kernel
theorem dX3_way_25 : decode cX3_way 25 = .ok (.isub, 1) := by decide +kernel
theorem dX3_way_26 : decode cX3_way 26 = .ok (.istore_n 2, 1) := by decide +kernel
theorem dX3_way_27 : decode cX3_way 27 = .ok (.iload_n 2, 1) := by decide +kernel
theorem dX3_way_28 : decode cX3_way 28 = .ok (.ifCond .le 7, 3) := by decide +kernel
theorem dX3_way_31 : decode cX3_way 31 = .ok (.iload_n 2, 1) := by decide +kernel
theorem dX3_way_32 : decode cX3_way 32 = .ok (.goto 9, 3) := by decide +kernel
theorem dX3_way_35 : decode cX3_way 35 = .ok (.iload_n 2, 1) := by decide +kernel
theorem dX3_way_36 : decode cX3_way 36 = .ok (.aload_n 0, 1) := by decide +kernel
theorem dX3_way_37 : decode cX3_way 37 = .ok (.getfield 26, 3) := by decide +kernel
theorem dX3_way_40 : decode cX3_way 40 = .ok (.iadd, 1) := by decide +kernel
theorem dX3_way_41 : decode cX3_way 41 = .ok (.ireturn, 1) := by decide +kernel
theorem dX3_begin_0 : decode cX3_begin 0 = .ok (.aload_n 0, 1) := by decide +kernel
theorem dX3_begin_1 : decode cX3_begin 1 = .ok (.dup, 1) := by decide +kernel
theorem dX3_begin_2 : decode cX3_begin 2 = .ok (.getfield 42, 3) := by decide +kernel
theorem dX3_begin_5 : decode cX3_begin 5 = .ok (.aload_n 0, 1) := by decide +kernel
theorem dX3_begin_6 : decode cX3_begin 6 = .ok (.getfield 55, 3) := by decide +kernel
theorem dX3_begin_9 : decode cX3_begin 9 = .ok (.ifCond .eq 7, 3) := by decide +kernel
theorem dX3_begin_12 : decode cX3_begin 12 = .ok (.iconst 0, 1) := by decide +kernel
theorem dX3_begin_13 : decode cX3_begin 13 = .ok (.goto 4, 3) := by decide +kernel
theorem dX3_begin_16 : decode cX3_begin 16 = .ok (.iconst 1, 1) := by decide +kernel
theorem dX3_begin_17 : decode cX3_begin 17 = .ok (.iadd, 1) := by decide +kernel
theorem dX3_begin_18 : decode cX3_begin 18 = .ok (.putfield 42, 3) := by decide +kernel
theorem dX3_begin_21 : decode cX3_begin 21 = .ok (.aload_n 0, 1) := by decide +kernel
theorem dX3_begin_22 : decode cX3_begin 22 = .ok (.iconst 1, 1) := by decide +kernel
theorem dX3_begin_23 : decode cX3_begin 23 = .ok (.putfield 55, 3) := by decide +kernel
theorem dX3_begin_26 : decode cX3_begin 26 = .ok (.return_, 1) := by decide +kernel
theorem dX3_settle_0 : decode cX3_settle 0 = .ok (.sipush 8712, 3) := by decide +kernel
theorem dX3_settle_3 : decode cX3_settle 3 = .ok (.aload_n 0, 1) := by decide +kernel
theorem dX3_settle_4 : decode cX3_settle 4 = .ok (.getfield 39, 3) := by decide +kernel
theorem dX3_settle_7 : decode cX3_settle 7 = .ok (.imul, 1) := by decide +kernel
theorem dX3_settle_8 : decode cX3_settle 8 = .ok (.istore_n 1, 1) := by decide +kernel
theorem dX3_settle_9 : decode cX3_settle 9 = .ok (.iload_n 1, 1) := by decide +kernel
theorem dX3_settle_10 : decode cX3_settle 10 = .ok (.sipush 8712, 3) := by decide +kernel
theorem dX3_settle_13 : decode cX3_settle 13 = .ok (.aload_n 0, 1) := by decide +kernel
theorem dX3_settle_14 : decode cX3_settle 14 = .ok (.getfield 42, 3) := by decide +kernel
theorem dX3_settle_17 : decode cX3_settle 17 = .ok (.imul, 1) := by decide +kernel
theorem dX3_settle_18 : decode cX3_settle 18 = .ok (.if_icmp .ge 17, 3) := by decide +kernel
theorem dX3_settle_21 : decode cX3_settle 21 = .ok (.aload_n 0, 1) := by decide +kernel
theorem dX3_settle_22 : decode cX3_settle 22 = .ok (.getfield 8, 3) := by decide +kernel
theorem dX3_settle_25 : decode cX3_settle 25 = .ok (.iload_n 1, 1) := by decide +kernel
theorem dX3_settle_26 : decode cX3_settle 26 = .ok (.bipush 32, 2) := by decide +kernel
theorem dX3_settle_28 : decode cX3_settle 28 = .ok (.iastore, 1) := by decide +kernel
theorem dX3_settle_29 : decode cX3_settle 29 = .ok (.iinc 1 1, 3) := by decide +kernel
theorem dX3_settle_32 : decode cX3_settle 32 = .ok (.goto (-23), 3) := by decide +kernel
theorem dX3_settle_35 : decode cX3_settle 35 = .ok (.aload_n 0, 1) := by decide +kernel
theorem dX3_settle_36 : decode cX3_settle 36 = .ok (.aload_n 0, 1) := by decide +kernel
theorem dX3_settle_37 : decode cX3_settle 37 = .ok (.getfield 42, 3) := by decide +kernel
theorem dX3_settle_40 : decode cX3_settle 40 = .ok (.putfield 39, 3) := by decide +kernel
theorem dX3_settle_43 : decode cX3_settle 43 = .ok (.aload_n 0, 1) := by decide +kernel
theorem dX3_settle_44 : decode cX3_settle 44 = .ok (.aload_n 0, 1) := by decide +kernel
theorem dX3_settle_45 : decode cX3_settle 45 = .ok (.getfield 48, 3) := by decide +kernel
theorem dX3_settle_48 : decode cX3_settle 48 = .ok (.putfield 45, 3) := by decide +kernel
theorem dX3_settle_51 : decode cX3_settle 51 = .ok (.aload_n 0, 1) := by decide +kernel
theorem dX3_settle_52 : decode cX3_settle 52 = .ok (.aload_n 0, 1) := by decide +kernel
theorem dX3_settle_53 : decode cX3_settle 53 = .ok (.getfield 55, 3) := by decide +kernel
theorem dX3_settle_56 : decode cX3_settle 56 = .ok (.putfield 51, 3) := by decide +kernel
theorem dX3_settle_59 : decode cX3_settle 59 = .ok (.return_, 1) := by decide +kernel
theorem dX3_darker_0 : decode cX3_darker 0 = .ok (.iload_n 0, 1) := by decide +kernel
theorem dX3_darker_1 : decode cX3_darker 1 = .ok (.iload_n 1, 1) := by decide +kernel
theorem dX3_darker_2 : decode cX3_darker 2 = .ok (.if_icmp .le 7, 3) := by decide +kernel
theorem dX3_darker_5 : decode cX3_darker 5 = .ok (.iload_n 0, 1) := by decide +kernel
theorem dX3_darker_6 : decode cX3_darker 6 = .ok (.goto 4, 3) := by decide +kernel
theorem dX3_darker_9 : decode cX3_darker 9 = .ok (.iload_n 1, 1) := by decide +kernel
theorem dX3_darker_10 : decode cX3_darker 10 = .ok (.ireturn, 1) := by decide +kernel
set_option maxRecDepth 20000 in
theorem ggX3_print_X3_darker : GoodIn wsX3_print wsX3_darker := goodIn_r _ [10] (by decide +kernel) (by decide +kernel)
set_option maxRecDepth 20000 in
theorem gX3_print_X3_darker : GoodIn wsX3_print (va_wsS RX3 58 yX3_darker wsX3_darker) := goodIn_app (goodIn_of _ (by decide +kernel)) ggX3_print_X3_darker
theorem dX3_print_0 : decode cX3_print 0 = .ok (.iconst 0, 1) := by decide +kernel
theorem dX3_print_1 : decode cX3_print 1 = .ok (.istore_n 3, 1) := by decide +kernel
theorem dX3_print_2 : decode cX3_print 2 = .ok (.iload_n 3, 1) := by decide +kernel
theorem dX3_print_3 : decode cX3_print 3 = .ok (.aload_n 0, 1) := by decide +kernel
theorem dX3_print_4 : decode cX3_print 4 = .ok (.getfield 36, 3) := by decide +kernel
theorem dX3_print_7 : decode cX3_print 7 = .ok (.if_icmp .ge 98, 3) := by decide +kernel
theorem dX3_print_10 : decode cX3_print 10 = .ok (.aload_n 0, 1) := by decide +kernel
theorem dX3_print_11 : decode cX3_print 11 = .ok (.getfield 17, 3) := by decide +kernel
theorem dX3_print_14 : decode cX3_print 14 = .ok (.aload_n 0, 1) := by decide +kernel
theorem dX3_print_15 : decode cX3_print 15 = .ok (.getfield 20, 3) := by decide +kernel
theorem dX3_print_18 : decode cX3_print 18 = .ok (.iload_n 3, 1) := by decide +kernel
theorem dX3_print_19 : decode cX3_print 19 = .ok (.iaload, 1) := by decide +kernel
theorem dX3_print_20 : decode cX3_print 20 = .ok (.iaload, 1) := by decide +kernel
theorem dX3_print_21 : decode cX3_print 21 = .ok (.istore 4, 2) := by decide +kernel
theorem dX3_print_23 : decode cX3_print 23 = .ok (.iload_n 3, 1) := by decide +kernel
theorem dX3_print_24 : decode cX3_print 24 = .ok (.aload_n 0, 1) := by decide +kernel
theorem dX3_print_25 : decode cX3_print 25 = .ok (.getfield 30, 3) := by decide +kernel
theorem dX3_print_28 : decode cX3_print 28 = .ok (.if_icmp .lt 16, 3) := by decide +kernel
theorem dX3_print_31 : decode cX3_print 31 = .ok (.aload_n 0, 1) := by decide +kernel
theorem dX3_print_32 : decode cX3_print 32 = .ok (.getfield 23, 3) := by decide +kernel
theorem dX3_print_35 : decode cX3_print 35 = .ok (.iconst 4, 1) := by decide +kernel
theorem dX3_print_36 : decode cX3_print 36 = .ok (.dup2, 1) := by decide +kernel
theorem dX3_print_37 : decode cX3_print 37 = .ok (.iaload, 1) := by decide +kernel
theorem dX3_print_38 : decode cX3_print 38 = .ok (.iconst 1, 1) := by decide +kernel
theorem dX3_print_39 : decode cX3_print 39 = .ok (.iadd, 1) := by decide +kernel
theorem dX3_print_40 : decode cX3_print 40 = .ok (.iastore, 1) := by decide +kernel
theorem dX3_print_41 : decode cX3_print 41 = .ok (.goto 58, 3) := by decide +kernel
theorem dX3_print_44 : decode cX3_print 44 = .ok (.sipush 8712, 3) := by decide +kernel
theorem dX3_print_47 : decode cX3_print 47 = .ok (.iload_n 1, 1) := by decide +kernel
theorem dX3_print_48 : decode cX3_print 48 = .ok (.imul, 1) := by decide +kernel
theorem dX3_print_49 : decode cX3_print 49 = .ok (.sipush 132, 3) := by decide +kernel
theorem dX3_print_52 : decode cX3_print 52 = .ok (.iload_n 2, 1) := by decide +kernel
theorem dX3_print_53 : decode cX3_print 53 = .ok (.imul, 1) := by decide +kernel
theorem dX3_print_54 : decode cX3_print 54 = .ok (.iadd, 1) := by decide +kernel
theorem dX3_print_55 : decode cX3_print 55 = .ok (.iload_n 3, 1) := by decide +kernel
theorem dX3_print_56 : decode cX3_print 56 = .ok (.iadd, 1) := by decide +kernel
theorem dX3_print_57 : decode cX3_print 57 = .ok (.istore 5, 2) := by decide +kernel
theorem dX3_print_59 : decode cX3_print 59 = .ok (.aload_n 0, 1) := by decide +kernel
theorem dX3_print_60 : decode cX3_print 60 = .ok (.getfield 8, 3) := by decide +kernel
theorem dX3_print_63 : decode cX3_print 63 = .ok (.iload 5, 2) := by decide +kernel
theorem dX3_print_65 : decode cX3_print 65 = .ok (.aload_n 0, 1) := by decide +kernel
theorem dX3_print_66 : decode cX3_print 66 = .ok (.getfield 8, 3) := by decide +kernel
theorem dX3_print_69 : decode cX3_print 69 = .ok (.iload 5, 2) := by decide +kernel
theorem dX3_print_71 : decode cX3_print 71 = .ok (.iaload, 1) := by decide +kernel
theorem dX3_print_72 : decode cX3_print 72 = .ok (.iload 4, 2) := by decide +kernel
theorem dX3_print_74 : decode cX3_print 74 = .ok (.invokestatic 58, 3) := by decide +kernel
theorem dX3_print_77 : decode cX3_print 77 = .ok (.iastore, 1) := by decide +kernel
theorem dX3_print_78 : decode cX3_print 78 = .ok (.aload_n 0, 1) := by decide +kernel
theorem dX3_print_79 : decode cX3_print 79 = .ok (.getfield 23, 3) := by decide +kernel
theorem dX3_print_82 : decode cX3_print 82 = .ok (.iconst 3, 1) := by decide +kernel
theorem dX3_print_83 : decode cX3_print 83 = .ok (.dup2, 1) := by decide +kernel
theorem dX3_print_84 : decode cX3_print 84 = .ok (.iaload, 1) := by decide +kernel
theorem dX3_print_85 : decode cX3_print 85 = .ok (.iload 4, 2) := by decide +kernel
theorem dX3_print_87 : decode cX3_print 87 = .ok (.bipush 32, 2) := by decide +kernel
theorem dX3_print_89 : decode cX3_print 89 = .ok (.if_icmp .ne 7, 3) := by decide +kernel
theorem dX3_print_92 : decode cX3_print 92 = .ok (.iconst 0, 1) := by decide +kernel
theorem dX3_print_93 : decode cX3_print 93 = .ok (.goto 4, 3) := by decide +kernel
theorem dX3_print_96 : decode cX3_print 96 = .ok (.iconst 1, 1) := by decide +kernel
theorem dX3_print_97 : decode cX3_print 97 = .ok (.iadd, 1) := by decide +kernel
theorem dX3_print_98 : decode cX3_print 98 = .ok (.iastore, 1) := by decide +kernel
theorem dX3_print_99 : decode cX3_print 99 = .ok (.iinc 3 1, 3) := by decide +kernel
theorem dX3_print_102 : decode cX3_print 102 = .ok (.goto (-100), 3) := by decide +kernel
theorem dX3_print_105 : decode cX3_print 105 = .ok (.aload_n 0, 1) := by decide +kernel
theorem dX3_print_106 : decode cX3_print 106 = .ok (.iconst 0, 1) := by decide +kernel
theorem dX3_print_107 : decode cX3_print 107 = .ok (.putfield 36, 3) := by decide +kernel
theorem dX3_print_110 : decode cX3_print 110 = .ok (.aload_n 0, 1) := by decide +kernel
theorem dX3_print_111 : decode cX3_print 111 = .ok (.getfield 23, 3) := by decide +kernel
theorem dX3_print_114 : decode cX3_print 114 = .ok (.iconst 2, 1) := by decide +kernel
theorem dX3_print_115 : decode cX3_print 115 = .ok (.dup2, 1) := by decide +kernel
theorem dX3_print_116 : decode cX3_print 116 = .ok (.iaload, 1) := by decide +kernel
theorem dX3_print_117 : decode cX3_print 117 = .ok (.iconst 1, 1) := by decide +kernel
theorem dX3_print_118 : decode cX3_print 118 = .ok (.iadd, 1) := by decide +kernel
theorem dX3_print_119 : decode cX3_print 119 = .ok (.iastore, 1) := by decide +kernel
theorem dX3_print_120 : decode cX3_print 120 = .ok (.return_, 1) := by decide +kernel
set_option maxRecDepth 20000 in
theorem ggX3_ahead_X3_way : GoodIn wsX3_ahead wsX3_way := goodIn_r _ [5, 6, 7, 8, 9, 10, 11, 12, 13, 14, 15, 16, 17, 18, 19, 20, 21, 22, 23, 24] (by decide +kernel) (by decide +kernel)
set_option maxRecDepth 20000 in
theorem gX3_ahead_X3_way : GoodIn wsX3_ahead (wsV RX3 62 RX3 yX3_way wsX3_way) := goodIn_app (goodIn_of _ (by decide +kernel)) ggX3_ahead_X3_way
theorem dX3_ahead_0 : decode cX3_ahead 0 = .ok (.iload_n 1, 1) := by decide +kernel
theorem dX3_ahead_1 : decode cX3_ahead 1 = .ok (.bipush 49, 2) := by decide +kernel
theorem dX3_ahead_3 : decode cX3_ahead 3 = .ok (.if_icmp .lt 18, 3) := by decide +kernel
theorem dX3_ahead_6 : decode cX3_ahead 6 = .ok (.iload_n 1, 1) := by decide +kernel
theorem dX3_ahead_7 : decode cX3_ahead 7 = .ok (.bipush 57, 2) := by decide +kernel
theorem dX3_ahead_9 : decode cX3_ahead 9 = .ok (.if_icmp .gt 12, 3) := by decide +kernel
theorem dX3_ahead_12 : decode cX3_ahead 12 = .ok (.aload_n 0, 1) := by decide +kernel
theorem dX3_ahead_13 : decode cX3_ahead 13 = .ok (.iload_n 1, 1) := by decide +kernel
theorem dX3_ahead_14 : decode cX3_ahead 14 = .ok (.bipush 48, 2) := by decide +kernel
theorem dX3_ahead_16 : decode cX3_ahead 16 = .ok (.isub, 1) := by decide +kernel
theorem dX3_ahead_17 : decode cX3_ahead 17 = .ok (.invokevirtual 62, 3) := by decide +kernel
theorem dX3_ahead_20 : decode cX3_ahead 20 = .ok (.ireturn, 1) := by decide +kernel
theorem dX3_ahead_21 : decode cX3_ahead 21 = .ok (.iload_n 1, 1) := by decide +kernel
theorem dX3_ahead_22 : decode cX3_ahead 22 = .ok (.bipush 65, 2) := by decide +kernel
theorem dX3_ahead_24 : decode cX3_ahead 24 = .ok (.if_icmp .lt 18, 3) := by decide +kernel
theorem dX3_ahead_27 : decode cX3_ahead 27 = .ok (.iload_n 1, 1) := by decide +kernel
theorem dX3_ahead_28 : decode cX3_ahead 28 = .ok (.bipush 67, 2) := by decide +kernel
theorem dX3_ahead_30 : decode cX3_ahead 30 = .ok (.if_icmp .gt 12, 3) := by decide +kernel
theorem dX3_ahead_33 : decode cX3_ahead 33 = .ok (.aload_n 0, 1) := by decide +kernel
theorem dX3_ahead_34 : decode cX3_ahead 34 = .ok (.iload_n 1, 1) := by decide +kernel
theorem dX3_ahead_35 : decode cX3_ahead 35 = .ok (.bipush 55, 2) := by decide +kernel
theorem dX3_ahead_37 : decode cX3_ahead 37 = .ok (.isub, 1) := by decide +kernel
theorem dX3_ahead_38 : decode cX3_ahead 38 = .ok (.invokevirtual 62, 3) := by decide +kernel
theorem dX3_ahead_41 : decode cX3_ahead 41 = .ok (.ireturn, 1) := by decide +kernel
theorem dX3_ahead_42 : decode cX3_ahead 42 = .ok (.iload_n 1, 1) := by decide +kernel
theorem dX3_ahead_43 : decode cX3_ahead 43 = .ok (.bipush 48, 2) := by decide +kernel
theorem dX3_ahead_45 : decode cX3_ahead 45 = .ok (.if_icmp .ne 7, 3) := by decide +kernel
theorem dX3_ahead_48 : decode cX3_ahead 48 = .ok (.iconst 2, 1) := by decide +kernel
theorem dX3_ahead_49 : decode cX3_ahead 49 = .ok (.goto 24, 3) := by decide +kernel
theorem dX3_ahead_52 : decode cX3_ahead 52 = .ok (.iload_n 1, 1) := by decide +kernel
theorem dX3_ahead_53 : decode cX3_ahead 53 = .ok (.bipush 45, 2) := by decide +kernel
theorem dX3_ahead_55 : decode cX3_ahead 55 = .ok (.if_icmp .ne 7, 3) := by decide +kernel
theorem dX3_ahead_58 : decode cX3_ahead 58 = .ok (.iconst 3, 1) := by decide +kernel
theorem dX3_ahead_59 : decode cX3_ahead 59 = .ok (.goto 14, 3) := by decide +kernel
theorem dX3_ahead_62 : decode cX3_ahead 62 = .ok (.iload_n 1, 1) := by decide +kernel
theorem dX3_ahead_63 : decode cX3_ahead 63 = .ok (.bipush 43, 2) := by decide +kernel
theorem dX3_ahead_65 : decode cX3_ahead 65 = .ok (.if_icmp .ne 7, 3) := by decide +kernel
theorem dX3_ahead_68 : decode cX3_ahead 68 = .ok (.iconst 0, 1) := by decide +kernel
theorem dX3_ahead_69 : decode cX3_ahead 69 = .ok (.goto 4, 3) := by decide +kernel
theorem dX3_ahead_72 : decode cX3_ahead 72 = .ok (.iconst 1, 1) := by decide +kernel
theorem dX3_ahead_73 : decode cX3_ahead 73 = .ok (.ireturn, 1) := by decide +kernel
theorem dX3_channelOf_0 : decode cX3_channelOf 0 = .ok (.iload_n 0, 1) := by decide +kernel
theorem dX3_channelOf_1 : decode cX3_channelOf 1 = .ok (.bipush 49, 2) := by decide +kernel
theorem dX3_channelOf_3 : decode cX3_channelOf 3 = .ok (.if_icmp .lt 16, 3) := by decide +kernel
theorem dX3_channelOf_6 : decode cX3_channelOf 6 = .ok (.iload_n 0, 1) := by decide +kernel
theorem dX3_channelOf_7 : decode cX3_channelOf 7 = .ok (.bipush 57, 2) := by decide +kernel
theorem dX3_channelOf_9 : decode cX3_channelOf 9 = .ok (.if_icmp .gt 10, 3) := by decide +kernel
theorem dX3_channelOf_12 : decode cX3_channelOf 12 = .ok (.iload_n 0, 1) := by decide +kernel
theorem dX3_channelOf_13 : decode cX3_channelOf 13 = .ok (.bipush 48, 2) := by decide +kernel
theorem dX3_channelOf_15 : decode cX3_channelOf 15 = .ok (.isub, 1) := by decide +kernel
theorem dX3_channelOf_16 : decode cX3_channelOf 16 = .ok (.goto 45, 3) := by decide +kernel
theorem dX3_channelOf_19 : decode cX3_channelOf 19 = .ok (.iload_n 0, 1) := by decide +kernel
theorem dX3_channelOf_20 : decode cX3_channelOf 20 = .ok (.bipush 65, 2) := by decide +kernel
theorem dX3_channelOf_22 : decode cX3_channelOf 22 = .ok (.if_icmp .lt 16, 3) := by decide +kernel
theorem dX3_channelOf_25 : decode cX3_channelOf 25 = .ok (.iload_n 0, 1) := by decide +kernel
theorem dX3_channelOf_26 : decode cX3_channelOf 26 = .ok (.bipush 67, 2) := by decide +kernel
theorem dX3_channelOf_28 : decode cX3_channelOf 28 = .ok (.if_icmp .gt 10, 3) := by decide +kernel
theorem dX3_channelOf_31 : decode cX3_channelOf 31 = .ok (.iload_n 0, 1) := by decide +kernel
theorem dX3_channelOf_32 : decode cX3_channelOf 32 = .ok (.bipush 55, 2) := by decide +kernel
theorem dX3_channelOf_34 : decode cX3_channelOf 34 = .ok (.isub, 1) := by decide +kernel
theorem dX3_channelOf_35 : decode cX3_channelOf 35 = .ok (.goto 26, 3) := by decide +kernel
theorem dX3_channelOf_38 : decode cX3_channelOf 38 = .ok (.iload_n 0, 1) := by decide +kernel
theorem dX3_channelOf_39 : decode cX3_channelOf 39 = .ok (.sipush 273, 3) := by decide +kernel
theorem dX3_channelOf_42 : decode cX3_channelOf 42 = .ok (.if_icmp .lt 18, 3) := by decide +kernel
theorem dX3_channelOf_45 : decode cX3_channelOf 45 = .ok (.iload_n 0, 1) := by decide +kernel
theorem dX3_channelOf_46 : decode cX3_channelOf 46 = .ok (.sipush 284, 3) := by decide +kernel
theorem dX3_channelOf_49 : decode cX3_channelOf 49 = .ok (.if_icmp .gt 11, 3) := by decide +kernel
theorem dX3_channelOf_52 : decode cX3_channelOf 52 = .ok (.iload_n 0, 1) := by decide +kernel
theorem dX3_channelOf_53 : decode cX3_channelOf 53 = .ok (.sipush 272, 3) := by decide +kernel
theorem dX3_channelOf_56 : decode cX3_channelOf 56 = .ok (.isub, 1) := by decide +kernel
theorem dX3_channelOf_57 : decode cX3_channelOf 57 = .ok (.goto 4, 3) := by decide +kernel
theorem dX3_channelOf_60 : decode cX3_channelOf 60 = .ok (.iconst 0, 1) := by decide +kernel
theorem dX3_channelOf_61 : decode cX3_channelOf 61 = .ok (.ireturn, 1) := by decide +kernel
set_option maxRecDepth 20000 in
theorem ggX3_line_X3_tries : GoodIn wsX3_line wsX3_tries := goodIn_r _ [11, 6, 2, 12, 3, 13, 14, 51, 52, 53, 54, 55, 56, 57, 58, 59, 60, 61, 62, 63, 64, 65, 66] (by decide +kernel) (by decide +kernel)
set_option maxRecDepth 20000 in
theorem gX3_line_X3_tries : GoodIn wsX3_line (wsV RX3 66 RX3 yX3_tries wsX3_tries) := goodIn_app (goodIn_of _ (by decide +kernel)) ggX3_line_X3_tries
set_option maxRecDepth 20000 in
theorem ggX3_line_X3_ahead : GoodIn wsX3_line wsX3_ahead := goodIn_r _ [18, 19, 20, 21, 10, 22, 5, 23, 3, 51, 52, 53, 54, 55, 56, 57, 58, 59, 60, 61, 62, 63, 64, 65, 66] (by decide +kernel) (by decide +kernel)
set_option maxRecDepth 20000 in
theorem gX3_line_X3_ahead : GoodIn wsX3_line (wsV RX3 69 RX3 yX3_ahead wsX3_ahead) := goodIn_app (goodIn_of _ (by decide +kernel)) ggX3_line_X3_ahead
set_option maxRecDepth 20000 in
theorem ggX3_line_X3_move : GoodIn wsX3_line wsX3_move := goodIn_r _ [27, 3, 23, 2, 14, 51, 52, 53, 54, 55, 56, 57, 58, 59, 60, 61, 62, 63, 64, 65, 66] (by decide +kernel) (by decide +kernel)
set_option maxRecDepth 20000 in
theorem gX3_line_X3_move : GoodIn wsX3_line (wsV RX3 72 RX3 yX3_move wsX3_move) := goodIn_app (goodIn_of _ (by decide +kernel)) ggX3_line_X3_move
set_option maxRecDepth 20000 in
theorem ggX3_line_X3_begin : GoodIn wsX3_line wsX3_begin := goodIn_r _ [31, 2, 14, 51, 52, 53, 54, 55, 56, 57, 58, 59, 60, 61, 62, 63, 64, 65, 66] (by decide +kernel) (by decide +kernel)
set_option maxRecDepth 20000 in
theorem gX3_line_X3_begin : GoodIn wsX3_line (wsV RX3 76 RX3 yX3_begin wsX3_begin) := goodIn_app (goodIn_of _ (by decide +kernel)) ggX3_line_X3_begin
set_option maxRecDepth 20000 in
theorem ggX3_line_X3_way : GoodIn wsX3_line wsX3_way := goodIn_r _ [22, 5, 23, 3, 51, 52, 53, 54, 55, 56, 57, 58, 59, 60, 61, 62, 63, 64, 65, 66] (by decide +kernel) (by decide +kernel)
set_option maxRecDepth 20000 in
theorem gX3_line_X3_way : GoodIn wsX3_line (wsV RX3 62 RX3 yX3_way wsX3_way) := goodIn_app (goodIn_of _ (by decide +kernel)) ggX3_line_X3_way
set_option maxRecDepth 20000 in
theorem ggX3_line_X3_channelOf : GoodIn wsX3_line wsX3_channelOf := goodIn_r _ [34] (by decide +kernel) (by decide +kernel)
set_option maxRecDepth 20000 in
theorem gX3_line_X3_channelOf : GoodIn wsX3_line (va_wsS RX3 79 yX3_channelOf wsX3_channelOf) := goodIn_app (goodIn_of _ (by decide +kernel)) ggX3_line_X3_channelOf
set_option maxRecDepth 20000 in
theorem ggX3_line_X3_settle : GoodIn wsX3_line wsX3_settle := goodIn_r _ [38, 6, 2, 39, 3, 12, 14, 13, 51, 52, 53, 54, 55, 56, 57, 58, 59, 60, 61, 62, 63, 64, 65, 66] (by decide +kernel) (by decide +kernel)
set_option maxRecDepth 20000 in
theorem gX3_line_X3_settle : GoodIn wsX3_line (wsV RX3 82 RX3 yX3_settle wsX3_settle) := goodIn_app (goodIn_of _ (by decide +kernel)) ggX3_line_X3_settle
set_option maxRecDepth 20000 in
theorem ggX3_line_X3_print : GoodIn wsX3_line wsX3_print := goodIn_r _ [43, 44, 45, 46, 47, 4, 39, 48, 49, 10, 50, 51, 52, 53, 54, 55, 56, 57, 58, 59, 60, 61, 62, 63, 64, 65, 66] (by decide +kernel) (by decide +kernel)
set_option maxRecDepth 20000 in
theorem gX3_line_X3_print : GoodIn wsX3_line (wsV RX3 85 RX3 yX3_print wsX3_print) := goodIn_app (goodIn_of _ (by decide +kernel)) ggX3_line_X3_print
theorem dX3_line_0 : decode cX3_line 0 = .ok (.aload_n 0, 1) := by decide +kernel
theorem dX3_line_1 : decode cX3_line 1 = .ok (.iconst 0, 1) := by decide +kernel
theorem dX3_line_2 : decode cX3_line 2 = .ok (.putfield 33, 3) := by decide +kernel
theorem dX3_line_5 : decode cX3_line 5 = .ok (.iload_n 1, 1) := by decide +kernel
theorem dX3_line_6 : decode cX3_line 6 = .ok (.sipush 256, 3) := by decide +kernel
theorem dX3_line_9 : decode cX3_line 9 = .ok (.if_icmp .lt 10, 3) := by decide +kernel
theorem dX3_line_12 : decode cX3_line 12 = .ok (.iload_n 1, 1) := by decide +kernel
theorem dX3_line_13 : decode cX3_line 13 = .ok (.sipush 259, 3) := by decide +kernel
theorem dX3_line_16 : decode cX3_line 16 = .ok (.if_icmp .le 17, 3) := by decide +kernel
theorem dX3_line_19 : decode cX3_line 19 = .ok (.iload_n 1, 1) := by decide +kernel
theorem dX3_line_20 : decode cX3_line 20 = .ok (.sipush 273, 3) := by decide +kernel
theorem dX3_line_23 : decode cX3_line 23 = .ok (.if_icmp .lt 14, 3) := by decide +kernel
theorem dX3_line_26 : decode cX3_line 26 = .ok (.iload_n 1, 1) := by decide +kernel
theorem dX3_line_27 : decode cX3_line 27 = .ok (.sipush 284, 3) := by decide +kernel
theorem dX3_line_30 : decode cX3_line 30 = .ok (.if_icmp .gt 7, 3) := by decide +kernel
theorem dX3_line_33 : decode cX3_line 33 = .ok (.iconst 1, 1) := by decide +kernel
theorem dX3_line_34 : decode cX3_line 34 = .ok (.goto 4, 3) := by decide +kernel
theorem dX3_line_37 : decode cX3_line 37 = .ok (.iconst 0, 1) := by decide +kernel
theorem dX3_line_38 : decode cX3_line 38 = .ok (.istore_n 2, 1) := by decide +kernel
theorem dX3_line_39 : decode cX3_line 39 = .ok (.aload_n 0, 1) := by decide +kernel
theorem dX3_line_40 : decode cX3_line 40 = .ok (.invokevirtual 66, 3) := by decide +kernel
theorem dX3_line_43 : decode cX3_line 43 = .ok (.iload_n 2, 1) := by decide +kernel
theorem dX3_line_44 : decode cX3_line 44 = .ok (.ifCond .ne 12, 3) := by decide +kernel
theorem dX3_line_47 : decode cX3_line 47 = .ok (.aload_n 0, 1) := by decide +kernel
theorem dX3_line_48 : decode cX3_line 48 = .ok (.aload_n 0, 1) := by decide +kernel
theorem dX3_line_49 : decode cX3_line 49 = .ok (.iload_n 1, 1) := by decide +kernel
theorem dX3_line_50 : decode cX3_line 50 = .ok (.invokevirtual 69, 3) := by decide +kernel
theorem dX3_line_53 : decode cX3_line 53 = .ok (.invokevirtual 72, 3) := by decide +kernel
theorem dX3_line_56 : decode cX3_line 56 = .ok (.aload_n 0, 1) := by decide +kernel
theorem dX3_line_57 : decode cX3_line 57 = .ok (.invokevirtual 76, 3) := by decide +kernel
theorem dX3_line_60 : decode cX3_line 60 = .ok (.aload_n 0, 1) := by decide +kernel
theorem dX3_line_61 : decode cX3_line 61 = .ok (.getfield 42, 3) := by decide +kernel
theorem dX3_line_64 : decode cX3_line 64 = .ok (.iconst 1, 1) := by decide +kernel
theorem dX3_line_65 : decode cX3_line 65 = .ok (.isub, 1) := by decide +kernel
theorem dX3_line_66 : decode cX3_line 66 = .ok (.istore_n 3, 1) := by decide +kernel
theorem dX3_line_67 : decode cX3_line 67 = .ok (.aload_n 0, 1) := by decide +kernel
theorem dX3_line_68 : decode cX3_line 68 = .ok (.getfield 48, 3) := by decide +kernel
theorem dX3_line_71 : decode cX3_line 71 = .ok (.istore 4, 2) := by decide +kernel
theorem dX3_line_73 : decode cX3_line 73 = .ok (.iload_n 2, 1) := by decide +kernel
theorem dX3_line_74 : decode cX3_line 74 = .ok (.ifCond .eq 31, 3) := by decide +kernel
theorem dX3_line_77 : decode cX3_line 77 = .ok (.aload_n 0, 1) := by decide +kernel
theorem dX3_line_78 : decode cX3_line 78 = .ok (.iload_n 1, 1) := by decide +kernel
theorem dX3_line_79 : decode cX3_line 79 = .ok (.sipush 260, 3) := by decide +kernel
theorem dX3_line_82 : decode cX3_line 82 = .ok (.if_icmp .ge 11, 3) := by decide +kernel
theorem dX3_line_85 : decode cX3_line 85 = .ok (.iload_n 1, 1) := by decide +kernel
theorem dX3_line_86 : decode cX3_line 86 = .ok (.sipush 256, 3) := by decide +kernel
theorem dX3_line_89 : decode cX3_line 89 = .ok (.isub, 1) := by decide +kernel
theorem dX3_line_90 : decode cX3_line 90 = .ok (.goto 12, 3) := by decide +kernel
theorem dX3_line_93 : decode cX3_line 93 = .ok (.aload_n 0, 1) := by decide +kernel
theorem dX3_line_94 : decode cX3_line 94 = .ok (.iload_n 1, 1) := by decide +kernel
theorem dX3_line_95 : decode cX3_line 95 = .ok (.sipush 272, 3) := by decide +kernel
theorem dX3_line_98 : decode cX3_line 98 = .ok (.isub, 1) := by decide +kernel
theorem dX3_line_99 : decode cX3_line 99 = .ok (.invokevirtual 62, 3) := by decide +kernel
theorem dX3_line_102 : decode cX3_line 102 = .ok (.invokevirtual 72, 3) := by decide +kernel
theorem dX3_line_105 : decode cX3_line 105 = .ok (.aload_n 0, 1) := by decide +kernel
theorem dX3_line_106 : decode cX3_line 106 = .ok (.getfield 42, 3) := by decide +kernel
theorem dX3_line_109 : decode cX3_line 109 = .ok (.bipush 40, 2) := by decide +kernel
theorem dX3_line_111 : decode cX3_line 111 = .ok (.if_icmp .le 6, 3) := by decide +kernel
theorem dX3_line_114 : decode cX3_line 114 = .ok (.bipush (-6), 2) := by decide +kernel
theorem dX3_line_116 : decode cX3_line 116 = .ok (.ireturn, 1) := by decide +kernel
theorem dX3_line_117 : decode cX3_line 117 = .ok (.iload_n 1, 1) := by decide +kernel
theorem dX3_line_118 : decode cX3_line 118 = .ok (.invokestatic 79, 3) := by decide +kernel
theorem dX3_line_121 : decode cX3_line 121 = .ok (.istore 5, 2) := by decide +kernel
theorem dX3_line_123 : decode cX3_line 123 = .ok (.aload_n 0, 1) := by decide +kernel
theorem dX3_line_124 : decode cX3_line 124 = .ok (.getfield 23, 3) := by decide +kernel
theorem dX3_line_127 : decode cX3_line 127 = .ok (.iconst 5, 1) := by decide +kernel
theorem dX3_line_128 : decode cX3_line 128 = .ok (.dup2, 1) := by decide +kernel
theorem dX3_line_129 : decode cX3_line 129 = .ok (.iaload, 1) := by decide +kernel
theorem dX3_line_130 : decode cX3_line 130 = .ok (.iload 5, 2) := by decide +kernel
theorem dX3_line_132 : decode cX3_line 132 = .ok (.ifCond .le 18, 3) := by decide +kernel
theorem dX3_line_135 : decode cX3_line 135 = .ok (.aload_n 0, 1) := by decide +kernel
theorem dX3_line_136 : decode cX3_line 136 = .ok (.getfield 14, 3) := by decide +kernel
theorem dX3_line_139 : decode cX3_line 139 = .ok (.iload 5, 2) := by decide +kernel
theorem dX3_line_141 : decode cX3_line 141 = .ok (.iaload, 1) := by decide +kernel
theorem dX3_line_142 : decode cX3_line 142 = .ok (.iconst (-1), 1) := by decide +kernel
theorem dX3_line_143 : decode cX3_line 143 = .ok (.if_icmp .ne 7, 3) := by decide +kernel
theorem dX3_line_146 : decode cX3_line 146 = .ok (.iconst 1, 1) := by decide +kernel
theorem dX3_line_147 : decode cX3_line 147 = .ok (.goto 4, 3) := by decide +kernel
theorem dX3_line_150 : decode cX3_line 150 = .ok (.iconst 0, 1) := by decide +kernel
theorem dX3_line_151 : decode cX3_line 151 = .ok (.iadd, 1) := by decide +kernel
theorem dX3_line_152 : decode cX3_line 152 = .ok (.iastore, 1) := by decide +kernel
theorem dX3_line_153 : decode cX3_line 153 = .ok (.aload_n 0, 1) := by decide +kernel
theorem dX3_line_154 : decode cX3_line 154 = .ok (.invokevirtual 82, 3) := by decide +kernel
theorem dX3_line_157 : decode cX3_line 157 = .ok (.aload_n 0, 1) := by decide +kernel
theorem dX3_line_158 : decode cX3_line 158 = .ok (.iload_n 3, 1) := by decide +kernel
theorem dX3_line_159 : decode cX3_line 159 = .ok (.iload 4, 2) := by decide +kernel
theorem dX3_line_161 : decode cX3_line 161 = .ok (.invokevirtual 85, 3) := by decide +kernel
theorem dX3_line_164 : decode cX3_line 164 = .ok (.aload_n 0, 1) := by decide +kernel
theorem dX3_line_165 : decode cX3_line 165 = .ok (.getfield 39, 3) := by decide +kernel
theorem dX3_line_168 : decode cX3_line 168 = .ok (.ireturn, 1) := by decide +kernel
set_option maxRecDepth 20000 in
theorem ggX3_skip_X3_tries : GoodIn wsX3_skip wsX3_tries := goodIn_r _ [9, 10, 2, 11, 12, 13, 14, 29, 30, 31, 32, 33, 34, 35, 36, 37, 38, 39, 40, 41, 42, 43, 44] (by decide +kernel) (by decide +kernel)
set_option maxRecDepth 20000 in
theorem gX3_skip_X3_tries : GoodIn wsX3_skip (wsV RX3 66 RX3 yX3_tries wsX3_tries) := goodIn_app (goodIn_of _ (by decide +kernel)) ggX3_skip_X3_tries
set_option maxRecDepth 20000 in
theorem ggX3_skip_X3_way : GoodIn wsX3_skip wsX3_way := goodIn_r _ [18, 3, 19, 12, 29, 30, 31, 32, 33, 34, 35, 36, 37, 38, 39, 40, 41, 42, 43, 44] (by decide +kernel) (by decide +kernel)
set_option maxRecDepth 20000 in
theorem gX3_skip_X3_way : GoodIn wsX3_skip (wsV RX3 62 RX3 yX3_way wsX3_way) := goodIn_app (goodIn_of _ (by decide +kernel)) ggX3_skip_X3_way
set_option maxRecDepth 20000 in
theorem ggX3_skip_X3_move : GoodIn wsX3_skip wsX3_move := goodIn_r _ [23, 12, 19, 2, 14, 29, 30, 31, 32, 33, 34, 35, 36, 37, 38, 39, 40, 41, 42, 43, 44] (by decide +kernel) (by decide +kernel)
set_option maxRecDepth 20000 in
theorem gX3_skip_X3_move : GoodIn wsX3_skip (wsV RX3 72 RX3 yX3_move wsX3_move) := goodIn_app (goodIn_of _ (by decide +kernel)) ggX3_skip_X3_move
set_option maxRecDepth 20000 in
theorem ggX3_skip_X3_settle : GoodIn wsX3_skip wsX3_settle := goodIn_r _ [27, 10, 2, 28, 12, 11, 14, 13, 29, 30, 31, 32, 33, 34, 35, 36, 37, 38, 39, 40, 41, 42, 43, 44] (by decide +kernel) (by decide +kernel)
set_option maxRecDepth 20000 in
theorem gX3_skip_X3_settle : GoodIn wsX3_skip (wsV RX3 82 RX3 yX3_settle wsX3_settle) := goodIn_app (goodIn_of _ (by decide +kernel)) ggX3_skip_X3_settle
theorem dX3_skip_0 : decode cX3_skip 0 = .ok (.aload_n 0, 1) := by decide +kernel
theorem dX3_skip_1 : decode cX3_skip 1 = .ok (.iconst 0, 1) := by decide +kernel
theorem dX3_skip_2 : decode cX3_skip 2 = .ok (.putfield 33, 3) := by decide +kernel
theorem dX3_skip_5 : decode cX3_skip 5 = .ok (.iload_n 1, 1) := by decide +kernel
theorem dX3_skip_6 : decode cX3_skip 6 = .ok (.iconst 1, 1) := by decide +kernel
theorem dX3_skip_7 : decode cX3_skip 7 = .ok (.if_icmp .lt 9, 3) := by decide +kernel
theorem dX3_skip_10 : decode cX3_skip 10 = .ok (.iload_n 1, 1) := by decide +kernel
theorem dX3_skip_11 : decode cX3_skip 11 = .ok (.bipush 12, 2) := by decide +kernel
theorem dX3_skip_13 : decode cX3_skip 13 = .ok (.if_icmp .le 5, 3) := by decide +kernel
theorem dX3_skip_16 : decode cX3_skip 16 = .ok (.iconst 0, 1) := by decide +kernel
theorem dX3_skip_17 : decode cX3_skip 17 = .ok (.ireturn, 1) := by decide +kernel
theorem dX3_skip_18 : decode cX3_skip 18 = .ok (.aload_n 0, 1) := by decide +kernel
theorem dX3_skip_19 : decode cX3_skip 19 = .ok (.invokevirtual 66, 3) := by decide +kernel
theorem dX3_skip_22 : decode cX3_skip 22 = .ok (.aload_n 0, 1) := by decide +kernel
theorem dX3_skip_23 : decode cX3_skip 23 = .ok (.iload_n 1, 1) := by decide +kernel
theorem dX3_skip_24 : decode cX3_skip 24 = .ok (.invokevirtual 62, 3) := by decide +kernel
theorem dX3_skip_27 : decode cX3_skip 27 = .ok (.istore_n 2, 1) := by decide +kernel
theorem dX3_skip_28 : decode cX3_skip 28 = .ok (.aload_n 0, 1) := by decide +kernel
theorem dX3_skip_29 : decode cX3_skip 29 = .ok (.iload_n 2, 1) := by decide +kernel
theorem dX3_skip_30 : decode cX3_skip 30 = .ok (.invokevirtual 72, 3) := by decide +kernel
theorem dX3_skip_33 : decode cX3_skip 33 = .ok (.aload_n 0, 1) := by decide +kernel
theorem dX3_skip_34 : decode cX3_skip 34 = .ok (.getfield 42, 3) := by decide +kernel
theorem dX3_skip_37 : decode cX3_skip 37 = .ok (.bipush 40, 2) := by decide +kernel
theorem dX3_skip_39 : decode cX3_skip 39 = .ok (.if_icmp .le 6, 3) := by decide +kernel
theorem dX3_skip_42 : decode cX3_skip 42 = .ok (.bipush (-6), 2) := by decide +kernel
theorem dX3_skip_44 : decode cX3_skip 44 = .ok (.ireturn, 1) := by decide +kernel
theorem dX3_skip_45 : decode cX3_skip 45 = .ok (.aload_n 0, 1) := by decide +kernel
theorem dX3_skip_46 : decode cX3_skip 46 = .ok (.invokevirtual 82, 3) := by decide +kernel
theorem dX3_skip_49 : decode cX3_skip 49 = .ok (.aload_n 0, 1) := by decide +kernel
theorem dX3_skip_50 : decode cX3_skip 50 = .ok (.getfield 14, 3) := by decide +kernel
theorem dX3_skip_53 : decode cX3_skip 53 = .ok (.iload_n 1, 1) := by decide +kernel
theorem dX3_skip_54 : decode cX3_skip 54 = .ok (.iaload, 1) := by decide +kernel
theorem dX3_skip_55 : decode cX3_skip 55 = .ok (.iconst (-1), 1) := by decide +kernel
theorem dX3_skip_56 : decode cX3_skip 56 = .ok (.if_icmp .eq 5, 3) := by decide +kernel
theorem dX3_skip_59 : decode cX3_skip 59 = .ok (.iload_n 2, 1) := by decide +kernel
theorem dX3_skip_60 : decode cX3_skip 60 = .ok (.ireturn, 1) := by decide +kernel
theorem dX3_skip_61 : decode cX3_skip 61 = .ok (.aload_n 0, 1) := by decide +kernel
theorem dX3_skip_62 : decode cX3_skip 62 = .ok (.getfield 23, 3) := by decide +kernel
theorem dX3_skip_65 : decode cX3_skip 65 = .ok (.iconst 5, 1) := by decide +kernel
theorem dX3_skip_66 : decode cX3_skip 66 = .ok (.dup2, 1) := by decide +kernel
theorem dX3_skip_67 : decode cX3_skip 67 = .ok (.iaload, 1) := by decide +kernel
theorem dX3_skip_68 : decode cX3_skip 68 = .ok (.iconst 1, 1) := by decide +kernel
theorem dX3_skip_69 : decode cX3_skip 69 = .ok (.iadd, 1) := by decide +kernel
theorem dX3_skip_70 : decode cX3_skip 70 = .ok (.iastore, 1) := by decide +kernel
theorem dX3_skip_71 : decode cX3_skip 71 = .ok (.iconst (-1), 1) := by decide +kernel
theorem dX3_skip_72 : decode cX3_skip 72 = .ok (.ireturn, 1) := by decide +kernel
theorem dX3_pass_0 : decode cX3_pass 0 = .ok (.aload_n 0, 1) := by decide +kernel
theorem dX3_pass_1 : decode cX3_pass 1 = .ok (.iconst 0, 1) := by decide +kernel
theorem dX3_pass_2 : decode cX3_pass 2 = .ok (.putfield 51, 3) := by decide +kernel
theorem dX3_pass_5 : decode cX3_pass 5 = .ok (.aload_n 0, 1) := by decide +kernel
theorem dX3_pass_6 : decode cX3_pass 6 = .ok (.iconst 0, 1) := by decide +kernel
theorem dX3_pass_7 : decode cX3_pass 7 = .ok (.putfield 45, 3) := by decide +kernel
theorem dX3_pass_10 : decode cX3_pass 10 = .ok (.return_, 1) := by decide +kernel
set_option maxRecDepth 20000 in
theorem ggX3_end_X3_pass : GoodIn wsX3_end wsX3_pass := goodIn_r _ [7, 8, 9, 10, 11, 12, 13, 14, 15, 16, 17, 18, 19, 20, 21, 22, 23, 24, 25] (by decide +kernel) (by decide +kernel)
set_option maxRecDepth 20000 in
theorem gX3_end_X3_pass : GoodIn wsX3_end (wsV RX3 89 RX3 yX3_pass wsX3_pass) := goodIn_app (goodIn_of _ (by decide +kernel)) ggX3_end_X3_pass
theorem dX3_end_0 : decode cX3_end 0 = .ok (.aload_n 0, 1) := by decide +kernel
theorem dX3_end_1 : decode cX3_end 1 = .ok (.iconst 0, 1) := by decide +kernel
theorem dX3_end_2 : decode cX3_end 2 = .ok (.putfield 33, 3) := by decide +kernel
theorem dX3_end_5 : decode cX3_end 5 = .ok (.aload_n 0, 1) := by decide +kernel
theorem dX3_end_6 : decode cX3_end 6 = .ok (.invokevirtual 89, 3) := by decide +kernel
theorem dX3_end_9 : decode cX3_end 9 = .ok (.aload_n 0, 1) := by decide +kernel
theorem dX3_end_10 : decode cX3_end 10 = .ok (.getfield 39, 3) := by decide +kernel
theorem dX3_end_13 : decode cX3_end 13 = .ok (.ireturn, 1) := by decide +kernel
theorem dX3_at_0 : decode cX3_at 0 = .ok (.iload_n 1, 1) := by decide +kernel
theorem dX3_at_1 : decode cX3_at 1 = .ok (.ifCond .lt 39, 3) := by decide +kernel
theorem dX3_at_4 : decode cX3_at 4 = .ok (.iload_n 1, 1) := by decide +kernel
theorem dX3_at_5 : decode cX3_at 5 = .ok (.aload_n 0, 1) := by decide +kernel
theorem dX3_at_6 : decode cX3_at 6 = .ok (.getfield 39, 3) := by decide +kernel
theorem dX3_at_9 : decode cX3_at 9 = .ok (.if_icmp .ge 31, 3) := by decide +kernel
theorem dX3_at_12 : decode cX3_at 12 = .ok (.iload_n 2, 1) := by decide +kernel
theorem dX3_at_13 : decode cX3_at 13 = .ok (.ifCond .lt 27, 3) := by decide +kernel
theorem dX3_at_16 : decode cX3_at 16 = .ok (.iload_n 2, 1) := by decide +kernel
theorem dX3_at_17 : decode cX3_at 17 = .ok (.aload_n 0, 1) := by decide +kernel
theorem dX3_at_18 : decode cX3_at 18 = .ok (.getfield 26, 3) := by decide +kernel
theorem dX3_at_21 : decode cX3_at 21 = .ok (.if_icmp .ge 19, 3) := by decide +kernel
theorem dX3_at_24 : decode cX3_at 24 = .ok (.iload_n 3, 1) := by decide +kernel
theorem dX3_at_25 : decode cX3_at 25 = .ok (.ifCond .lt 15, 3) := by decide +kernel
theorem dX3_at_28 : decode cX3_at 28 = .ok (.iload_n 3, 1) := by decide +kernel
theorem dX3_at_29 : decode cX3_at 29 = .ok (.aload_n 0, 1) := by decide +kernel
theorem dX3_at_30 : decode cX3_at 30 = .ok (.getfield 30, 3) := by decide +kernel
theorem dX3_at_33 : decode cX3_at 33 = .ok (.if_icmp .ge 7, 3) := by decide +kernel
theorem dX3_at_36 : decode cX3_at 36 = .ok (.iconst 1, 1) := by decide +kernel
theorem dX3_at_37 : decode cX3_at 37 = .ok (.goto 4, 3) := by decide +kernel
theorem dX3_at_40 : decode cX3_at 40 = .ok (.iconst 0, 1) := by decide +kernel
theorem dX3_at_41 : decode cX3_at 41 = .ok (.istore 4, 2) := by decide +kernel
theorem dX3_at_43 : decode cX3_at 43 = .ok (.aload_n 0, 1) := by decide +kernel
theorem dX3_at_44 : decode cX3_at 44 = .ok (.iload 4, 2) := by decide +kernel
theorem dX3_at_46 : decode cX3_at 46 = .ok (.ifCond .eq 7, 3) := by decide +kernel
theorem dX3_at_49 : decode cX3_at 49 = .ok (.iconst 0, 1) := by decide +kernel
theorem dX3_at_50 : decode cX3_at 50 = .ok (.goto 4, 3) := by decide +kernel
theorem dX3_at_53 : decode cX3_at 53 = .ok (.iconst 1, 1) := by decide +kernel
theorem dX3_at_54 : decode cX3_at 54 = .ok (.putfield 33, 3) := by decide +kernel
theorem dX3_at_57 : decode cX3_at 57 = .ok (.iload 4, 2) := by decide +kernel
theorem dX3_at_59 : decode cX3_at 59 = .ok (.ifCond .eq 24, 3) := by decide +kernel
theorem dX3_at_62 : decode cX3_at 62 = .ok (.aload_n 0, 1) := by decide +kernel
theorem dX3_at_63 : decode cX3_at 63 = .ok (.getfield 8, 3) := by decide +kernel
theorem dX3_at_66 : decode cX3_at 66 = .ok (.sipush 8712, 3) := by decide +kernel
theorem dX3_at_69 : decode cX3_at 69 = .ok (.iload_n 1, 1) := by decide +kernel
theorem dX3_at_70 : decode cX3_at 70 = .ok (.imul, 1) := by decide +kernel
theorem dX3_at_71 : decode cX3_at 71 = .ok (.sipush 132, 3) := by decide +kernel
theorem dX3_at_74 : decode cX3_at 74 = .ok (.iload_n 2, 1) := by decide +kernel
theorem dX3_at_75 : decode cX3_at 75 = .ok (.imul, 1) := by decide +kernel
theorem dX3_at_76 : decode cX3_at 76 = .ok (.iadd, 1) := by decide +kernel
theorem dX3_at_77 : decode cX3_at 77 = .ok (.iload_n 3, 1) := by decide +kernel
theorem dX3_at_78 : decode cX3_at 78 = .ok (.iadd, 1) := by decide +kernel
theorem dX3_at_79 : decode cX3_at 79 = .ok (.iaload, 1) := by decide +kernel
theorem dX3_at_80 : decode cX3_at 80 = .ok (.goto 4, 3) := by decide +kernel
theorem dX3_at_83 : decode cX3_at 83 = .ok (.iconst 0, 1) := by decide +kernel
theorem dX3_at_84 : decode cX3_at 84 = .ok (.ireturn, 1) := by decide +kernel
theorem dX3_isSign_0 : decode cX3_isSign 0 = .ok (.iload_n 0, 1) := by decide +kernel
theorem dX3_isSign_1 : decode cX3_isSign 1 = .ok (.bipush 31, 2) := by decide +kernel
theorem dX3_isSign_3 : decode cX3_isSign 3 = .ok (.if_icmp .le 14, 3) := by decide +kernel
theorem dX3_isSign_6 : decode cX3_isSign 6 = .ok (.iload_n 0, 1) := by decide +kernel
theorem dX3_isSign_7 : decode cX3_isSign 7 = .ok (.sipush 256, 3) := by decide +kernel
theorem dX3_isSign_10 : decode cX3_isSign 10 = .ok (.if_icmp .ge 7, 3) := by decide +kernel
theorem dX3_isSign_13 : decode cX3_isSign 13 = .ok (.iconst 1, 1) := by decide +kernel
theorem dX3_isSign_14 : decode cX3_isSign 14 = .ok (.goto 4, 3) := by decide +kernel
theorem dX3_isSign_17 : decode cX3_isSign 17 = .ok (.iconst 0, 1) := by decide +kernel
theorem dX3_isSign_18 : decode cX3_isSign 18 = .ok (.ireturn, 1) := by decide +kernel
set_option maxRecDepth 20000 in
theorem ggX3_over_X3_isSign : GoodIn wsX3_over wsX3_isSign := goodIn_r _ [5] (by decide +kernel) (by decide +kernel)
set_option maxRecDepth 20000 in
theorem gX3_over_X3_isSign : GoodIn wsX3_over (va_wsS RX3 92 yX3_isSign wsX3_isSign) := goodIn_app (goodIn_of _ (by decide +kernel)) ggX3_over_X3_isSign
set_option maxRecDepth 20000 in
theorem ggX3_over_X3_darker : GoodIn wsX3_over wsX3_darker := goodIn_r _ [8] (by decide +kernel) (by decide +kernel)
set_option maxRecDepth 20000 in
theorem gX3_over_X3_darker : GoodIn wsX3_over (va_wsS RX3 58 yX3_darker wsX3_darker) := goodIn_app (goodIn_of _ (by decide +kernel)) ggX3_over_X3_darker
theorem dX3_over_0 : decode cX3_over 0 = .ok (.aload_n 0, 1) := by decide +kernel
theorem dX3_over_1 : decode cX3_over 1 = .ok (.iconst 0, 1) := by decide +kernel
theorem dX3_over_2 : decode cX3_over 2 = .ok (.putfield 33, 3) := by decide +kernel
theorem dX3_over_5 : decode cX3_over 5 = .ok (.iload_n 1, 1) := by decide +kernel
theorem dX3_over_6 : decode cX3_over 6 = .ok (.invokestatic 92, 3) := by decide +kernel
theorem dX3_over_9 : decode cX3_over 9 = .ok (.ifCond .eq 18, 3) := by decide +kernel
theorem dX3_over_12 : decode cX3_over 12 = .ok (.iload_n 2, 1) := by decide +kernel
theorem dX3_over_13 : decode cX3_over 13 = .ok (.invokestatic 92, 3) := by decide +kernel
theorem dX3_over_16 : decode cX3_over 16 = .ok (.ifCond .eq 11, 3) := by decide +kernel
theorem dX3_over_19 : decode cX3_over 19 = .ok (.iload_n 1, 1) := by decide +kernel
theorem dX3_over_20 : decode cX3_over 20 = .ok (.iload_n 2, 1) := by decide +kernel
theorem dX3_over_21 : decode cX3_over 21 = .ok (.invokestatic 58, 3) := by decide +kernel
theorem dX3_over_24 : decode cX3_over 24 = .ok (.goto 4, 3) := by decide +kernel
theorem dX3_over_27 : decode cX3_over 27 = .ok (.iconst (-1), 1) := by decide +kernel
theorem dX3_over_28 : decode cX3_over 28 = .ok (.ireturn, 1) := by decide +kernel
set_option maxRecDepth 20000 in
theorem ggX3_translate_X3_isSign : GoodIn wsX3_translate wsX3_isSign := goodIn_r _ [6] (by decide +kernel) (by decide +kernel)
set_option maxRecDepth 20000 in
theorem gX3_translate_X3_isSign : GoodIn wsX3_translate (va_wsS RX3 92 yX3_isSign wsX3_isSign) := goodIn_app (goodIn_of _ (by decide +kernel)) ggX3_translate_X3_isSign
theorem dX3_translate_0 : decode cX3_translate 0 = .ok (.aload_n 0, 1) := by decide +kernel
theorem dX3_translate_1 : decode cX3_translate 1 = .ok (.iconst 0, 1) := by decide +kernel
theorem dX3_translate_2 : decode cX3_translate 2 = .ok (.putfield 33, 3) := by decide +kernel
theorem dX3_translate_5 : decode cX3_translate 5 = .ok (.iload_n 1, 1) := by decide +kernel
theorem dX3_translate_6 : decode cX3_translate 6 = .ok (.invokestatic 92, 3) := by decide +kernel
theorem dX3_translate_9 : decode cX3_translate 9 = .ok (.ifCond .eq 10, 3) := by decide +kernel
theorem dX3_translate_12 : decode cX3_translate 12 = .ok (.iload_n 2, 1) := by decide +kernel
theorem dX3_translate_13 : decode cX3_translate 13 = .ok (.invokestatic 92, 3) := by decide +kernel
theorem dX3_translate_16 : decode cX3_translate 16 = .ok (.ifCond .ne 5, 3) := by decide +kernel
theorem dX3_translate_19 : decode cX3_translate 19 = .ok (.iconst (-1), 1) := by decide +kernel
theorem dX3_translate_20 : decode cX3_translate 20 = .ok (.ireturn, 1) := by decide +kernel
theorem dX3_translate_21 : decode cX3_translate 21 = .ok (.aload_n 0, 1) := by decide +kernel
theorem dX3_translate_22 : decode cX3_translate 22 = .ok (.getfield 17, 3) := by decide +kernel
theorem dX3_translate_25 : decode cX3_translate 25 = .ok (.iload_n 1, 1) := by decide +kernel
theorem dX3_translate_26 : decode cX3_translate 26 = .ok (.iaload, 1) := by decide +kernel
theorem dX3_translate_27 : decode cX3_translate 27 = .ok (.istore_n 3, 1) := by decide +kernel
theorem dX3_translate_28 : decode cX3_translate 28 = .ok (.aload_n 0, 1) := by decide +kernel
theorem dX3_translate_29 : decode cX3_translate 29 = .ok (.getfield 17, 3) := by decide +kernel
theorem dX3_translate_32 : decode cX3_translate 32 = .ok (.iload_n 1, 1) := by decide +kernel
theorem dX3_translate_33 : decode cX3_translate 33 = .ok (.iload_n 2, 1) := by decide +kernel
theorem dX3_translate_34 : decode cX3_translate 34 = .ok (.iastore, 1) := by decide +kernel
theorem dX3_translate_35 : decode cX3_translate 35 = .ok (.iload_n 3, 1) := by decide +kernel
theorem dX3_translate_36 : decode cX3_translate 36 = .ok (.ireturn, 1) := by decide +kernel
set_option maxRecDepth 20000 in
theorem ggX3_copies_X3_pass : GoodIn wsX3_copies wsX3_pass := goodIn_r _ [8, 9, 10, 11, 12, 13, 14, 15, 16, 17, 18, 19, 20, 21, 22, 23, 24, 25, 26] (by decide +kernel) (by decide +kernel)
set_option maxRecDepth 20000 in
theorem gX3_copies_X3_pass : GoodIn wsX3_copies (wsV RX3 89 RX3 yX3_pass wsX3_pass) := goodIn_app (goodIn_of _ (by decide +kernel)) ggX3_copies_X3_pass
theorem dX3_copies_0 : decode cX3_copies 0 = .ok (.aload_n 0, 1) := by decide +kernel
theorem dX3_copies_1 : decode cX3_copies 1 = .ok (.iconst 0, 1) := by decide +kernel
theorem dX3_copies_2 : decode cX3_copies 2 = .ok (.putfield 33, 3) := by decide +kernel
theorem dX3_copies_5 : decode cX3_copies 5 = .ok (.iload_n 1, 1) := by decide +kernel
theorem dX3_copies_6 : decode cX3_copies 6 = .ok (.iconst 1, 1) := by decide +kernel
theorem dX3_copies_7 : decode cX3_copies 7 = .ok (.if_icmp .lt 26, 3) := by decide +kernel
theorem dX3_copies_10 : decode cX3_copies 10 = .ok (.iload_n 1, 1) := by decide +kernel
theorem dX3_copies_11 : decode cX3_copies 11 = .ok (.bipush 9, 2) := by decide +kernel
theorem dX3_copies_13 : decode cX3_copies 13 = .ok (.if_icmp .gt 20, 3) := by decide +kernel
theorem dX3_copies_16 : decode cX3_copies 16 = .ok (.iload_n 2, 1) := by decide +kernel
theorem dX3_copies_17 : decode cX3_copies 17 = .ok (.ifCond .lt 16, 3) := by decide +kernel
theorem dX3_copies_20 : decode cX3_copies 20 = .ok (.iload_n 2, 1) := by decide +kernel
theorem dX3_copies_21 : decode cX3_copies 21 = .ok (.iload_n 3, 1) := by decide +kernel
theorem dX3_copies_22 : decode cX3_copies 22 = .ok (.if_icmp .gt 11, 3) := by decide +kernel
theorem dX3_copies_25 : decode cX3_copies 25 = .ok (.iload_n 3, 1) := by decide +kernel
theorem dX3_copies_26 : decode cX3_copies 26 = .ok (.aload_n 0, 1) := by decide +kernel
theorem dX3_copies_27 : decode cX3_copies 27 = .ok (.getfield 39, 3) := by decide +kernel
theorem dX3_copies_30 : decode cX3_copies 30 = .ok (.if_icmp .lt 6, 3) := by decide +kernel
theorem dX3_copies_33 : decode cX3_copies 33 = .ok (.bipush (-2), 2) := by decide +kernel
theorem dX3_copies_35 : decode cX3_copies 35 = .ok (.ireturn, 1) := by decide +kernel
theorem dX3_copies_36 : decode cX3_copies 36 = .ok (.iload_n 3, 1) := by decide +kernel
theorem dX3_copies_37 : decode cX3_copies 37 = .ok (.iload_n 2, 1) := by decide +kernel
theorem dX3_copies_38 : decode cX3_copies 38 = .ok (.isub, 1) := by decide +kernel
theorem dX3_copies_39 : decode cX3_copies 39 = .ok (.iconst 1, 1) := by decide +kernel
theorem dX3_copies_40 : decode cX3_copies 40 = .ok (.iadd, 1) := by decide +kernel
theorem dX3_copies_41 : decode cX3_copies 41 = .ok (.istore 4, 2) := by decide +kernel
theorem dX3_copies_43 : decode cX3_copies 43 = .ok (.aload_n 0, 1) := by decide +kernel
theorem dX3_copies_44 : decode cX3_copies 44 = .ok (.getfield 39, 3) := by decide +kernel
theorem dX3_copies_47 : decode cX3_copies 47 = .ok (.iload_n 1, 1) := by decide +kernel
theorem dX3_copies_48 : decode cX3_copies 48 = .ok (.iload 4, 2) := by decide +kernel
theorem dX3_copies_50 : decode cX3_copies 50 = .ok (.imul, 1) := by decide +kernel
theorem dX3_copies_51 : decode cX3_copies 51 = .ok (.iadd, 1) := by decide +kernel
theorem dX3_copies_52 : decode cX3_copies 52 = .ok (.bipush 40, 2) := by decide +kernel
theorem dX3_copies_54 : decode cX3_copies 54 = .ok (.if_icmp .le 6, 3) := by decide +kernel
theorem dX3_copies_57 : decode cX3_copies 57 = .ok (.bipush (-6), 2) := by decide +kernel
theorem dX3_copies_59 : decode cX3_copies 59 = .ok (.ireturn, 1) := by decide +kernel
theorem dX3_copies_60 : decode cX3_copies 60 = .ok (.iconst 0, 1) := by decide +kernel
theorem dX3_copies_61 : decode cX3_copies 61 = .ok (.istore 5, 2) := by decide +kernel
theorem dX3_copies_63 : decode cX3_copies 63 = .ok (.iload 5, 2) := by decide +kernel
theorem dX3_copies_65 : decode cX3_copies 65 = .ok (.iload_n 1, 1) := by decide +kernel
theorem dX3_copies_66 : decode cX3_copies 66 = .ok (.iload 4, 2) := by decide +kernel
theorem dX3_copies_68 : decode cX3_copies 68 = .ok (.imul, 1) := by decide +kernel
theorem dX3_copies_69 : decode cX3_copies 69 = .ok (.sipush 8712, 3) := by decide +kernel
theorem dX3_copies_72 : decode cX3_copies 72 = .ok (.imul, 1) := by decide +kernel
theorem dX3_copies_73 : decode cX3_copies 73 = .ok (.if_icmp .ge 45, 3) := by decide +kernel
theorem dX3_copies_76 : decode cX3_copies 76 = .ok (.aload_n 0, 1) := by decide +kernel
theorem dX3_copies_77 : decode cX3_copies 77 = .ok (.getfield 8, 3) := by decide +kernel
theorem dX3_copies_80 : decode cX3_copies 80 = .ok (.sipush 8712, 3) := by decide +kernel
theorem dX3_copies_83 : decode cX3_copies 83 = .ok (.aload_n 0, 1) := by decide +kernel
theorem dX3_copies_84 : decode cX3_copies 84 = .ok (.getfield 39, 3) := by decide +kernel
theorem dX3_copies_87 : decode cX3_copies 87 = .ok (.imul, 1) := by decide +kernel
theorem dX3_copies_88 : decode cX3_copies 88 = .ok (.iload 5, 2) := by decide +kernel
theorem dX3_copies_90 : decode cX3_copies 90 = .ok (.iadd, 1) := by decide +kernel
theorem dX3_copies_91 : decode cX3_copies 91 = .ok (.aload_n 0, 1) := by decide +kernel
theorem dX3_copies_92 : decode cX3_copies 92 = .ok (.getfield 8, 3) := by decide +kernel
theorem dX3_copies_95 : decode cX3_copies 95 = .ok (.sipush 8712, 3) := by decide +kernel
theorem dX3_copies_98 : decode cX3_copies 98 = .ok (.iload_n 2, 1) := by decide +kernel
theorem dX3_copies_99 : decode cX3_copies 99 = .ok (.imul, 1) := by decide +kernel
theorem dX3_copies_100 : decode cX3_copies 100 = .ok (.iload 5, 2) := by decide +kernel
theorem dX3_copies_102 : decode cX3_copies 102 = .ok (.iload 4, 2) := by decide +kernel
theorem dX3_copies_104 : decode cX3_copies 104 = .ok (.sipush 8712, 3) := by decide +kernel
theorem dX3_copies_107 : decode cX3_copies 107 = .ok (.imul, 1) := by decide +kernel
theorem dX3_copies_108 : decode cX3_copies 108 = .ok (.irem, 1) := by decide +kernel
theorem dX3_copies_109 : decode cX3_copies 109 = .ok (.iadd, 1) := by decide +kernel
theorem dX3_copies_110 : decode cX3_copies 110 = .ok (.iaload, 1) := by decide +kernel
theorem dX3_copies_111 : decode cX3_copies 111 = .ok (.iastore, 1) := by decide +kernel
theorem dX3_copies_112 : decode cX3_copies 112 = .ok (.iinc 5 1, 3) := by decide +kernel
theorem dX3_copies_115 : decode cX3_copies 115 = .ok (.goto (-52), 3) := by decide +kernel
theorem dX3_copies_118 : decode cX3_copies 118 = .ok (.aload_n 0, 1) := by decide +kernel
theorem dX3_copies_119 : decode cX3_copies 119 = .ok (.dup, 1) := by decide +kernel
theorem dX3_copies_120 : decode cX3_copies 120 = .ok (.getfield 39, 3) := by decide +kernel
theorem dX3_copies_123 : decode cX3_copies 123 = .ok (.iload_n 1, 1) := by decide +kernel
theorem dX3_copies_124 : decode cX3_copies 124 = .ok (.iload 4, 2) := by decide +kernel
theorem dX3_copies_126 : decode cX3_copies 126 = .ok (.imul, 1) := by decide +kernel
theorem dX3_copies_127 : decode cX3_copies 127 = .ok (.iadd, 1) := by decide +kernel
theorem dX3_copies_128 : decode cX3_copies 128 = .ok (.putfield 39, 3) := by decide +kernel
theorem dX3_copies_131 : decode cX3_copies 131 = .ok (.aload_n 0, 1) := by decide +kernel
theorem dX3_copies_132 : decode cX3_copies 132 = .ok (.invokevirtual 89, 3) := by decide +kernel
theorem dX3_copies_135 : decode cX3_copies 135 = .ok (.aload_n 0, 1) := by decide +kernel
theorem dX3_copies_136 : decode cX3_copies 136 = .ok (.getfield 39, 3) := by decide +kernel
theorem dX3_copies_139 : decode cX3_copies 139 = .ok (.ireturn, 1) := by decide +kernel
set_option maxRecDepth 20000 in
theorem ggX3_back_X3_pass : GoodIn wsX3_back wsX3_pass := goodIn_r _ [7, 8, 9, 10, 11, 12, 13, 14, 15, 16, 17, 18, 19, 20, 21, 22, 23, 24, 25] (by decide +kernel) (by decide +kernel)
set_option maxRecDepth 20000 in
theorem gX3_back_X3_pass : GoodIn wsX3_back (wsV RX3 89 RX3 yX3_pass wsX3_pass) := goodIn_app (goodIn_of _ (by decide +kernel)) ggX3_back_X3_pass
theorem dX3_back_0 : decode cX3_back 0 = .ok (.aload_n 0, 1) := by decide +kernel
theorem dX3_back_1 : decode cX3_back 1 = .ok (.iconst 0, 1) := by decide +kernel
theorem dX3_back_2 : decode cX3_back 2 = .ok (.putfield 33, 3) := by decide +kernel
theorem dX3_back_5 : decode cX3_back 5 = .ok (.iload_n 1, 1) := by decide +kernel
theorem dX3_back_6 : decode cX3_back 6 = .ok (.ifCond .lt 11, 3) := by decide +kernel
theorem dX3_back_9 : decode cX3_back 9 = .ok (.iload_n 1, 1) := by decide +kernel
theorem dX3_back_10 : decode cX3_back 10 = .ok (.aload_n 0, 1) := by decide +kernel
theorem dX3_back_11 : decode cX3_back 11 = .ok (.getfield 39, 3) := by decide +kernel
theorem dX3_back_14 : decode cX3_back 14 = .ok (.if_icmp .le 6, 3) := by decide +kernel
theorem dX3_back_17 : decode cX3_back 17 = .ok (.bipush (-2), 2) := by decide +kernel
theorem dX3_back_19 : decode cX3_back 19 = .ok (.ireturn, 1) := by decide +kernel
theorem dX3_back_20 : decode cX3_back 20 = .ok (.aload_n 0, 1) := by decide +kernel
theorem dX3_back_21 : decode cX3_back 21 = .ok (.dup, 1) := by decide +kernel
theorem dX3_back_22 : decode cX3_back 22 = .ok (.getfield 39, 3) := by decide +kernel
theorem dX3_back_25 : decode cX3_back 25 = .ok (.iload_n 1, 1) := by decide +kernel
theorem dX3_back_26 : decode cX3_back 26 = .ok (.isub, 1) := by decide +kernel
theorem dX3_back_27 : decode cX3_back 27 = .ok (.putfield 39, 3) := by decide +kernel
theorem dX3_back_30 : decode cX3_back 30 = .ok (.aload_n 0, 1) := by decide +kernel
theorem dX3_back_31 : decode cX3_back 31 = .ok (.invokevirtual 89, 3) := by decide +kernel
theorem dX3_back_34 : decode cX3_back 34 = .ok (.aload_n 0, 1) := by decide +kernel
theorem dX3_back_35 : decode cX3_back 35 = .ok (.getfield 39, 3) := by decide +kernel
theorem dX3_back_38 : decode cX3_back 38 = .ok (.ireturn, 1) := by decide +kernel
set_option maxRecDepth 20000 in
theorem ggX3_forms_X3_pass : GoodIn wsX3_forms wsX3_pass := goodIn_r _ [8, 9, 10, 11, 12, 13, 14, 15, 16, 17, 18, 19, 20, 21, 22, 23, 24, 25, 26] (by decide +kernel) (by decide +kernel)
set_option maxRecDepth 20000 in
theorem gX3_forms_X3_pass : GoodIn wsX3_forms (wsV RX3 89 RX3 yX3_pass wsX3_pass) := goodIn_app (goodIn_of _ (by decide +kernel)) ggX3_forms_X3_pass
theorem dX3_forms_0 : decode cX3_forms 0 = .ok (.aload_n 0, 1) := by decide +kernel
theorem dX3_forms_1 : decode cX3_forms 1 = .ok (.iconst 0, 1) := by decide +kernel
theorem dX3_forms_2 : decode cX3_forms 2 = .ok (.putfield 33, 3) := by decide +kernel
theorem dX3_forms_5 : decode cX3_forms 5 = .ok (.iload_n 1, 1) := by decide +kernel
theorem dX3_forms_6 : decode cX3_forms 6 = .ok (.ifCond .ge 6, 3) := by decide +kernel
theorem dX3_forms_9 : decode cX3_forms 9 = .ok (.bipush (-2), 2) := by decide +kernel
theorem dX3_forms_11 : decode cX3_forms 11 = .ok (.ireturn, 1) := by decide +kernel
theorem dX3_forms_12 : decode cX3_forms 12 = .ok (.iload_n 1, 1) := by decide +kernel
theorem dX3_forms_13 : decode cX3_forms 13 = .ok (.aload_n 0, 1) := by decide +kernel
theorem dX3_forms_14 : decode cX3_forms 14 = .ok (.getfield 96, 3) := by decide +kernel
theorem dX3_forms_17 : decode cX3_forms 17 = .ok (.if_icmp .ne 5, 3) := by decide +kernel
theorem dX3_forms_20 : decode cX3_forms 20 = .ok (.iconst 1, 1) := by decide +kernel
theorem dX3_forms_21 : decode cX3_forms 21 = .ok (.ireturn, 1) := by decide +kernel
theorem dX3_forms_22 : decode cX3_forms 22 = .ok (.aload_n 0, 1) := by decide +kernel
theorem dX3_forms_23 : decode cX3_forms 23 = .ok (.iload_n 1, 1) := by decide +kernel
theorem dX3_forms_24 : decode cX3_forms 24 = .ok (.putfield 96, 3) := by decide +kernel
theorem dX3_forms_27 : decode cX3_forms 27 = .ok (.aload_n 0, 1) := by decide +kernel
theorem dX3_forms_28 : decode cX3_forms 28 = .ok (.getfield 23, 3) := by decide +kernel
theorem dX3_forms_31 : decode cX3_forms 31 = .ok (.bipush 6, 2) := by decide +kernel
theorem dX3_forms_33 : decode cX3_forms 33 = .ok (.dup2, 1) := by decide +kernel
theorem dX3_forms_34 : decode cX3_forms 34 = .ok (.iaload, 1) := by decide +kernel
theorem dX3_forms_35 : decode cX3_forms 35 = .ok (.iconst 1, 1) := by decide +kernel
theorem dX3_forms_36 : decode cX3_forms 36 = .ok (.iadd, 1) := by decide +kernel
theorem dX3_forms_37 : decode cX3_forms 37 = .ok (.iastore, 1) := by decide +kernel
theorem dX3_forms_38 : decode cX3_forms 38 = .ok (.aload_n 0, 1) := by decide +kernel
theorem dX3_forms_39 : decode cX3_forms 39 = .ok (.invokevirtual 89, 3) := by decide +kernel
theorem dX3_forms_42 : decode cX3_forms 42 = .ok (.iconst 2, 1) := by decide +kernel
theorem dX3_forms_43 : decode cX3_forms 43 = .ok (.ireturn, 1) := by decide +kernel
theorem dX3_tally_0 : decode cX3_tally 0 = .ok (.aload_n 0, 1) := by decide +kernel
theorem dX3_tally_1 : decode cX3_tally 1 = .ok (.iconst 0, 1) := by decide +kernel
theorem dX3_tally_2 : decode cX3_tally 2 = .ok (.putfield 33, 3) := by decide +kernel
theorem dX3_tally_5 : decode cX3_tally 5 = .ok (.iload_n 1, 1) := by decide +kernel
theorem dX3_tally_6 : decode cX3_tally 6 = .ok (.tableswitch 68 0 7 #[46, 51, 56, 56, 56, 56, 56, 63], 46) := by decide +kernel
theorem dX3_tally_52 : decode cX3_tally 52 = .ok (.aload_n 0, 1) := by decide +kernel
theorem dX3_tally_53 : decode cX3_tally 53 = .ok (.getfield 39, 3) := by decide +kernel
theorem dX3_tally_56 : decode cX3_tally 56 = .ok (.ireturn, 1) := by decide +kernel
theorem dX3_tally_57 : decode cX3_tally 57 = .ok (.aload_n 0, 1) := by decide +kernel
theorem dX3_tally_58 : decode cX3_tally 58 = .ok (.getfield 45, 3) := by decide +kernel
theorem dX3_tally_61 : decode cX3_tally 61 = .ok (.ireturn, 1) := by decide +kernel
theorem dX3_tally_62 : decode cX3_tally 62 = .ok (.aload_n 0, 1) := by decide +kernel
theorem dX3_tally_63 : decode cX3_tally 63 = .ok (.getfield 23, 3) := by decide +kernel
theorem dX3_tally_66 : decode cX3_tally 66 = .ok (.iload_n 1, 1) := by decide +kernel
theorem dX3_tally_67 : decode cX3_tally 67 = .ok (.iaload, 1) := by decide +kernel
theorem dX3_tally_68 : decode cX3_tally 68 = .ok (.ireturn, 1) := by decide +kernel
theorem dX3_tally_69 : decode cX3_tally 69 = .ok (.aload_n 0, 1) := by decide +kernel
theorem dX3_tally_70 : decode cX3_tally 70 = .ok (.getfield 36, 3) := by decide +kernel
theorem dX3_tally_73 : decode cX3_tally 73 = .ok (.ireturn, 1) := by decide +kernel
theorem dX3_tally_74 : decode cX3_tally 74 = .ok (.iconst (-1), 1) := by decide +kernel
theorem dX3_tally_75 : decode cX3_tally 75 = .ok (.ireturn, 1) := by decide +kernel
theorem dJx00060_init_a7421_0 : decode cJx00060_init_a7421 0 = .ok (.aload_n 0, 1) := by decide +kernel
theorem dJx00060_init_a7421_1 : decode cJx00060_init_a7421 1 = .ok (.aload_n 1, 1) := by decide +kernel
theorem dJx00060_init_a7421_2 : decode cJx00060_init_a7421 2 = .ok (.invokespecial 7, 3) := by decide +kernel
theorem dJx00060_init_a7421_5 : decode cJx00060_init_a7421 5 = .ok (.return_, 1) := by decide +kernel
theorem dJ9_floorMod_7cf53_0 : decode cJ9_floorMod_7cf53 0 = .ok (.iload_n 0, 1) := by decide +kernel
theorem dJ9_floorMod_7cf53_1 : decode cJ9_floorMod_7cf53 1 = .ok (.iload_n 1, 1) := by decide +kernel
theorem dJ9_floorMod_7cf53_2 : decode cJ9_floorMod_7cf53 2 = .ok (.irem, 1) := by decide +kernel
theorem dJ9_floorMod_7cf53_3 : decode cJ9_floorMod_7cf53 3 = .ok (.istore_n 2, 1) := by decide +kernel
theorem dJ9_floorMod_7cf53_4 : decode cJ9_floorMod_7cf53 4 = .ok (.iload_n 0, 1) := by decide +kernel
theorem dJ9_floorMod_7cf53_5 : decode cJ9_floorMod_7cf53 5 = .ok (.iload_n 1, 1) := by decide +kernel
theorem dJ9_floorMod_7cf53_6 : decode cJ9_floorMod_7cf53 6 = .ok (.ixor, 1) := by decide +kernel
theorem dJ9_floorMod_7cf53_7 : decode cJ9_floorMod_7cf53 7 = .ok (.ifCond .ge 11, 3) := by decide +kernel
theorem dJ9_floorMod_7cf53_10 : decode cJ9_floorMod_7cf53 10 = .ok (.iload_n 2, 1) := by decide +kernel
theorem dJ9_floorMod_7cf53_11 : decode cJ9_floorMod_7cf53 11 = .ok (.ifCond .eq 7, 3) := by decide +kernel
theorem dJ9_floorMod_7cf53_14 : decode cJ9_floorMod_7cf53 14 = .ok (.iload_n 2, 1) := by decide +kernel
theorem dJ9_floorMod_7cf53_15 : decode cJ9_floorMod_7cf53 15 = .ok (.iload_n 1, 1) := by decide +kernel
theorem dJ9_floorMod_7cf53_16 : decode cJ9_floorMod_7cf53 16 = .ok (.iadd, 1) := by decide +kernel
theorem dJ9_floorMod_7cf53_17 : decode cJ9_floorMod_7cf53 17 = .ok (.ireturn, 1) := by decide +kernel
theorem dJ9_floorMod_7cf53_18 : decode cJ9_floorMod_7cf53 18 = .ok (.iload_n 2, 1) := by decide +kernel
theorem dJ9_floorMod_7cf53_19 : decode cJ9_floorMod_7cf53 19 = .ok (.ireturn, 1) := by decide +kernel
theorem dJ9_max_7cf53_0 : decode cJ9_max_7cf53 0 = .ok (.iload_n 0, 1) := by decide +kernel
theorem dJ9_max_7cf53_1 : decode cJ9_max_7cf53 1 = .ok (.iload_n 1, 1) := by decide +kernel
theorem dJ9_max_7cf53_2 : decode cJ9_max_7cf53 2 = .ok (.if_icmp .lt 7, 3) := by decide +kernel
theorem dJ9_max_7cf53_5 : decode cJ9_max_7cf53 5 = .ok (.iload_n 0, 1) := by decide +kernel
theorem dJ9_max_7cf53_6 : decode cJ9_max_7cf53 6 = .ok (.goto 4, 3) := by decide +kernel
theorem dJ9_max_7cf53_9 : decode cJ9_max_7cf53 9 = .ok (.iload_n 1, 1) := by decide +kernel
theorem dJ9_max_7cf53_10 : decode cJ9_max_7cf53 10 = .ok (.ireturn, 1) := by decide +kernel
theorem dJ9_min_7cf53_0 : decode cJ9_min_7cf53 0 = .ok (.iload_n 0, 1) := by decide +kernel
theorem dJ9_min_7cf53_1 : decode cJ9_min_7cf53 1 = .ok (.iload_n 1, 1) := by decide +kernel
theorem dJ9_min_7cf53_2 : decode cJ9_min_7cf53 2 = .ok (.if_icmp .gt 7, 3) := by decide +kernel
theorem dJ9_min_7cf53_5 : decode cJ9_min_7cf53 5 = .ok (.iload_n 0, 1) := by decide +kernel
theorem dJ9_min_7cf53_6 : decode cJ9_min_7cf53 6 = .ok (.goto 4, 3) := by decide +kernel
theorem dJ9_min_7cf53_9 : decode cJ9_min_7cf53 9 = .ok (.iload_n 1, 1) := by decide +kernel
theorem dJ9_min_7cf53_10 : decode cJ9_min_7cf53 10 = .ok (.ireturn, 1) := by decide +kernel
theorem dJ7_fill_53178_0 : decode cJ7_fill_53178 0 = .ok (.iconst 0, 1) := by decide +kernel
theorem dJ7_fill_53178_1 : decode cJ7_fill_53178 1 = .ok (.istore_n 2, 1) := by decide +kernel
theorem dJ7_fill_53178_2 : decode cJ7_fill_53178 2 = .ok (.aload_n 0, 1) := by decide +kernel
theorem dJ7_fill_53178_3 : decode cJ7_fill_53178 3 = .ok (.arraylength, 1) := by decide +kernel
theorem dJ7_fill_53178_4 : decode cJ7_fill_53178 4 = .ok (.istore_n 3, 1) := by decide +kernel
theorem dJ7_fill_53178_5 : decode cJ7_fill_53178 5 = .ok (.iload_n 2, 1) := by decide +kernel
theorem dJ7_fill_53178_6 : decode cJ7_fill_53178 6 = .ok (.iload_n 3, 1) := by decide +kernel
theorem dJ7_fill_53178_7 : decode cJ7_fill_53178 7 = .ok (.if_icmp .ge 13, 3) := by decide +kernel
theorem dJ7_fill_53178_10 : decode cJ7_fill_53178 10 = .ok (.aload_n 0, 1) := by decide +kernel
theorem dJ7_fill_53178_11 : decode cJ7_fill_53178 11 = .ok (.iload_n 2, 1) := by decide +kernel
theorem dJ7_fill_53178_12 : decode cJ7_fill_53178 12 = .ok (.iload_n 1, 1) := by decide +kernel
theorem dJ7_fill_53178_13 : decode cJ7_fill_53178 13 = .ok (.iastore, 1) := by decide +kernel
theorem dJ7_fill_53178_14 : decode cJ7_fill_53178 14 = .ok (.iinc 2 1, 3) := by decide +kernel
theorem dJ7_fill_53178_17 : decode cJ7_fill_53178 17 = .ok (.goto (-12), 3) := by decide +kernel
theorem dJ7_fill_53178_20 : decode cJ7_fill_53178 20 = .ok (.return_, 1) := by decide +kernel
theorem dL_cell_0 : decode cL_cell 0 = .ok (.iload_n 1, 1) := by decide +kernel
theorem dL_cell_1 : decode cL_cell 1 = .ok (.aload_n 0, 1) := by decide +kernel
theorem dL_cell_2 : decode cL_cell 2 = .ok (.arraylength, 1) := by decide +kernel
theorem dL_cell_3 : decode cL_cell 3 = .ok (.if_icmp .ge 9, 3) := by decide +kernel
theorem dL_cell_6 : decode cL_cell 6 = .ok (.aload_n 0, 1) := by decide +kernel
theorem dL_cell_7 : decode cL_cell 7 = .ok (.iload_n 1, 1) := by decide +kernel
theorem dL_cell_8 : decode cL_cell 8 = .ok (.iaload, 1) := by decide +kernel
theorem dL_cell_9 : decode cL_cell 9 = .ok (.goto 4, 3) := by decide +kernel
theorem dL_cell_12 : decode cL_cell 12 = .ok (.iconst 0, 1) := by decide +kernel
theorem dL_cell_13 : decode cL_cell 13 = .ok (.ireturn, 1) := by decide +kernel
set_option maxRecDepth 20000 in
theorem ggL_at_X2_at : GoodIn wsL_at wsX2_at := goodIn_r _ [5, 6, 7, 8, 9, 10, 11, 12, 13, 4, 14, 15, 16, 17, 18, 19, 20, 21, 22, 23, 24, 25, 26, 27, 28, 29, 30, 31, 32, 33, 34, 35, 36, 37, 38, 39, 40, 41, 42, 43, 44, 45, 46, 47, 48, 49, 50, 51, 52, 53] (by decide +kernel) (by decide +kernel)
set_option maxRecDepth 20000 in
theorem gL_at_X2_at : GoodIn wsL_at (wsV RL 7 RX2 yX2_at wsX2_at) := goodIn_app (goodIn_of _ (by decide +kernel)) ggL_at_X2_at
theorem dL_at_0 : decode cL_at 0 = .ok (.aload 4, 2) := by decide +kernel
theorem dL_at_2 : decode cL_at 2 = .ok (.iconst 0, 1) := by decide +kernel
theorem dL_at_3 : decode cL_at 3 = .ok (.aload_n 0, 1) := by decide +kernel
theorem dL_at_4 : decode cL_at 4 = .ok (.iload_n 1, 1) := by decide +kernel
theorem dL_at_5 : decode cL_at 5 = .ok (.iload_n 2, 1) := by decide +kernel
theorem dL_at_6 : decode cL_at 6 = .ok (.iload_n 3, 1) := by decide +kernel
theorem dL_at_7 : decode cL_at 7 = .ok (.invokevirtual 7, 3) := by decide +kernel
theorem dL_at_10 : decode cL_at 10 = .ok (.i2l, 1) := by decide +kernel
theorem dL_at_11 : decode cL_at 11 = .ok (.lastore, 1) := by decide +kernel
theorem dL_at_12 : decode cL_at 12 = .ok (.goto 7, 3) := by decide +kernel
theorem dL_at_15 : decode cL_at 15 = .ok (.astore 5, 2) := by decide +kernel
theorem dL_at_17 : decode cL_at 17 = .ok (.iconst 1, 1) := by decide +kernel
theorem dL_at_18 : decode cL_at 18 = .ok (.ireturn, 1) := by decide +kernel
theorem dL_at_19 : decode cL_at 19 = .ok (.iconst 0, 1) := by decide +kernel
theorem dL_at_20 : decode cL_at 20 = .ok (.ireturn, 1) := by decide +kernel
set_option maxRecDepth 20000 in
theorem ggL_law_L_cell : GoodIn wsL_law wsL_cell := goodIn_r _ [10] (by decide +kernel) (by decide +kernel)
set_option maxRecDepth 20000 in
theorem gL_law_L_cell : GoodIn wsL_law (va_wsS RL 15 yL_cell wsL_cell) := goodIn_app (goodIn_of _ (by decide +kernel)) ggL_law_L_cell
set_option maxRecDepth 20000 in
theorem ggL_law_X2_init : GoodIn wsL_law wsX2_init := goodIn_r _ [13, 14, 15, 16, 17, 18, 19, 20, 21, 22, 23, 24, 25, 26, 2, 27, 28, 29, 30, 31, 32, 33, 34, 35, 36, 37, 38, 329, 330, 331, 332, 333, 334, 335, 336, 337, 338, 339, 340, 341, 342, 343, 344] (by decide +kernel) (by decide +kernel)
set_option maxRecDepth 20000 in
theorem gL_law_X2_init : GoodIn wsL_law (wsX2_init) := ggL_law_X2_init
set_option maxRecDepth 20000 in
theorem ggL_law_X3_init : GoodIn wsL_law wsX3_init := goodIn_r _ [41, 42, 15, 16, 43, 19, 44, 45, 46, 47, 48, 49, 50, 345, 346, 347, 348, 349, 350, 351, 352, 353, 354, 355, 356, 357, 358, 359, 360] (by decide +kernel) (by decide +kernel)
set_option maxRecDepth 20000 in
theorem gL_law_X3_init : GoodIn wsL_law (wsX3_init) := ggL_law_X3_init
set_option maxRecDepth 20000 in
theorem ggL_law_X2_channel : GoodIn wsL_law wsX2_channel := goodIn_r _ [54, 17, 20, 55, 56, 2, 57, 329, 330, 331, 332, 333, 334, 335, 336, 337, 338, 339, 340, 341, 342, 343, 344] (by decide +kernel) (by decide +kernel)
set_option maxRecDepth 20000 in
theorem gL_law_X2_channel : GoodIn wsL_law (wsV RL 27 RX2 yX2_channel wsX2_channel) := goodIn_app (goodIn_of _ (by decide +kernel)) ggL_law_X2_channel
set_option maxRecDepth 20000 in
theorem ggL_law_X3_channel : GoodIn wsL_law wsX3_channel := goodIn_r _ [61, 62, 49, 45, 345, 346, 347, 348, 349, 350, 351, 352, 353, 354, 355, 356, 357, 358, 359, 360] (by decide +kernel) (by decide +kernel)
set_option maxRecDepth 20000 in
theorem gL_law_X3_channel : GoodIn wsL_law (wsV RL 31 RX3 yX3_channel wsX3_channel) := goodIn_app (goodIn_of _ (by decide +kernel)) ggL_law_X3_channel
set_option maxRecDepth 20000 in
theorem ggL_law_X2_sign : GoodIn wsL_law wsX2_sign := goodIn_r _ [66, 67, 22, 32, 33, 30, 34, 68, 69, 70, 71, 329, 330, 331, 332, 333, 334, 335, 336, 337, 338, 339, 340, 341, 342, 343, 344] (by decide +kernel) (by decide +kernel)
set_option maxRecDepth 20000 in
theorem gL_law_X2_sign : GoodIn wsL_law (wsV RL 32 RX2 yX2_sign wsX2_sign) := goodIn_app (goodIn_of _ (by decide +kernel)) ggL_law_X2_sign
set_option maxRecDepth 20000 in
theorem ggL_law_X3_sign : GoodIn wsL_law wsX3_sign := goodIn_r _ [75, 62, 76, 47, 345, 346, 347, 348, 349, 350, 351, 352, 353, 354, 355, 356, 357, 358, 359, 360] (by decide +kernel) (by decide +kernel)
set_option maxRecDepth 20000 in
theorem gL_law_X3_sign : GoodIn wsL_law (wsV RL 36 RX3 yX3_sign wsX3_sign) := goodIn_app (goodIn_of _ (by decide +kernel)) ggL_law_X3_sign
set_option maxRecDepth 20000 in
theorem ggL_law_X2_line : GoodIn wsL_law wsX2_line := goodIn_r _ [80, 81, 82, 83, 2, 84, 55, 56, 57, 85, 86, 87, 88, 20, 17, 89, 90, 91, 92, 93, 94, 95, 96, 97, 98, 99, 100, 101, 102, 103, 104, 105, 106, 32, 33, 30, 34, 107, 108, 109, 110, 111, 112, 113, 114, 115, 116, 117, 118, 119, 67, 22, 18, 120, 121, 122, 123, 124, 125, 23, 126, 127, 128, 129, 130, 131, 15, 16, 132, 133, 134, 135, 136, 137, 138, 139, 24, 140, 141, 142, 143, 144, 145, 146, 147, 21, 148, 149, 150, 151, 152, 153, 154, 155, 156, 157, 158, 159, 160, 161, 162, 19, 163, 164, 36, 37, 38, 165, 166, 167, 168, 169, 170, 171, 172, 173, 174, 175, 176, 177, 178, 179, 180, 181, 182, 183, 329, 330, 331, 332, 333, 334, 335, 336, 337, 338, 339, 340, 341, 342, 343, 344, 361, 362, 363] (by decide +kernel) (by decide +kernel)
set_option maxRecDepth 20000 in
theorem gL_law_X2_line : GoodIn wsL_law (wsV RL 37 RX2 yX2_line wsX2_line) := goodIn_app (goodIn_of _ (by decide +kernel)) ggL_law_X2_line
set_option maxRecDepth 20000 in
theorem ggL_law_X3_line : GoodIn wsL_law wsX3_line := goodIn_r _ [187, 62, 188, 189, 48, 45, 190, 191, 192, 193, 5, 194, 195, 196, 197, 198, 199, 200, 201, 202, 203, 204, 205, 49, 206, 207, 208, 209, 210, 211, 212, 213, 214, 215, 216, 217, 218, 219, 220, 44, 221, 222, 223, 224, 76, 46, 47, 50, 225, 226, 227, 345, 346, 347, 348, 349, 350, 351, 352, 353, 354, 355, 356, 357, 358, 359, 360] (by decide +kernel) (by decide +kernel)
set_option maxRecDepth 20000 in
theorem gL_law_X3_line : GoodIn wsL_law (wsV RL 41 RX3 yX3_line wsX3_line) := goodIn_app (goodIn_of _ (by decide +kernel)) ggL_law_X3_line
set_option maxRecDepth 20000 in
theorem ggL_law_X2_skip : GoodIn wsL_law wsX2_skip := goodIn_r _ [231, 20, 55, 56, 2, 57, 85, 86, 87, 88, 17, 89, 99, 100, 101, 102, 103, 104, 105, 106, 32, 33, 30, 34, 107, 108, 109, 110, 111, 81, 171, 172, 173, 174, 122, 123, 124, 125, 23, 126, 127, 18, 128, 129, 130, 131, 15, 16, 132, 133, 134, 135, 136, 137, 138, 139, 24, 175, 176, 177, 178, 179, 180, 181, 182, 183, 329, 330, 331, 332, 333, 334, 335, 336, 337, 338, 339, 340, 341, 342, 343, 344, 361, 362] (by decide +kernel) (by decide +kernel)
set_option maxRecDepth 20000 in
theorem gL_law_X2_skip : GoodIn wsL_law (wsV RL 42 RX2 yX2_skip wsX2_skip) := goodIn_app (goodIn_of _ (by decide +kernel)) ggL_law_X2_skip
set_option maxRecDepth 20000 in
theorem ggL_law_X3_skip : GoodIn wsL_law wsX3_skip := goodIn_r _ [235, 62, 188, 45, 48, 191, 192, 193, 5, 194, 190, 195, 189, 196, 197, 202, 203, 204, 205, 49, 206, 207, 208, 209, 217, 218, 219, 220, 44, 345, 346, 347, 348, 349, 350, 351, 352, 353, 354, 355, 356, 357, 358, 359, 360] (by decide +kernel) (by decide +kernel)
set_option maxRecDepth 20000 in
theorem gL_law_X3_skip : GoodIn wsL_law (wsV RL 45 RX3 yX3_skip wsX3_skip) := goodIn_app (goodIn_of _ (by decide +kernel)) ggL_law_X3_skip
set_option maxRecDepth 20000 in
theorem ggL_law_X2_end : GoodIn wsL_law wsX2_end := goodIn_r _ [239, 81, 175, 176, 177, 2, 178, 111, 89, 329, 330, 331, 332, 333, 334, 335, 336, 337, 338, 339, 340, 341, 342, 343, 344] (by decide +kernel) (by decide +kernel)
set_option maxRecDepth 20000 in
theorem gL_law_X2_end : GoodIn wsL_law (wsV RL 46 RX2 yX2_end wsX2_end) := goodIn_app (goodIn_of _ (by decide +kernel)) ggL_law_X2_end
set_option maxRecDepth 20000 in
theorem ggL_law_X3_end : GoodIn wsL_law wsX3_end := goodIn_r _ [243, 62, 190, 244, 245, 246, 5, 247, 196, 195, 345, 346, 347, 348, 349, 350, 351, 352, 353, 354, 355, 356, 357, 358, 359, 360] (by decide +kernel) (by decide +kernel)
set_option maxRecDepth 20000 in
theorem gL_law_X3_end : GoodIn wsL_law (wsV RL 50 RX3 yX3_end wsX3_end) := goodIn_app (goodIn_of _ (by decide +kernel)) ggL_law_X3_end
set_option maxRecDepth 20000 in
theorem ggL_law_L_at : GoodIn wsL_law wsL_at := goodIn_r _ [250, 251, 252, 253, 2, 254, 17, 18, 255, 256, 257, 140, 141, 142, 143, 81, 24, 258, 259, 260, 127, 261, 134, 262, 263, 264, 157, 265, 163, 329, 330, 331, 332, 333, 334, 335, 336, 337, 338, 339, 340, 341, 342, 343, 344, 364, 365, 366, 367, 368, 369, 361, 362, 363] (by decide +kernel) (by decide +kernel)
set_option maxRecDepth 20000 in
theorem gL_law_L_at : GoodIn wsL_law (va_wsS RL 51 yL_at wsL_at) := goodIn_app (goodIn_of _ (by decide +kernel)) ggL_law_L_at
set_option maxRecDepth 20000 in
theorem ggL_law_X3_at : GoodIn wsL_law wsX3_at := goodIn_r _ [269, 190, 49, 50, 62, 44, 345, 346, 347, 348, 349, 350, 351, 352, 353, 354, 355, 356, 357, 358, 359, 360] (by decide +kernel) (by decide +kernel)
set_option maxRecDepth 20000 in
theorem gL_law_X3_at : GoodIn wsL_law (wsV RL 54 RX3 yX3_at wsX3_at) := goodIn_app (goodIn_of _ (by decide +kernel)) ggL_law_X3_at
set_option maxRecDepth 20000 in
theorem ggL_law_X2_over : GoodIn wsL_law wsX2_over := goodIn_r _ [273, 149, 150, 2, 151, 274, 169, 170, 32, 33, 30, 34] (by decide +kernel) (by decide +kernel)
set_option maxRecDepth 20000 in
theorem gL_law_X2_over : GoodIn wsL_law (wsV RL 55 RX2 yX2_over wsX2_over) := goodIn_app (goodIn_of _ (by decide +kernel)) ggL_law_X2_over
set_option maxRecDepth 20000 in
theorem ggL_law_X3_over : GoodIn wsL_law wsX3_over := goodIn_r _ [278, 62, 279, 280, 5, 281, 225, 226, 227, 345, 346, 347, 348, 349, 350, 351, 352, 353, 354, 355, 356, 357, 358, 359, 360] (by decide +kernel) (by decide +kernel)
set_option maxRecDepth 20000 in
theorem gL_law_X3_over : GoodIn wsL_law (wsV RL 58 RX3 yX3_over wsX3_over) := goodIn_app (goodIn_of _ (by decide +kernel)) ggL_law_X3_over
set_option maxRecDepth 20000 in
theorem ggL_law_X2_translate : GoodIn wsL_law wsX2_translate := goodIn_r _ [285, 21, 149, 150, 2, 151, 329, 330, 331, 332, 333, 334, 335, 336, 337, 338, 339, 340, 341, 342, 343, 344] (by decide +kernel) (by decide +kernel)
set_option maxRecDepth 20000 in
theorem gL_law_X2_translate : GoodIn wsL_law (wsV RL 59 RX2 yX2_translate wsX2_translate) := goodIn_app (goodIn_of _ (by decide +kernel)) ggL_law_X2_translate
set_option maxRecDepth 20000 in
theorem ggL_law_X3_translate : GoodIn wsL_law wsX3_translate := goodIn_r _ [289, 62, 46, 279, 280, 5, 281, 345, 346, 347, 348, 349, 350, 351, 352, 353, 354, 355, 356, 357, 358, 359, 360] (by decide +kernel) (by decide +kernel)
set_option maxRecDepth 20000 in
theorem gL_law_X3_translate : GoodIn wsL_law (wsV RL 62 RX3 yX3_translate wsX3_translate) := goodIn_app (goodIn_of _ (by decide +kernel)) ggL_law_X3_translate
set_option maxRecDepth 20000 in
theorem ggL_law_X2_copies : GoodIn wsL_law wsX2_copies := goodIn_r _ [293, 81, 140, 141, 142, 2, 143, 24, 136, 137, 138, 139, 175, 176, 177, 178, 111, 89, 329, 330, 331, 332, 333, 334, 335, 336, 337, 338, 339, 340, 341, 342, 343, 344] (by decide +kernel) (by decide +kernel)
set_option maxRecDepth 20000 in
theorem gL_law_X2_copies : GoodIn wsL_law (wsV RL 63 RX2 yX2_copies wsX2_copies) := goodIn_app (goodIn_of _ (by decide +kernel)) ggL_law_X2_copies
set_option maxRecDepth 20000 in
theorem ggL_law_X3_copies : GoodIn wsL_law wsX3_copies := goodIn_r _ [297, 62, 190, 44, 244, 245, 246, 5, 247, 196, 195, 345, 346, 347, 348, 349, 350, 351, 352, 353, 354, 355, 356, 357, 358, 359, 360] (by decide +kernel) (by decide +kernel)
set_option maxRecDepth 20000 in
theorem gL_law_X3_copies : GoodIn wsL_law (wsV RL 66 RX3 yX3_copies wsX3_copies) := goodIn_app (goodIn_of _ (by decide +kernel)) ggL_law_X3_copies
set_option maxRecDepth 20000 in
theorem ggL_law_X2_back : GoodIn wsL_law wsX2_back := goodIn_r _ [301, 81, 302, 303, 304, 2, 305, 24, 175, 176, 177, 178, 111, 89, 329, 330, 331, 332, 333, 334, 335, 336, 337, 338, 339, 340, 341, 342, 343, 344] (by decide +kernel) (by decide +kernel)
set_option maxRecDepth 20000 in
theorem gL_law_X2_back : GoodIn wsL_law (wsV RL 67 RX2 yX2_back wsX2_back) := goodIn_app (goodIn_of _ (by decide +kernel)) ggL_law_X2_back
set_option maxRecDepth 20000 in
theorem ggL_law_X3_back : GoodIn wsL_law wsX3_back := goodIn_r _ [309, 62, 190, 244, 245, 246, 5, 247, 196, 195, 345, 346, 347, 348, 349, 350, 351, 352, 353, 354, 355, 356, 357, 358, 359, 360] (by decide +kernel) (by decide +kernel)
set_option maxRecDepth 20000 in
theorem gL_law_X3_back : GoodIn wsL_law (wsV RL 70 RX3 yX3_back wsX3_back) := goodIn_app (goodIn_of _ (by decide +kernel)) ggL_law_X3_back
set_option maxRecDepth 20000 in
theorem ggL_law_X2_forms : GoodIn wsL_law wsX2_forms := goodIn_r _ [313, 314, 315, 175, 176, 177, 2, 178, 111, 89, 329, 330, 331, 332, 333, 334, 335, 336, 337, 338, 339, 340, 341, 342, 343, 344] (by decide +kernel) (by decide +kernel)
set_option maxRecDepth 20000 in
theorem gL_law_X2_forms : GoodIn wsL_law (wsV RL 71 RX2 yX2_forms wsX2_forms) := goodIn_app (goodIn_of _ (by decide +kernel)) ggL_law_X2_forms
set_option maxRecDepth 20000 in
theorem ggL_law_X3_forms : GoodIn wsL_law wsX3_forms := goodIn_r _ [319, 62, 320, 48, 244, 245, 246, 5, 247, 196, 195, 345, 346, 347, 348, 349, 350, 351, 352, 353, 354, 355, 356, 357, 358, 359, 360] (by decide +kernel) (by decide +kernel)
set_option maxRecDepth 20000 in
theorem gL_law_X3_forms : GoodIn wsL_law (wsV RL 74 RX3 yX3_forms wsX3_forms) := goodIn_app (goodIn_of _ (by decide +kernel)) ggL_law_X3_forms
set_option maxRecDepth 20000 in
theorem ggL_law_X2_tally : GoodIn wsL_law wsX2_tally := goodIn_r _ [324, 81, 89, 121, 148, 120, 183, 315, 67, 329, 330, 331, 332, 333, 334, 335, 336, 337, 338, 339, 340, 341, 342, 343, 344] (by decide +kernel) (by decide +kernel)
set_option maxRecDepth 20000 in
theorem gL_law_X2_tally : GoodIn wsL_law (wsV RL 75 RX2 yX2_tally wsX2_tally) := goodIn_app (goodIn_of _ (by decide +kernel)) ggL_law_X2_tally
set_option maxRecDepth 20000 in
theorem ggL_law_X3_tally : GoodIn wsL_law wsX3_tally := goodIn_r _ [328, 62, 190, 195, 48, 76, 345, 346, 347, 348, 349, 350, 351, 352, 353, 354, 355, 356, 357, 358, 359, 360] (by decide +kernel) (by decide +kernel)
set_option maxRecDepth 20000 in
theorem gL_law_X3_tally : GoodIn wsL_law (wsV RL 78 RX3 yX3_tally wsX3_tally) := goodIn_app (goodIn_of _ (by decide +kernel)) ggL_law_X3_tally
theorem dL_law_0 : decode cL_law 0 = .ok (.new 8, 3) := by decide +kernel
theorem dL_law_3 : decode cL_law 3 = .ok (.dup, 1) := by decide +kernel
theorem dL_law_4 : decode cL_law 4 = .ok (.aload_n 0, 1) := by decide +kernel
theorem dL_law_5 : decode cL_law 5 = .ok (.iconst 0, 1) := by decide +kernel
theorem dL_law_6 : decode cL_law 6 = .ok (.invokestatic 15, 3) := by decide +kernel
theorem dL_law_9 : decode cL_law 9 = .ok (.aload_n 0, 1) := by decide +kernel
theorem dL_law_10 : decode cL_law 10 = .ok (.iconst 1, 1) := by decide +kernel
theorem dL_law_11 : decode cL_law 11 = .ok (.invokestatic 15, 3) := by decide +kernel
theorem dL_law_14 : decode cL_law 14 = .ok (.invokespecial 21, 3) := by decide +kernel
theorem dL_law_17 : decode cL_law 17 = .ok (.astore_n 1, 1) := by decide +kernel
theorem dL_law_18 : decode cL_law 18 = .ok (.new 24, 3) := by decide +kernel
theorem dL_law_21 : decode cL_law 21 = .ok (.dup, 1) := by decide +kernel
theorem dL_law_22 : decode cL_law 22 = .ok (.aload_n 0, 1) := by decide +kernel
theorem dL_law_23 : decode cL_law 23 = .ok (.iconst 0, 1) := by decide +kernel
theorem dL_law_24 : decode cL_law 24 = .ok (.invokestatic 15, 3) := by decide +kernel
theorem dL_law_27 : decode cL_law 27 = .ok (.aload_n 0, 1) := by decide +kernel
theorem dL_law_28 : decode cL_law 28 = .ok (.iconst 1, 1) := by decide +kernel
theorem dL_law_29 : decode cL_law 29 = .ok (.invokestatic 15, 3) := by decide +kernel
theorem dL_law_32 : decode cL_law 32 = .ok (.invokespecial 26, 3) := by decide +kernel
theorem dL_law_35 : decode cL_law 35 = .ok (.astore_n 2, 1) := by decide +kernel
theorem dL_law_36 : decode cL_law 36 = .ok (.iconst 1, 1) := by decide +kernel
theorem dL_law_37 : decode cL_law 37 = .ok (.newarray .long, 2) := by decide +kernel
theorem dL_law_39 : decode cL_law 39 = .ok (.astore_n 3, 1) := by decide +kernel
theorem dL_law_40 : decode cL_law 40 = .ok (.iconst 2, 1) := by decide +kernel
theorem dL_law_41 : decode cL_law 41 = .ok (.istore 4, 2) := by decide +kernel
theorem dL_law_43 : decode cL_law 43 = .ok (.iload 4, 2) := by decide +kernel
theorem dL_law_45 : decode cL_law 45 = .ok (.aload_n 0, 1) := by decide +kernel
theorem dL_law_46 : decode cL_law 46 = .ok (.arraylength, 1) := by decide +kernel
theorem dL_law_47 : decode cL_law 47 = .ok (.iconst 4, 1) := by decide +kernel
theorem dL_law_48 : decode cL_law 48 = .ok (.isub, 1) := by decide +kernel
theorem dL_law_49 : decode cL_law 49 = .ok (.if_icmp .gt 450, 3) := by decide +kernel
theorem dL_law_52 : decode cL_law 52 = .ok (.aload_n 0, 1) := by decide +kernel
theorem dL_law_53 : decode cL_law 53 = .ok (.iload 4, 2) := by decide +kernel
theorem dL_law_55 : decode cL_law 55 = .ok (.iaload, 1) := by decide +kernel
theorem dL_law_56 : decode cL_law 56 = .ok (.bipush 15, 2) := by decide +kernel
theorem dL_law_58 : decode cL_law 58 = .ok (.iand, 1) := by decide +kernel
theorem dL_law_59 : decode cL_law 59 = .ok (.tableswitch 434 0 11 #[61, 98, 121, 146, 171, 184, 236, 273, 310, 359, 384, 409], 61) := by decide +kernel
theorem dL_law_120 : decode cL_law 120 = .ok (.aload_n 1, 1) := by decide +kernel
theorem dL_law_121 : decode cL_law 121 = .ok (.aload_n 0, 1) := by decide +kernel
theorem dL_law_122 : decode cL_law 122 = .ok (.iload 4, 2) := by decide +kernel
theorem dL_law_124 : decode cL_law 124 = .ok (.iconst 1, 1) := by decide +kernel
theorem dL_law_125 : decode cL_law 125 = .ok (.iadd, 1) := by decide +kernel
theorem dL_law_126 : decode cL_law 126 = .ok (.iaload, 1) := by decide +kernel
theorem dL_law_127 : decode cL_law 127 = .ok (.aload_n 0, 1) := by decide +kernel
theorem dL_law_128 : decode cL_law 128 = .ok (.iload 4, 2) := by decide +kernel
theorem dL_law_130 : decode cL_law 130 = .ok (.iconst 2, 1) := by decide +kernel
theorem dL_law_131 : decode cL_law 131 = .ok (.iadd, 1) := by decide +kernel
theorem dL_law_132 : decode cL_law 132 = .ok (.iaload, 1) := by decide +kernel
theorem dL_law_133 : decode cL_law 133 = .ok (.invokevirtual 27, 3) := by decide +kernel
theorem dL_law_136 : decode cL_law 136 = .ok (.aload_n 2, 1) := by decide +kernel
theorem dL_law_137 : decode cL_law 137 = .ok (.aload_n 0, 1) := by decide +kernel
theorem dL_law_138 : decode cL_law 138 = .ok (.iload 4, 2) := by decide +kernel
theorem dL_law_140 : decode cL_law 140 = .ok (.iconst 1, 1) := by decide +kernel
theorem dL_law_141 : decode cL_law 141 = .ok (.iadd, 1) := by decide +kernel
theorem dL_law_142 : decode cL_law 142 = .ok (.iaload, 1) := by decide +kernel
theorem dL_law_143 : decode cL_law 143 = .ok (.aload_n 0, 1) := by decide +kernel
theorem dL_law_144 : decode cL_law 144 = .ok (.iload 4, 2) := by decide +kernel
theorem dL_law_146 : decode cL_law 146 = .ok (.iconst 2, 1) := by decide +kernel
theorem dL_law_147 : decode cL_law 147 = .ok (.iadd, 1) := by decide +kernel
theorem dL_law_148 : decode cL_law 148 = .ok (.iaload, 1) := by decide +kernel
theorem dL_law_149 : decode cL_law 149 = .ok (.invokevirtual 31, 3) := by decide +kernel
theorem dL_law_152 : decode cL_law 152 = .ok (.if_icmp .eq 341, 3) := by decide +kernel
theorem dL_law_155 : decode cL_law 155 = .ok (.iconst 0, 1) := by decide +kernel
theorem dL_law_156 : decode cL_law 156 = .ok (.ireturn, 1) := by decide +kernel
theorem dL_law_157 : decode cL_law 157 = .ok (.aload_n 1, 1) := by decide +kernel
theorem dL_law_158 : decode cL_law 158 = .ok (.aload_n 0, 1) := by decide +kernel
theorem dL_law_159 : decode cL_law 159 = .ok (.iload 4, 2) := by decide +kernel
theorem dL_law_161 : decode cL_law 161 = .ok (.iconst 1, 1) := by decide +kernel
theorem dL_law_162 : decode cL_law 162 = .ok (.iadd, 1) := by decide +kernel
theorem dL_law_163 : decode cL_law 163 = .ok (.iaload, 1) := by decide +kernel
theorem dL_law_164 : decode cL_law 164 = .ok (.invokevirtual 32, 3) := by decide +kernel
theorem dL_law_167 : decode cL_law 167 = .ok (.aload_n 2, 1) := by decide +kernel
theorem dL_law_168 : decode cL_law 168 = .ok (.aload_n 0, 1) := by decide +kernel
theorem dL_law_169 : decode cL_law 169 = .ok (.iload 4, 2) := by decide +kernel
theorem dL_law_171 : decode cL_law 171 = .ok (.iconst 1, 1) := by decide +kernel
theorem dL_law_172 : decode cL_law 172 = .ok (.iadd, 1) := by decide +kernel
theorem dL_law_173 : decode cL_law 173 = .ok (.iaload, 1) := by decide +kernel
theorem dL_law_174 : decode cL_law 174 = .ok (.invokevirtual 36, 3) := by decide +kernel
theorem dL_law_177 : decode cL_law 177 = .ok (.goto 316, 3) := by decide +kernel
theorem dL_law_180 : decode cL_law 180 = .ok (.aload_n 1, 1) := by decide +kernel
theorem dL_law_181 : decode cL_law 181 = .ok (.aload_n 0, 1) := by decide +kernel
theorem dL_law_182 : decode cL_law 182 = .ok (.iload 4, 2) := by decide +kernel
theorem dL_law_184 : decode cL_law 184 = .ok (.iconst 1, 1) := by decide +kernel
theorem dL_law_185 : decode cL_law 185 = .ok (.iadd, 1) := by decide +kernel
theorem dL_law_186 : decode cL_law 186 = .ok (.iaload, 1) := by decide +kernel
theorem dL_law_187 : decode cL_law 187 = .ok (.invokevirtual 37, 3) := by decide +kernel
theorem dL_law_190 : decode cL_law 190 = .ok (.pop, 1) := by decide +kernel
theorem dL_law_191 : decode cL_law 191 = .ok (.aload_n 2, 1) := by decide +kernel
theorem dL_law_192 : decode cL_law 192 = .ok (.aload_n 0, 1) := by decide +kernel
theorem dL_law_193 : decode cL_law 193 = .ok (.iload 4, 2) := by decide +kernel
theorem dL_law_195 : decode cL_law 195 = .ok (.iconst 1, 1) := by decide +kernel
theorem dL_law_196 : decode cL_law 196 = .ok (.iadd, 1) := by decide +kernel
theorem dL_law_197 : decode cL_law 197 = .ok (.iaload, 1) := by decide +kernel
theorem dL_law_198 : decode cL_law 198 = .ok (.invokevirtual 41, 3) := by decide +kernel
theorem dL_law_201 : decode cL_law 201 = .ok (.pop, 1) := by decide +kernel
theorem dL_law_202 : decode cL_law 202 = .ok (.goto 291, 3) := by decide +kernel
theorem dL_law_205 : decode cL_law 205 = .ok (.aload_n 1, 1) := by decide +kernel
theorem dL_law_206 : decode cL_law 206 = .ok (.aload_n 0, 1) := by decide +kernel
theorem dL_law_207 : decode cL_law 207 = .ok (.iload 4, 2) := by decide +kernel
theorem dL_law_209 : decode cL_law 209 = .ok (.iconst 1, 1) := by decide +kernel
theorem dL_law_210 : decode cL_law 210 = .ok (.iadd, 1) := by decide +kernel
theorem dL_law_211 : decode cL_law 211 = .ok (.iaload, 1) := by decide +kernel
theorem dL_law_212 : decode cL_law 212 = .ok (.invokevirtual 42, 3) := by decide +kernel
theorem dL_law_215 : decode cL_law 215 = .ok (.pop, 1) := by decide +kernel
theorem dL_law_216 : decode cL_law 216 = .ok (.aload_n 2, 1) := by decide +kernel
theorem dL_law_217 : decode cL_law 217 = .ok (.aload_n 0, 1) := by decide +kernel
theorem dL_law_218 : decode cL_law 218 = .ok (.iload 4, 2) := by decide +kernel
theorem dL_law_220 : decode cL_law 220 = .ok (.iconst 1, 1) := by decide +kernel
theorem dL_law_221 : decode cL_law 221 = .ok (.iadd, 1) := by decide +kernel
theorem dL_law_222 : decode cL_law 222 = .ok (.iaload, 1) := by decide +kernel
theorem dL_law_223 : decode cL_law 223 = .ok (.invokevirtual 45, 3) := by decide +kernel
theorem dL_law_226 : decode cL_law 226 = .ok (.pop, 1) := by decide +kernel
theorem dL_law_227 : decode cL_law 227 = .ok (.goto 266, 3) := by decide +kernel
theorem dL_law_230 : decode cL_law 230 = .ok (.aload_n 1, 1) := by decide +kernel
theorem dL_law_231 : decode cL_law 231 = .ok (.invokevirtual 46, 3) := by decide +kernel
theorem dL_law_234 : decode cL_law 234 = .ok (.pop, 1) := by decide +kernel
theorem dL_law_235 : decode cL_law 235 = .ok (.aload_n 2, 1) := by decide +kernel
theorem dL_law_236 : decode cL_law 236 = .ok (.invokevirtual 50, 3) := by decide +kernel
theorem dL_law_239 : decode cL_law 239 = .ok (.pop, 1) := by decide +kernel
theorem dL_law_240 : decode cL_law 240 = .ok (.goto 253, 3) := by decide +kernel
theorem dL_law_243 : decode cL_law 243 = .ok (.aload_n 1, 1) := by decide +kernel
theorem dL_law_244 : decode cL_law 244 = .ok (.aload_n 0, 1) := by decide +kernel
theorem dL_law_245 : decode cL_law 245 = .ok (.iload 4, 2) := by decide +kernel
theorem dL_law_247 : decode cL_law 247 = .ok (.iconst 1, 1) := by decide +kernel
theorem dL_law_248 : decode cL_law 248 = .ok (.iadd, 1) := by decide +kernel
theorem dL_law_249 : decode cL_law 249 = .ok (.iaload, 1) := by decide +kernel
theorem dL_law_250 : decode cL_law 250 = .ok (.aload_n 0, 1) := by decide +kernel
theorem dL_law_251 : decode cL_law 251 = .ok (.iload 4, 2) := by decide +kernel
theorem dL_law_253 : decode cL_law 253 = .ok (.iconst 2, 1) := by decide +kernel
theorem dL_law_254 : decode cL_law 254 = .ok (.iadd, 1) := by decide +kernel
theorem dL_law_255 : decode cL_law 255 = .ok (.iaload, 1) := by decide +kernel
theorem dL_law_256 : decode cL_law 256 = .ok (.aload_n 0, 1) := by decide +kernel
theorem dL_law_257 : decode cL_law 257 = .ok (.iload 4, 2) := by decide +kernel
theorem dL_law_259 : decode cL_law 259 = .ok (.iconst 3, 1) := by decide +kernel
theorem dL_law_260 : decode cL_law 260 = .ok (.iadd, 1) := by decide +kernel
theorem dL_law_261 : decode cL_law 261 = .ok (.iaload, 1) := by decide +kernel
theorem dL_law_262 : decode cL_law 262 = .ok (.aload_n 3, 1) := by decide +kernel
theorem dL_law_263 : decode cL_law 263 = .ok (.invokestatic 51, 3) := by decide +kernel
theorem dL_law_266 : decode cL_law 266 = .ok (.istore 5, 2) := by decide +kernel
theorem dL_law_268 : decode cL_law 268 = .ok (.aload_n 2, 1) := by decide +kernel
theorem dL_law_269 : decode cL_law 269 = .ok (.aload_n 0, 1) := by decide +kernel
theorem dL_law_270 : decode cL_law 270 = .ok (.iload 4, 2) := by decide +kernel
theorem dL_law_272 : decode cL_law 272 = .ok (.iconst 1, 1) := by decide +kernel
theorem dL_law_273 : decode cL_law 273 = .ok (.iadd, 1) := by decide +kernel
theorem dL_law_274 : decode cL_law 274 = .ok (.iaload, 1) := by decide +kernel
theorem dL_law_275 : decode cL_law 275 = .ok (.aload_n 0, 1) := by decide +kernel
theorem dL_law_276 : decode cL_law 276 = .ok (.iload 4, 2) := by decide +kernel
theorem dL_law_278 : decode cL_law 278 = .ok (.iconst 2, 1) := by decide +kernel
theorem dL_law_279 : decode cL_law 279 = .ok (.iadd, 1) := by decide +kernel
theorem dL_law_280 : decode cL_law 280 = .ok (.iaload, 1) := by decide +kernel
theorem dL_law_281 : decode cL_law 281 = .ok (.aload_n 0, 1) := by decide +kernel
theorem dL_law_282 : decode cL_law 282 = .ok (.iload 4, 2) := by decide +kernel
theorem dL_law_284 : decode cL_law 284 = .ok (.iconst 3, 1) := by decide +kernel
theorem dL_law_285 : decode cL_law 285 = .ok (.iadd, 1) := by decide +kernel
theorem dL_law_286 : decode cL_law 286 = .ok (.iaload, 1) := by decide +kernel
theorem dL_law_287 : decode cL_law 287 = .ok (.invokevirtual 54, 3) := by decide +kernel
theorem dL_law_290 : decode cL_law 290 = .ok (.istore 6, 2) := by decide +kernel
theorem dL_law_292 : decode cL_law 292 = .ok (.goto 201, 3) := by decide +kernel
theorem dL_law_295 : decode cL_law 295 = .ok (.aload_n 1, 1) := by decide +kernel
theorem dL_law_296 : decode cL_law 296 = .ok (.aload_n 0, 1) := by decide +kernel
theorem dL_law_297 : decode cL_law 297 = .ok (.iload 4, 2) := by decide +kernel
theorem dL_law_299 : decode cL_law 299 = .ok (.iconst 1, 1) := by decide +kernel
theorem dL_law_300 : decode cL_law 300 = .ok (.iadd, 1) := by decide +kernel
theorem dL_law_301 : decode cL_law 301 = .ok (.iaload, 1) := by decide +kernel
theorem dL_law_302 : decode cL_law 302 = .ok (.aload_n 0, 1) := by decide +kernel
theorem dL_law_303 : decode cL_law 303 = .ok (.iload 4, 2) := by decide +kernel
theorem dL_law_305 : decode cL_law 305 = .ok (.iconst 2, 1) := by decide +kernel
theorem dL_law_306 : decode cL_law 306 = .ok (.iadd, 1) := by decide +kernel
theorem dL_law_307 : decode cL_law 307 = .ok (.iaload, 1) := by decide +kernel
theorem dL_law_308 : decode cL_law 308 = .ok (.invokevirtual 55, 3) := by decide +kernel
theorem dL_law_311 : decode cL_law 311 = .ok (.pop, 1) := by decide +kernel
theorem dL_law_312 : decode cL_law 312 = .ok (.aload_n 2, 1) := by decide +kernel
theorem dL_law_313 : decode cL_law 313 = .ok (.aload_n 0, 1) := by decide +kernel
theorem dL_law_314 : decode cL_law 314 = .ok (.iload 4, 2) := by decide +kernel
theorem dL_law_316 : decode cL_law 316 = .ok (.iconst 1, 1) := by decide +kernel
theorem dL_law_317 : decode cL_law 317 = .ok (.iadd, 1) := by decide +kernel
theorem dL_law_318 : decode cL_law 318 = .ok (.iaload, 1) := by decide +kernel
theorem dL_law_319 : decode cL_law 319 = .ok (.aload_n 0, 1) := by decide +kernel
theorem dL_law_320 : decode cL_law 320 = .ok (.iload 4, 2) := by decide +kernel
theorem dL_law_322 : decode cL_law 322 = .ok (.iconst 2, 1) := by decide +kernel
theorem dL_law_323 : decode cL_law 323 = .ok (.iadd, 1) := by decide +kernel
theorem dL_law_324 : decode cL_law 324 = .ok (.iaload, 1) := by decide +kernel
theorem dL_law_325 : decode cL_law 325 = .ok (.invokevirtual 58, 3) := by decide +kernel
theorem dL_law_328 : decode cL_law 328 = .ok (.pop, 1) := by decide +kernel
theorem dL_law_329 : decode cL_law 329 = .ok (.goto 164, 3) := by decide +kernel
theorem dL_law_332 : decode cL_law 332 = .ok (.aload_n 1, 1) := by decide +kernel
theorem dL_law_333 : decode cL_law 333 = .ok (.aload_n 0, 1) := by decide +kernel
theorem dL_law_334 : decode cL_law 334 = .ok (.iload 4, 2) := by decide +kernel
theorem dL_law_336 : decode cL_law 336 = .ok (.iconst 1, 1) := by decide +kernel
theorem dL_law_337 : decode cL_law 337 = .ok (.iadd, 1) := by decide +kernel
theorem dL_law_338 : decode cL_law 338 = .ok (.iaload, 1) := by decide +kernel
theorem dL_law_339 : decode cL_law 339 = .ok (.aload_n 0, 1) := by decide +kernel
theorem dL_law_340 : decode cL_law 340 = .ok (.iload 4, 2) := by decide +kernel
theorem dL_law_342 : decode cL_law 342 = .ok (.iconst 2, 1) := by decide +kernel
theorem dL_law_343 : decode cL_law 343 = .ok (.iadd, 1) := by decide +kernel
theorem dL_law_344 : decode cL_law 344 = .ok (.iaload, 1) := by decide +kernel
theorem dL_law_345 : decode cL_law 345 = .ok (.invokevirtual 59, 3) := by decide +kernel
theorem dL_law_348 : decode cL_law 348 = .ok (.pop, 1) := by decide +kernel
theorem dL_law_349 : decode cL_law 349 = .ok (.aload_n 2, 1) := by decide +kernel
theorem dL_law_350 : decode cL_law 350 = .ok (.aload_n 0, 1) := by decide +kernel
theorem dL_law_351 : decode cL_law 351 = .ok (.iload 4, 2) := by decide +kernel
theorem dL_law_353 : decode cL_law 353 = .ok (.iconst 1, 1) := by decide +kernel
theorem dL_law_354 : decode cL_law 354 = .ok (.iadd, 1) := by decide +kernel
theorem dL_law_355 : decode cL_law 355 = .ok (.iaload, 1) := by decide +kernel
theorem dL_law_356 : decode cL_law 356 = .ok (.aload_n 0, 1) := by decide +kernel
theorem dL_law_357 : decode cL_law 357 = .ok (.iload 4, 2) := by decide +kernel
theorem dL_law_359 : decode cL_law 359 = .ok (.iconst 2, 1) := by decide +kernel
theorem dL_law_360 : decode cL_law 360 = .ok (.iadd, 1) := by decide +kernel
theorem dL_law_361 : decode cL_law 361 = .ok (.iaload, 1) := by decide +kernel
theorem dL_law_362 : decode cL_law 362 = .ok (.invokevirtual 62, 3) := by decide +kernel
theorem dL_law_365 : decode cL_law 365 = .ok (.pop, 1) := by decide +kernel
theorem dL_law_366 : decode cL_law 366 = .ok (.goto 127, 3) := by decide +kernel
theorem dL_law_369 : decode cL_law 369 = .ok (.aload_n 1, 1) := by decide +kernel
theorem dL_law_370 : decode cL_law 370 = .ok (.aload_n 0, 1) := by decide +kernel
theorem dL_law_371 : decode cL_law 371 = .ok (.iload 4, 2) := by decide +kernel
theorem dL_law_373 : decode cL_law 373 = .ok (.iconst 1, 1) := by decide +kernel
theorem dL_law_374 : decode cL_law 374 = .ok (.iadd, 1) := by decide +kernel
theorem dL_law_375 : decode cL_law 375 = .ok (.iaload, 1) := by decide +kernel
theorem dL_law_376 : decode cL_law 376 = .ok (.aload_n 0, 1) := by decide +kernel
theorem dL_law_377 : decode cL_law 377 = .ok (.iload 4, 2) := by decide +kernel
theorem dL_law_379 : decode cL_law 379 = .ok (.iconst 2, 1) := by decide +kernel
theorem dL_law_380 : decode cL_law 380 = .ok (.iadd, 1) := by decide +kernel
theorem dL_law_381 : decode cL_law 381 = .ok (.iaload, 1) := by decide +kernel
theorem dL_law_382 : decode cL_law 382 = .ok (.aload_n 0, 1) := by decide +kernel
theorem dL_law_383 : decode cL_law 383 = .ok (.iload 4, 2) := by decide +kernel
theorem dL_law_385 : decode cL_law 385 = .ok (.iconst 3, 1) := by decide +kernel
theorem dL_law_386 : decode cL_law 386 = .ok (.iadd, 1) := by decide +kernel
theorem dL_law_387 : decode cL_law 387 = .ok (.iaload, 1) := by decide +kernel
theorem dL_law_388 : decode cL_law 388 = .ok (.invokevirtual 63, 3) := by decide +kernel
theorem dL_law_391 : decode cL_law 391 = .ok (.pop, 1) := by decide +kernel
theorem dL_law_392 : decode cL_law 392 = .ok (.aload_n 2, 1) := by decide +kernel
theorem dL_law_393 : decode cL_law 393 = .ok (.aload_n 0, 1) := by decide +kernel
theorem dL_law_394 : decode cL_law 394 = .ok (.iload 4, 2) := by decide +kernel
theorem dL_law_396 : decode cL_law 396 = .ok (.iconst 1, 1) := by decide +kernel
theorem dL_law_397 : decode cL_law 397 = .ok (.iadd, 1) := by decide +kernel
theorem dL_law_398 : decode cL_law 398 = .ok (.iaload, 1) := by decide +kernel
theorem dL_law_399 : decode cL_law 399 = .ok (.aload_n 0, 1) := by decide +kernel
theorem dL_law_400 : decode cL_law 400 = .ok (.iload 4, 2) := by decide +kernel
theorem dL_law_402 : decode cL_law 402 = .ok (.iconst 2, 1) := by decide +kernel
theorem dL_law_403 : decode cL_law 403 = .ok (.iadd, 1) := by decide +kernel
theorem dL_law_404 : decode cL_law 404 = .ok (.iaload, 1) := by decide +kernel
theorem dL_law_405 : decode cL_law 405 = .ok (.aload_n 0, 1) := by decide +kernel
theorem dL_law_406 : decode cL_law 406 = .ok (.iload 4, 2) := by decide +kernel
theorem dL_law_408 : decode cL_law 408 = .ok (.iconst 3, 1) := by decide +kernel
theorem dL_law_409 : decode cL_law 409 = .ok (.iadd, 1) := by decide +kernel
theorem dL_law_410 : decode cL_law 410 = .ok (.iaload, 1) := by decide +kernel
theorem dL_law_411 : decode cL_law 411 = .ok (.invokevirtual 66, 3) := by decide +kernel
theorem dL_law_414 : decode cL_law 414 = .ok (.pop, 1) := by decide +kernel
theorem dL_law_415 : decode cL_law 415 = .ok (.goto 78, 3) := by decide +kernel
theorem dL_law_418 : decode cL_law 418 = .ok (.aload_n 1, 1) := by decide +kernel
theorem dL_law_419 : decode cL_law 419 = .ok (.aload_n 0, 1) := by decide +kernel
theorem dL_law_420 : decode cL_law 420 = .ok (.iload 4, 2) := by decide +kernel
theorem dL_law_422 : decode cL_law 422 = .ok (.iconst 1, 1) := by decide +kernel
theorem dL_law_423 : decode cL_law 423 = .ok (.iadd, 1) := by decide +kernel
theorem dL_law_424 : decode cL_law 424 = .ok (.iaload, 1) := by decide +kernel
theorem dL_law_425 : decode cL_law 425 = .ok (.invokevirtual 67, 3) := by decide +kernel
theorem dL_law_428 : decode cL_law 428 = .ok (.pop, 1) := by decide +kernel
theorem dL_law_429 : decode cL_law 429 = .ok (.aload_n 2, 1) := by decide +kernel
theorem dL_law_430 : decode cL_law 430 = .ok (.aload_n 0, 1) := by decide +kernel
theorem dL_law_431 : decode cL_law 431 = .ok (.iload 4, 2) := by decide +kernel
theorem dL_law_433 : decode cL_law 433 = .ok (.iconst 1, 1) := by decide +kernel
theorem dL_law_434 : decode cL_law 434 = .ok (.iadd, 1) := by decide +kernel
theorem dL_law_435 : decode cL_law 435 = .ok (.iaload, 1) := by decide +kernel
theorem dL_law_436 : decode cL_law 436 = .ok (.invokevirtual 70, 3) := by decide +kernel
theorem dL_law_439 : decode cL_law 439 = .ok (.pop, 1) := by decide +kernel
theorem dL_law_440 : decode cL_law 440 = .ok (.goto 53, 3) := by decide +kernel
theorem dL_law_443 : decode cL_law 443 = .ok (.aload_n 1, 1) := by decide +kernel
theorem dL_law_444 : decode cL_law 444 = .ok (.aload_n 0, 1) := by decide +kernel
theorem dL_law_445 : decode cL_law 445 = .ok (.iload 4, 2) := by decide +kernel
theorem dL_law_447 : decode cL_law 447 = .ok (.iconst 1, 1) := by decide +kernel
theorem dL_law_448 : decode cL_law 448 = .ok (.iadd, 1) := by decide +kernel
theorem dL_law_449 : decode cL_law 449 = .ok (.iaload, 1) := by decide +kernel
theorem dL_law_450 : decode cL_law 450 = .ok (.invokevirtual 71, 3) := by decide +kernel
theorem dL_law_453 : decode cL_law 453 = .ok (.pop, 1) := by decide +kernel
theorem dL_law_454 : decode cL_law 454 = .ok (.aload_n 2, 1) := by decide +kernel
theorem dL_law_455 : decode cL_law 455 = .ok (.aload_n 0, 1) := by decide +kernel
theorem dL_law_456 : decode cL_law 456 = .ok (.iload 4, 2) := by decide +kernel
theorem dL_law_458 : decode cL_law 458 = .ok (.iconst 1, 1) := by decide +kernel
theorem dL_law_459 : decode cL_law 459 = .ok (.iadd, 1) := by decide +kernel
theorem dL_law_460 : decode cL_law 460 = .ok (.iaload, 1) := by decide +kernel
theorem dL_law_461 : decode cL_law 461 = .ok (.invokevirtual 74, 3) := by decide +kernel
theorem dL_law_464 : decode cL_law 464 = .ok (.pop, 1) := by decide +kernel
theorem dL_law_465 : decode cL_law 465 = .ok (.goto 28, 3) := by decide +kernel
theorem dL_law_468 : decode cL_law 468 = .ok (.aload_n 1, 1) := by decide +kernel
theorem dL_law_469 : decode cL_law 469 = .ok (.aload_n 0, 1) := by decide +kernel
theorem dL_law_470 : decode cL_law 470 = .ok (.iload 4, 2) := by decide +kernel
theorem dL_law_472 : decode cL_law 472 = .ok (.iconst 1, 1) := by decide +kernel
theorem dL_law_473 : decode cL_law 473 = .ok (.iadd, 1) := by decide +kernel
theorem dL_law_474 : decode cL_law 474 = .ok (.iaload, 1) := by decide +kernel
theorem dL_law_475 : decode cL_law 475 = .ok (.invokevirtual 75, 3) := by decide +kernel
theorem dL_law_478 : decode cL_law 478 = .ok (.pop, 1) := by decide +kernel
theorem dL_law_479 : decode cL_law 479 = .ok (.aload_n 2, 1) := by decide +kernel
theorem dL_law_480 : decode cL_law 480 = .ok (.aload_n 0, 1) := by decide +kernel
theorem dL_law_481 : decode cL_law 481 = .ok (.iload 4, 2) := by decide +kernel
theorem dL_law_483 : decode cL_law 483 = .ok (.iconst 1, 1) := by decide +kernel
theorem dL_law_484 : decode cL_law 484 = .ok (.iadd, 1) := by decide +kernel
theorem dL_law_485 : decode cL_law 485 = .ok (.iaload, 1) := by decide +kernel
theorem dL_law_486 : decode cL_law 486 = .ok (.invokevirtual 78, 3) := by decide +kernel
theorem dL_law_489 : decode cL_law 489 = .ok (.pop, 1) := by decide +kernel
theorem dL_law_490 : decode cL_law 490 = .ok (.goto 3, 3) := by decide +kernel
theorem dL_law_493 : decode cL_law 493 = .ok (.iinc 4 4, 3) := by decide +kernel
theorem dL_law_496 : decode cL_law 496 = .ok (.goto (-453), 3) := by decide +kernel
theorem dL_law_499 : decode cL_law 499 = .ok (.iconst 1, 1) := by decide +kernel
theorem dL_law_500 : decode cL_law 500 = .ok (.ireturn, 1) := by decide +kernel
