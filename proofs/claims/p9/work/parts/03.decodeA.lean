theorem dX0_init_0 : decode cX0_init 0 = .ok (.aload_n 0, 1) := by decide +kernel
theorem dX0_init_1 : decode cX0_init 1 = .ok (.invokespecial 3, 3) := by decide +kernel
theorem dX0_init_4 : decode cX0_init 4 = .ok (.aload_n 0, 1) := by decide +kernel
theorem dX0_init_5 : decode cX0_init 5 = .ok (.iconst 0, 1) := by decide +kernel
theorem dX0_init_6 : decode cX0_init 6 = .ok (.iload_n 1, 1) := by decide +kernel
theorem dX0_init_7 : decode cX0_init 7 = .ok (.invokestatic 9, 3) := by decide +kernel
theorem dX0_init_10 : decode cX0_init 10 = .ok (.anewarray 15, 3) := by decide +kernel
theorem dX0_init_13 : decode cX0_init 13 = .ok (.putfield 17, 3) := by decide +kernel
theorem dX0_init_16 : decode cX0_init 16 = .ok (.aload_n 0, 1) := by decide +kernel
theorem dX0_init_17 : decode cX0_init 17 = .ok (.iload_n 2, 1) := by decide +kernel
theorem dX0_init_18 : decode cX0_init 18 = .ok (.putfield 23, 3) := by decide +kernel
theorem dX0_init_21 : decode cX0_init 21 = .ok (.return_, 1) := by decide +kernel
set_option maxRecDepth 20000 in
theorem ggX0_join_X1_init : GoodIn wsX0_join wsX1_init := goodIn_r _ [8, 9, 10, 11, 12, 13, 14, 15, 16, 17, 18, 19, 20, 21, 32] (by decide +kernel) (by decide +kernel)
set_option maxRecDepth 20000 in
theorem gX0_join_X1_init : GoodIn wsX0_join (wsX1_init) := ggX0_join_X1_init
set_option maxRecDepth 20000 in
theorem ggX0_join_X1_joinSign : GoodIn wsX0_join wsX1_joinSign := goodIn_r _ [25, 17, 26, 27, 28, 29, 13, 14, 15, 32] (by decide +kernel) (by decide +kernel)
set_option maxRecDepth 20000 in
theorem gX0_join_X1_joinSign : GoodIn wsX0_join (wsV RX0 30 RX1 yX1_joinSign wsX1_joinSign) := goodIn_app (goodIn_of _ (by decide +kernel)) ggX0_join_X1_joinSign
theorem dX0_join_0 : decode cX0_join 0 = .ok (.iload_n 1, 1) := by decide +kernel
theorem dX0_join_1 : decode cX0_join 1 = .ok (.ifCond .lt 12, 3) := by decide +kernel
theorem dX0_join_4 : decode cX0_join 4 = .ok (.iload_n 1, 1) := by decide +kernel
theorem dX0_join_5 : decode cX0_join 5 = .ok (.aload_n 0, 1) := by decide +kernel
theorem dX0_join_6 : decode cX0_join 6 = .ok (.getfield 17, 3) := by decide +kernel
theorem dX0_join_9 : decode cX0_join 9 = .ok (.arraylength, 1) := by decide +kernel
theorem dX0_join_10 : decode cX0_join 10 = .ok (.if_icmp .lt 4, 3) := by decide +kernel
theorem dX0_join_13 : decode cX0_join 13 = .ok (.return_, 1) := by decide +kernel
theorem dX0_join_14 : decode cX0_join 14 = .ok (.aload_n 0, 1) := by decide +kernel
theorem dX0_join_15 : decode cX0_join 15 = .ok (.getfield 17, 3) := by decide +kernel
theorem dX0_join_18 : decode cX0_join 18 = .ok (.iload_n 1, 1) := by decide +kernel
theorem dX0_join_19 : decode cX0_join 19 = .ok (.aaload, 1) := by decide +kernel
theorem dX0_join_20 : decode cX0_join 20 = .ok (.ifnonnull 20, 3) := by decide +kernel
theorem dX0_join_23 : decode cX0_join 23 = .ok (.aload_n 0, 1) := by decide +kernel
theorem dX0_join_24 : decode cX0_join 24 = .ok (.getfield 17, 3) := by decide +kernel
theorem dX0_join_27 : decode cX0_join 27 = .ok (.iload_n 1, 1) := by decide +kernel
theorem dX0_join_28 : decode cX0_join 28 = .ok (.new 15, 3) := by decide +kernel
theorem dX0_join_31 : decode cX0_join 31 = .ok (.dup, 1) := by decide +kernel
theorem dX0_join_32 : decode cX0_join 32 = .ok (.aload_n 0, 1) := by decide +kernel
theorem dX0_join_33 : decode cX0_join 33 = .ok (.getfield 23, 3) := by decide +kernel
theorem dX0_join_36 : decode cX0_join 36 = .ok (.invokespecial 27, 3) := by decide +kernel
theorem dX0_join_39 : decode cX0_join 39 = .ok (.aastore, 1) := by decide +kernel
theorem dX0_join_40 : decode cX0_join 40 = .ok (.aload_n 0, 1) := by decide +kernel
theorem dX0_join_41 : decode cX0_join 41 = .ok (.getfield 17, 3) := by decide +kernel
theorem dX0_join_44 : decode cX0_join 44 = .ok (.iload_n 1, 1) := by decide +kernel
theorem dX0_join_45 : decode cX0_join 45 = .ok (.aaload, 1) := by decide +kernel
theorem dX0_join_46 : decode cX0_join 46 = .ok (.iload_n 2, 1) := by decide +kernel
theorem dX0_join_47 : decode cX0_join 47 = .ok (.iload_n 3, 1) := by decide +kernel
theorem dX0_join_48 : decode cX0_join 48 = .ok (.invokevirtual 30, 3) := by decide +kernel
theorem dX0_join_51 : decode cX0_join 51 = .ok (.return_, 1) := by decide +kernel
set_option maxRecDepth 20000 in
theorem ggX0_signIn_X1_signOf : GoodIn wsX0_signIn wsX1_signOf := goodIn_r _ [6, 7, 10] (by decide +kernel) (by decide +kernel)
set_option maxRecDepth 20000 in
theorem gX0_signIn_X1_signOf : GoodIn wsX0_signIn (wsV RX0 34 RX1 yX1_signOf wsX1_signOf) := goodIn_app (goodIn_of _ (by decide +kernel)) ggX0_signIn_X1_signOf
theorem dX0_signIn_0 : decode cX0_signIn 0 = .ok (.iload_n 1, 1) := by decide +kernel
theorem dX0_signIn_1 : decode cX0_signIn 1 = .ok (.ifCond .lt 21, 3) := by decide +kernel
theorem dX0_signIn_4 : decode cX0_signIn 4 = .ok (.iload_n 1, 1) := by decide +kernel
theorem dX0_signIn_5 : decode cX0_signIn 5 = .ok (.aload_n 0, 1) := by decide +kernel
theorem dX0_signIn_6 : decode cX0_signIn 6 = .ok (.getfield 17, 3) := by decide +kernel
theorem dX0_signIn_9 : decode cX0_signIn 9 = .ok (.arraylength, 1) := by decide +kernel
theorem dX0_signIn_10 : decode cX0_signIn 10 = .ok (.if_icmp .ge 12, 3) := by decide +kernel
theorem dX0_signIn_13 : decode cX0_signIn 13 = .ok (.aload_n 0, 1) := by decide +kernel
theorem dX0_signIn_14 : decode cX0_signIn 14 = .ok (.getfield 17, 3) := by decide +kernel
theorem dX0_signIn_17 : decode cX0_signIn 17 = .ok (.iload_n 1, 1) := by decide +kernel
theorem dX0_signIn_18 : decode cX0_signIn 18 = .ok (.aaload, 1) := by decide +kernel
theorem dX0_signIn_19 : decode cX0_signIn 19 = .ok (.ifnonnull 6, 3) := by decide +kernel
theorem dX0_signIn_22 : decode cX0_signIn 22 = .ok (.bipush 32, 2) := by decide +kernel
theorem dX0_signIn_24 : decode cX0_signIn 24 = .ok (.ireturn, 1) := by decide +kernel
theorem dX0_signIn_25 : decode cX0_signIn 25 = .ok (.aload_n 0, 1) := by decide +kernel
theorem dX0_signIn_26 : decode cX0_signIn 26 = .ok (.getfield 17, 3) := by decide +kernel
theorem dX0_signIn_29 : decode cX0_signIn 29 = .ok (.iload_n 1, 1) := by decide +kernel
theorem dX0_signIn_30 : decode cX0_signIn 30 = .ok (.aaload, 1) := by decide +kernel
theorem dX0_signIn_31 : decode cX0_signIn 31 = .ok (.iload_n 2, 1) := by decide +kernel
theorem dX0_signIn_32 : decode cX0_signIn 32 = .ok (.invokevirtual 34, 3) := by decide +kernel
theorem dX0_signIn_35 : decode cX0_signIn 35 = .ok (.ireturn, 1) := by decide +kernel
set_option maxRecDepth 20000 in
theorem ggX1_init_J7_fill_53178 : GoodIn wsX1_init wsJ7_fill_53178 := goodIn_r _ [13] (by decide +kernel) (by decide +kernel)
set_option maxRecDepth 20000 in
theorem gX1_init_J7_fill_53178 : GoodIn wsX1_init (va_wsS RX1 21 yJ7_fill_53178 wsJ7_fill_53178) := goodIn_app (goodIn_of _ (by decide +kernel)) ggX1_init_J7_fill_53178
theorem dX1_init_0 : decode cX1_init 0 = .ok (.aload_n 0, 1) := by decide +kernel
theorem dX1_init_1 : decode cX1_init 1 = .ok (.invokespecial 3, 3) := by decide +kernel
theorem dX1_init_4 : decode cX1_init 4 = .ok (.aload_n 0, 1) := by decide +kernel
theorem dX1_init_5 : decode cX1_init 5 = .ok (.iconst 0, 1) := by decide +kernel
theorem dX1_init_6 : decode cX1_init 6 = .ok (.iload_n 1, 1) := by decide +kernel
theorem dX1_init_7 : decode cX1_init 7 = .ok (.invokestatic 9, 3) := by decide +kernel
theorem dX1_init_10 : decode cX1_init 10 = .ok (.newarray .int, 2) := by decide +kernel
theorem dX1_init_12 : decode cX1_init 12 = .ok (.putfield 15, 3) := by decide +kernel
theorem dX1_init_15 : decode cX1_init 15 = .ok (.aload_n 0, 1) := by decide +kernel
theorem dX1_init_16 : decode cX1_init 16 = .ok (.getfield 15, 3) := by decide +kernel
theorem dX1_init_19 : decode cX1_init 19 = .ok (.bipush 32, 2) := by decide +kernel
theorem dX1_init_21 : decode cX1_init 21 = .ok (.invokestatic 21, 3) := by decide +kernel
theorem dX1_init_24 : decode cX1_init 24 = .ok (.return_, 1) := by decide +kernel
set_option maxRecDepth 20000 in
theorem ggX1_joinSign_X2_darker : GoodIn wsX1_joinSign wsX2_darker := goodIn_r _ [4, 5, 6, 7, 8] (by decide +kernel) (by decide +kernel)
set_option maxRecDepth 20000 in
theorem gX1_joinSign_X2_darker_n27 : GoodIn wsX1_joinSign (wsX2_darker) := ggX1_joinSign_X2_darker
theorem dX1_joinSign_0 : decode cX1_joinSign 0 = .ok (.iload_n 1, 1) := by decide +kernel
theorem dX1_joinSign_1 : decode cX1_joinSign 1 = .ok (.ifCond .lt 28, 3) := by decide +kernel
theorem dX1_joinSign_4 : decode cX1_joinSign 4 = .ok (.iload_n 1, 1) := by decide +kernel
theorem dX1_joinSign_5 : decode cX1_joinSign 5 = .ok (.aload_n 0, 1) := by decide +kernel
theorem dX1_joinSign_6 : decode cX1_joinSign 6 = .ok (.getfield 15, 3) := by decide +kernel
theorem dX1_joinSign_9 : decode cX1_joinSign 9 = .ok (.arraylength, 1) := by decide +kernel
theorem dX1_joinSign_10 : decode cX1_joinSign 10 = .ok (.if_icmp .ge 19, 3) := by decide +kernel
theorem dX1_joinSign_13 : decode cX1_joinSign 13 = .ok (.aload_n 0, 1) := by decide +kernel
theorem dX1_joinSign_14 : decode cX1_joinSign 14 = .ok (.getfield 15, 3) := by decide +kernel
theorem dX1_joinSign_17 : decode cX1_joinSign 17 = .ok (.iload_n 1, 1) := by decide +kernel
theorem dX1_joinSign_18 : decode cX1_joinSign 18 = .ok (.aload_n 0, 1) := by decide +kernel
theorem dX1_joinSign_19 : decode cX1_joinSign 19 = .ok (.getfield 15, 3) := by decide +kernel
theorem dX1_joinSign_22 : decode cX1_joinSign 22 = .ok (.iload_n 1, 1) := by decide +kernel
theorem dX1_joinSign_23 : decode cX1_joinSign 23 = .ok (.iaload, 1) := by decide +kernel
theorem dX1_joinSign_24 : decode cX1_joinSign 24 = .ok (.iload_n 2, 1) := by decide +kernel
theorem dX1_joinSign_25 : decode cX1_joinSign 25 = .ok (.invokestatic 27, 3) := by decide +kernel
theorem dX1_joinSign_28 : decode cX1_joinSign 28 = .ok (.iastore, 1) := by decide +kernel
theorem dX1_joinSign_29 : decode cX1_joinSign 29 = .ok (.return_, 1) := by decide +kernel
theorem dX1_signOf_0 : decode cX1_signOf 0 = .ok (.iload_n 1, 1) := by decide +kernel
theorem dX1_signOf_1 : decode cX1_signOf 1 = .ok (.ifCond .lt 21, 3) := by decide +kernel
theorem dX1_signOf_4 : decode cX1_signOf 4 = .ok (.iload_n 1, 1) := by decide +kernel
theorem dX1_signOf_5 : decode cX1_signOf 5 = .ok (.aload_n 0, 1) := by decide +kernel
theorem dX1_signOf_6 : decode cX1_signOf 6 = .ok (.getfield 15, 3) := by decide +kernel
theorem dX1_signOf_9 : decode cX1_signOf 9 = .ok (.arraylength, 1) := by decide +kernel
theorem dX1_signOf_10 : decode cX1_signOf 10 = .ok (.if_icmp .ge 12, 3) := by decide +kernel
theorem dX1_signOf_13 : decode cX1_signOf 13 = .ok (.aload_n 0, 1) := by decide +kernel
theorem dX1_signOf_14 : decode cX1_signOf 14 = .ok (.getfield 15, 3) := by decide +kernel
theorem dX1_signOf_17 : decode cX1_signOf 17 = .ok (.iload_n 1, 1) := by decide +kernel
theorem dX1_signOf_18 : decode cX1_signOf 18 = .ok (.iaload, 1) := by decide +kernel
theorem dX1_signOf_19 : decode cX1_signOf 19 = .ok (.goto 5, 3) := by decide +kernel
theorem dX1_signOf_22 : decode cX1_signOf 22 = .ok (.bipush 32, 2) := by decide +kernel
theorem dX1_signOf_24 : decode cX1_signOf 24 = .ok (.ireturn, 1) := by decide +kernel
set_option maxRecDepth 20000 in
theorem ggX2_init_X2_heldTo : GoodIn wsX2_init wsX2_heldTo := goodIn_r _ [15, 16, 17, 18, 19, 20, 21, 22] (by decide +kernel) (by decide +kernel)
set_option maxRecDepth 20000 in
theorem gX2_init_X2_heldTo : GoodIn wsX2_init (va_wsS RX2 9 yX2_heldTo wsX2_heldTo) := goodIn_app (goodIn_of _ (by decide +kernel)) ggX2_init_X2_heldTo
set_option maxRecDepth 20000 in
theorem ggX2_init_J7_fill_53178 : GoodIn wsX2_init wsJ7_fill_53178 := goodIn_r _ [26] (by decide +kernel) (by decide +kernel)
set_option maxRecDepth 20000 in
theorem gX2_init_J7_fill_53178 : GoodIn wsX2_init (va_wsS RX2 24 yJ7_fill_53178 wsJ7_fill_53178) := goodIn_app (goodIn_of _ (by decide +kernel)) ggX2_init_J7_fill_53178
theorem dX2_init_0 : decode cX2_init 0 = .ok (.aload_n 0, 1) := by decide +kernel
theorem dX2_init_1 : decode cX2_init 1 = .ok (.invokespecial 3, 3) := by decide +kernel
theorem dX2_init_4 : decode cX2_init 4 = .ok (.aload_n 0, 1) := by decide +kernel
theorem dX2_init_5 : decode cX2_init 5 = .ok (.iload_n 1, 1) := by decide +kernel
theorem dX2_init_6 : decode cX2_init 6 = .ok (.bipush 66, 2) := by decide +kernel
theorem dX2_init_8 : decode cX2_init 8 = .ok (.invokestatic 9, 3) := by decide +kernel
theorem dX2_init_11 : decode cX2_init 11 = .ok (.putfield 13, 3) := by decide +kernel
theorem dX2_init_14 : decode cX2_init 14 = .ok (.aload_n 0, 1) := by decide +kernel
theorem dX2_init_15 : decode cX2_init 15 = .ok (.iload_n 2, 1) := by decide +kernel
theorem dX2_init_16 : decode cX2_init 16 = .ok (.sipush 132, 3) := by decide +kernel
theorem dX2_init_19 : decode cX2_init 19 = .ok (.invokestatic 9, 3) := by decide +kernel
theorem dX2_init_22 : decode cX2_init 22 = .ok (.putfield 17, 3) := by decide +kernel
theorem dX2_init_25 : decode cX2_init 25 = .ok (.aload_n 0, 1) := by decide +kernel
theorem dX2_init_26 : decode cX2_init 26 = .ok (.bipush 13, 2) := by decide +kernel
theorem dX2_init_28 : decode cX2_init 28 = .ok (.newarray .int, 2) := by decide +kernel
theorem dX2_init_30 : decode cX2_init 30 = .ok (.putfield 20, 3) := by decide +kernel
theorem dX2_init_33 : decode cX2_init 33 = .ok (.aload_n 0, 1) := by decide +kernel
theorem dX2_init_34 : decode cX2_init 34 = .ok (.getfield 20, 3) := by decide +kernel
theorem dX2_init_37 : decode cX2_init 37 = .ok (.iconst (-1), 1) := by decide +kernel
theorem dX2_init_38 : decode cX2_init 38 = .ok (.invokestatic 24, 3) := by decide +kernel
theorem dX2_init_41 : decode cX2_init 41 = .ok (.aload_n 0, 1) := by decide +kernel
theorem dX2_init_42 : decode cX2_init 42 = .ok (.sipush 256, 3) := by decide +kernel
theorem dX2_init_45 : decode cX2_init 45 = .ok (.newarray .int, 2) := by decide +kernel
theorem dX2_init_47 : decode cX2_init 47 = .ok (.putfield 30, 3) := by decide +kernel
theorem dX2_init_50 : decode cX2_init 50 = .ok (.iconst 0, 1) := by decide +kernel
theorem dX2_init_51 : decode cX2_init 51 = .ok (.istore_n 3, 1) := by decide +kernel
theorem dX2_init_52 : decode cX2_init 52 = .ok (.iload_n 3, 1) := by decide +kernel
theorem dX2_init_53 : decode cX2_init 53 = .ok (.sipush 256, 3) := by decide +kernel
theorem dX2_init_56 : decode cX2_init 56 = .ok (.if_icmp .ge 16, 3) := by decide +kernel
theorem dX2_init_59 : decode cX2_init 59 = .ok (.aload_n 0, 1) := by decide +kernel
theorem dX2_init_60 : decode cX2_init 60 = .ok (.getfield 30, 3) := by decide +kernel
theorem dX2_init_63 : decode cX2_init 63 = .ok (.iload_n 3, 1) := by decide +kernel
theorem dX2_init_64 : decode cX2_init 64 = .ok (.iload_n 3, 1) := by decide +kernel
theorem dX2_init_65 : decode cX2_init 65 = .ok (.iastore, 1) := by decide +kernel
theorem dX2_init_66 : decode cX2_init 66 = .ok (.iinc 3 1, 3) := by decide +kernel
theorem dX2_init_69 : decode cX2_init 69 = .ok (.goto (-17), 3) := by decide +kernel
theorem dX2_init_72 : decode cX2_init 72 = .ok (.aload_n 0, 1) := by decide +kernel
theorem dX2_init_73 : decode cX2_init 73 = .ok (.sipush 200, 3) := by decide +kernel
theorem dX2_init_76 : decode cX2_init 76 = .ok (.newarray .int, 2) := by decide +kernel
theorem dX2_init_78 : decode cX2_init 78 = .ok (.putfield 33, 3) := by decide +kernel
theorem dX2_init_81 : decode cX2_init 81 = .ok (.aload_n 0, 1) := by decide +kernel
theorem dX2_init_82 : decode cX2_init 82 = .ok (.bipush 40, 2) := by decide +kernel
theorem dX2_init_84 : decode cX2_init 84 = .ok (.anewarray 36, 3) := by decide +kernel
theorem dX2_init_87 : decode cX2_init 87 = .ok (.putfield 38, 3) := by decide +kernel
theorem dX2_init_90 : decode cX2_init 90 = .ok (.return_, 1) := by decide +kernel
set_option maxRecDepth 20000 in
theorem ggX2_channel_X2_isChannel : GoodIn wsX2_channel wsX2_isChannel := goodIn_r _ [6] (by decide +kernel) (by decide +kernel)
set_option maxRecDepth 20000 in
theorem gX2_channel_X2_isChannel : GoodIn wsX2_channel (va_wsS RX2 42 yX2_isChannel wsX2_isChannel) := goodIn_app (goodIn_of _ (by decide +kernel)) ggX2_channel_X2_isChannel
theorem dX2_channel_0 : decode cX2_channel 0 = .ok (.iload_n 1, 1) := by decide +kernel
theorem dX2_channel_1 : decode cX2_channel 1 = .ok (.invokestatic 42, 3) := by decide +kernel
theorem dX2_channel_4 : decode cX2_channel 4 = .ok (.ifCond .eq 16, 3) := by decide +kernel
theorem dX2_channel_7 : decode cX2_channel 7 = .ok (.iload_n 2, 1) := by decide +kernel
theorem dX2_channel_8 : decode cX2_channel 8 = .ok (.iconst (-1), 1) := by decide +kernel
theorem dX2_channel_9 : decode cX2_channel 9 = .ok (.if_icmp .lt 11, 3) := by decide +kernel
theorem dX2_channel_12 : decode cX2_channel 12 = .ok (.iload_n 2, 1) := by decide +kernel
theorem dX2_channel_13 : decode cX2_channel 13 = .ok (.aload_n 0, 1) := by decide +kernel
theorem dX2_channel_14 : decode cX2_channel 14 = .ok (.getfield 13, 3) := by decide +kernel
theorem dX2_channel_17 : decode cX2_channel 17 = .ok (.if_icmp .lt 6, 3) := by decide +kernel
theorem dX2_channel_20 : decode cX2_channel 20 = .ok (.bipush (-2), 2) := by decide +kernel
theorem dX2_channel_22 : decode cX2_channel 22 = .ok (.ireturn, 1) := by decide +kernel
theorem dX2_channel_23 : decode cX2_channel 23 = .ok (.aload_n 0, 1) := by decide +kernel
theorem dX2_channel_24 : decode cX2_channel 24 = .ok (.getfield 20, 3) := by decide +kernel
theorem dX2_channel_27 : decode cX2_channel 27 = .ok (.iload_n 1, 1) := by decide +kernel
theorem dX2_channel_28 : decode cX2_channel 28 = .ok (.iaload, 1) := by decide +kernel
theorem dX2_channel_29 : decode cX2_channel 29 = .ok (.istore_n 3, 1) := by decide +kernel
theorem dX2_channel_30 : decode cX2_channel 30 = .ok (.aload_n 0, 1) := by decide +kernel
theorem dX2_channel_31 : decode cX2_channel 31 = .ok (.getfield 20, 3) := by decide +kernel
theorem dX2_channel_34 : decode cX2_channel 34 = .ok (.iload_n 1, 1) := by decide +kernel
theorem dX2_channel_35 : decode cX2_channel 35 = .ok (.iload_n 2, 1) := by decide +kernel
theorem dX2_channel_36 : decode cX2_channel 36 = .ok (.iastore, 1) := by decide +kernel
theorem dX2_channel_37 : decode cX2_channel 37 = .ok (.iload_n 3, 1) := by decide +kernel
theorem dX2_channel_38 : decode cX2_channel 38 = .ok (.ireturn, 1) := by decide +kernel
set_option maxRecDepth 20000 in
theorem ggX2_sign_J9_floorMod_7cf53 : GoodIn wsX2_sign wsJ9_floorMod_7cf53 := goodIn_r _ [10] (by decide +kernel) (by decide +kernel)
set_option maxRecDepth 20000 in
theorem gX2_sign_J9_floorMod_7cf53 : GoodIn wsX2_sign (va_wsS RX2 49 yJ9_floorMod_7cf53 wsJ9_floorMod_7cf53) := goodIn_app (goodIn_of _ (by decide +kernel)) ggX2_sign_J9_floorMod_7cf53
theorem dX2_sign_0 : decode cX2_sign 0 = .ok (.aload_n 0, 1) := by decide +kernel
theorem dX2_sign_1 : decode cX2_sign 1 = .ok (.getfield 46, 3) := by decide +kernel
theorem dX2_sign_4 : decode cX2_sign 4 = .ok (.ifCond .lt 15, 3) := by decide +kernel
theorem dX2_sign_7 : decode cX2_sign 7 = .ok (.aload_n 0, 1) := by decide +kernel
theorem dX2_sign_8 : decode cX2_sign 8 = .ok (.getfield 46, 3) := by decide +kernel
theorem dX2_sign_11 : decode cX2_sign 11 = .ok (.aload_n 0, 1) := by decide +kernel
theorem dX2_sign_12 : decode cX2_sign 12 = .ok (.getfield 33, 3) := by decide +kernel
theorem dX2_sign_15 : decode cX2_sign 15 = .ok (.arraylength, 1) := by decide +kernel
theorem dX2_sign_16 : decode cX2_sign 16 = .ok (.if_icmp .lt 4, 3) := by decide +kernel
theorem dX2_sign_19 : decode cX2_sign 19 = .ok (.return_, 1) := by decide +kernel
theorem dX2_sign_20 : decode cX2_sign 20 = .ok (.aload_n 0, 1) := by decide +kernel
theorem dX2_sign_21 : decode cX2_sign 21 = .ok (.getfield 33, 3) := by decide +kernel
theorem dX2_sign_24 : decode cX2_sign 24 = .ok (.aload_n 0, 1) := by decide +kernel
theorem dX2_sign_25 : decode cX2_sign 25 = .ok (.getfield 46, 3) := by decide +kernel
theorem dX2_sign_28 : decode cX2_sign 28 = .ok (.bipush 32, 2) := by decide +kernel
theorem dX2_sign_30 : decode cX2_sign 30 = .ok (.iload_n 1, 1) := by decide +kernel
theorem dX2_sign_31 : decode cX2_sign 31 = .ok (.sipush 256, 3) := by decide +kernel
theorem dX2_sign_34 : decode cX2_sign 34 = .ok (.invokestatic 49, 3) := by decide +kernel
theorem dX2_sign_37 : decode cX2_sign 37 = .ok (.invokestatic 54, 3) := by decide +kernel
theorem dX2_sign_40 : decode cX2_sign 40 = .ok (.iastore, 1) := by decide +kernel
theorem dX2_sign_41 : decode cX2_sign 41 = .ok (.aload_n 0, 1) := by decide +kernel
theorem dX2_sign_42 : decode cX2_sign 42 = .ok (.dup, 1) := by decide +kernel
theorem dX2_sign_43 : decode cX2_sign 43 = .ok (.getfield 46, 3) := by decide +kernel
theorem dX2_sign_46 : decode cX2_sign 46 = .ok (.iconst 1, 1) := by decide +kernel
theorem dX2_sign_47 : decode cX2_sign 47 = .ok (.iadd, 1) := by decide +kernel
theorem dX2_sign_48 : decode cX2_sign 48 = .ok (.putfield 46, 3) := by decide +kernel
theorem dX2_sign_51 : decode cX2_sign 51 = .ok (.return_, 1) := by decide +kernel
set_option maxRecDepth 20000 in
theorem ggX2_line_X2_channelOfCode : GoodIn wsX2_line wsX2_channelOfCode := goodIn_r _ [5, 6, 7, 4, 8] (by decide +kernel) (by decide +kernel)
set_option maxRecDepth 20000 in
theorem gX2_line_X2_channelOfCode : GoodIn wsX2_line (va_wsS RX2 57 yX2_channelOfCode wsX2_channelOfCode) := goodIn_app (goodIn_of _ (by decide +kernel)) ggX2_line_X2_channelOfCode
set_option maxRecDepth 20000 in
theorem ggX2_line_X2_isChannel : GoodIn wsX2_line wsX2_isChannel := goodIn_r _ [8] (by decide +kernel) (by decide +kernel)
set_option maxRecDepth 20000 in
theorem gX2_line_X2_isChannel : GoodIn wsX2_line (va_wsS RX2 42 yX2_isChannel wsX2_isChannel) := goodIn_app (goodIn_of _ (by decide +kernel)) ggX2_line_X2_isChannel
set_option maxRecDepth 20000 in
theorem ggX2_line_X2_wayTo : GoodIn wsX2_line wsX2_wayTo := goodIn_r _ [12, 13, 14, 15, 6, 7, 4, 8, 126, 127, 128, 129, 130, 131, 132, 133, 134, 135, 136, 137, 138, 139, 140, 141] (by decide +kernel) (by decide +kernel)
set_option maxRecDepth 20000 in
theorem gX2_line_X2_wayTo : GoodIn wsX2_line (wsV RX2 61 RX2 yX2_wayTo wsX2_wayTo) := goodIn_app (goodIn_of _ (by decide +kernel)) ggX2_line_X2_wayTo
set_option maxRecDepth 20000 in
theorem ggX2_line_X2_linesOfCode : GoodIn wsX2_line wsX2_linesOfCode := goodIn_r _ [18, 19, 20, 4, 21] (by decide +kernel) (by decide +kernel)
set_option maxRecDepth 20000 in
theorem gX2_line_X2_linesOfCode : GoodIn wsX2_line (va_wsS RX2 64 yX2_linesOfCode wsX2_linesOfCode) := goodIn_app (goodIn_of _ (by decide +kernel)) ggX2_line_X2_linesOfCode
set_option maxRecDepth 20000 in
theorem ggX2_line_X2_isSecondKind : GoodIn wsX2_line wsX2_isSecondKind := goodIn_r _ [24, 19, 20, 4, 21, 6, 7, 8] (by decide +kernel) (by decide +kernel)
set_option maxRecDepth 20000 in
theorem gX2_line_X2_isSecondKind : GoodIn wsX2_line (va_wsS RX2 67 yX2_isSecondKind wsX2_isSecondKind) := goodIn_app (goodIn_of _ (by decide +kernel)) ggX2_line_X2_isSecondKind
set_option maxRecDepth 20000 in
theorem ggX2_line_X2_endsOnAPage : GoodIn wsX2_line wsX2_endsOnAPage := goodIn_r _ [28, 29, 30, 31, 4, 32, 14, 33, 34, 35, 36, 15, 37, 38, 39, 40, 41, 1, 126, 127, 128, 129, 130, 131, 132, 133, 134, 135, 136, 137, 138, 139, 140, 141] (by decide +kernel) (by decide +kernel)
set_option maxRecDepth 20000 in
theorem gX2_line_X2_endsOnAPage : GoodIn wsX2_line (wsV RX2 70 RX2 yX2_endsOnAPage wsX2_endsOnAPage) := goodIn_app (goodIn_of _ (by decide +kernel)) ggX2_line_X2_endsOnAPage
set_option maxRecDepth 20000 in
theorem ggX2_line_X2_endsAtMostBehindThem : GoodIn wsX2_line wsX2_endsAtMostBehindThem := goodIn_r _ [45, 29, 30, 31, 4, 32, 14, 33, 34, 35, 36, 15, 37, 38, 39, 40, 41, 1, 126, 127, 128, 129, 130, 131, 132, 133, 134, 135, 136, 137, 138, 139, 140, 141] (by decide +kernel) (by decide +kernel)
set_option maxRecDepth 20000 in
theorem gX2_line_X2_endsAtMostBehindThem : GoodIn wsX2_line (wsV RX2 73 RX2 yX2_endsAtMostBehindThem wsX2_endsAtMostBehindThem) := goodIn_app (goodIn_of _ (by decide +kernel)) ggX2_line_X2_endsAtMostBehindThem
set_option maxRecDepth 20000 in
theorem ggX2_line_X2_printRecord : GoodIn wsX2_line wsX2_printRecord := goodIn_r _ [49, 1, 50, 51, 52, 53, 54, 55, 56, 57, 4, 58, 41, 59, 60, 61, 14, 62, 63, 64, 65, 66, 67, 68, 34, 35, 36, 69, 70, 71, 72, 73, 74, 75, 76, 77, 78, 79, 80, 81, 82, 83, 84, 85, 15, 86, 87, 88, 89, 90, 91, 92, 93, 94, 95, 96, 97, 98, 99, 100, 101, 102, 103, 104, 105, 106, 107, 108, 109, 110, 111, 112, 33, 126, 127, 128, 129, 130, 131, 132, 133, 134, 135, 136, 137, 138, 139, 140, 141, 142, 143, 144] (by decide +kernel) (by decide +kernel)
set_option maxRecDepth 20000 in
theorem gX2_line_X2_printRecord : GoodIn wsX2_line (wsV RX2 76 RX2 yX2_printRecord wsX2_printRecord) := goodIn_app (goodIn_of _ (by decide +kernel)) ggX2_line_X2_printRecord
set_option maxRecDepth 20000 in
theorem ggX2_line_X2_moveBy : GoodIn wsX2_line wsX2_moveBy := goodIn_r _ [116, 15, 14, 55, 56, 57, 4, 58, 41, 59, 60, 61, 52, 62, 63, 64, 65, 66, 67, 68, 34, 35, 36, 69, 70, 71, 72, 73, 74, 75, 1, 76, 117, 118, 119, 120, 126, 127, 128, 129, 130, 131, 132, 133, 134, 135, 136, 137, 138, 139, 140, 141, 142, 143] (by decide +kernel) (by decide +kernel)
set_option maxRecDepth 20000 in
theorem gX2_line_X2_moveBy : GoodIn wsX2_line (wsV RX2 79 RX2 yX2_moveBy wsX2_moveBy) := goodIn_app (goodIn_of _ (by decide +kernel)) ggX2_line_X2_moveBy
set_option maxRecDepth 20000 in
theorem ggX2_line_X2_countSkip : GoodIn wsX2_line wsX2_countSkip := goodIn_r _ [124, 13, 125, 6, 7, 4, 8, 126, 127, 128, 129, 130, 131, 132, 133, 134, 135, 136, 137, 138, 139, 140, 141] (by decide +kernel) (by decide +kernel)
set_option maxRecDepth 20000 in
theorem gX2_line_X2_countSkip : GoodIn wsX2_line (wsV RX2 83 RX2 yX2_countSkip wsX2_countSkip) := goodIn_app (goodIn_of _ (by decide +kernel)) ggX2_line_X2_countSkip
theorem dX2_line_0 : decode cX2_line 0 = .ok (.iload_n 1, 1) := by decide +kernel
theorem dX2_line_1 : decode cX2_line 1 = .ok (.invokestatic 57, 3) := by decide +kernel
theorem dX2_line_4 : decode cX2_line 4 = .ok (.istore_n 2, 1) := by decide +kernel
theorem dX2_line_5 : decode cX2_line 5 = .ok (.iload_n 2, 1) := by decide +kernel
theorem dX2_line_6 : decode cX2_line 6 = .ok (.invokestatic 42, 3) := by decide +kernel
theorem dX2_line_9 : decode cX2_line 9 = .ok (.ifCond .eq 11, 3) := by decide +kernel
theorem dX2_line_12 : decode cX2_line 12 = .ok (.aload_n 0, 1) := by decide +kernel
theorem dX2_line_13 : decode cX2_line 13 = .ok (.iload_n 2, 1) := by decide +kernel
theorem dX2_line_14 : decode cX2_line 14 = .ok (.invokevirtual 61, 3) := by decide +kernel
theorem dX2_line_17 : decode cX2_line 17 = .ok (.goto 7, 3) := by decide +kernel
theorem dX2_line_20 : decode cX2_line 20 = .ok (.iload_n 1, 1) := by decide +kernel
theorem dX2_line_21 : decode cX2_line 21 = .ok (.invokestatic 64, 3) := by decide +kernel
theorem dX2_line_24 : decode cX2_line 24 = .ok (.istore_n 3, 1) := by decide +kernel
theorem dX2_line_25 : decode cX2_line 25 = .ok (.iload_n 1, 1) := by decide +kernel
theorem dX2_line_26 : decode cX2_line 26 = .ok (.invokestatic 67, 3) := by decide +kernel
theorem dX2_line_29 : decode cX2_line 29 = .ok (.ifCond .eq 34, 3) := by decide +kernel
theorem dX2_line_32 : decode cX2_line 32 = .ok (.aload_n 0, 1) := by decide +kernel
theorem dX2_line_33 : decode cX2_line 33 = .ok (.iconst 0, 1) := by decide +kernel
theorem dX2_line_34 : decode cX2_line 34 = .ok (.invokevirtual 70, 3) := by decide +kernel
theorem dX2_line_37 : decode cX2_line 37 = .ok (.ifCond .eq 11, 3) := by decide +kernel
theorem dX2_line_40 : decode cX2_line 40 = .ok (.aload_n 0, 1) := by decide +kernel
theorem dX2_line_41 : decode cX2_line 41 = .ok (.iload_n 3, 1) := by decide +kernel
theorem dX2_line_42 : decode cX2_line 42 = .ok (.invokevirtual 73, 3) := by decide +kernel
theorem dX2_line_45 : decode cX2_line 45 = .ok (.ifCond .ne 6, 3) := by decide +kernel
theorem dX2_line_48 : decode cX2_line 48 = .ok (.bipush (-6), 2) := by decide +kernel
theorem dX2_line_50 : decode cX2_line 50 = .ok (.ireturn, 1) := by decide +kernel
theorem dX2_line_51 : decode cX2_line 51 = .ok (.aload_n 0, 1) := by decide +kernel
theorem dX2_line_52 : decode cX2_line 52 = .ok (.invokevirtual 76, 3) := by decide +kernel
theorem dX2_line_55 : decode cX2_line 55 = .ok (.aload_n 0, 1) := by decide +kernel
theorem dX2_line_56 : decode cX2_line 56 = .ok (.iload_n 3, 1) := by decide +kernel
theorem dX2_line_57 : decode cX2_line 57 = .ok (.invokevirtual 79, 3) := by decide +kernel
theorem dX2_line_60 : decode cX2_line 60 = .ok (.goto 23, 3) := by decide +kernel
theorem dX2_line_63 : decode cX2_line 63 = .ok (.aload_n 0, 1) := by decide +kernel
theorem dX2_line_64 : decode cX2_line 64 = .ok (.iload_n 3, 1) := by decide +kernel
theorem dX2_line_65 : decode cX2_line 65 = .ok (.invokevirtual 70, 3) := by decide +kernel
theorem dX2_line_68 : decode cX2_line 68 = .ok (.ifCond .ne 6, 3) := by decide +kernel
theorem dX2_line_71 : decode cX2_line 71 = .ok (.bipush (-6), 2) := by decide +kernel
theorem dX2_line_73 : decode cX2_line 73 = .ok (.ireturn, 1) := by decide +kernel
theorem dX2_line_74 : decode cX2_line 74 = .ok (.aload_n 0, 1) := by decide +kernel
theorem dX2_line_75 : decode cX2_line 75 = .ok (.iload_n 3, 1) := by decide +kernel
theorem dX2_line_76 : decode cX2_line 76 = .ok (.invokevirtual 79, 3) := by decide +kernel
theorem dX2_line_79 : decode cX2_line 79 = .ok (.aload_n 0, 1) := by decide +kernel
theorem dX2_line_80 : decode cX2_line 80 = .ok (.invokevirtual 76, 3) := by decide +kernel
theorem dX2_line_83 : decode cX2_line 83 = .ok (.iload_n 2, 1) := by decide +kernel
theorem dX2_line_84 : decode cX2_line 84 = .ok (.invokestatic 42, 3) := by decide +kernel
theorem dX2_line_87 : decode cX2_line 87 = .ok (.ifCond .eq 8, 3) := by decide +kernel
theorem dX2_line_90 : decode cX2_line 90 = .ok (.aload_n 0, 1) := by decide +kernel
theorem dX2_line_91 : decode cX2_line 91 = .ok (.iload_n 2, 1) := by decide +kernel
theorem dX2_line_92 : decode cX2_line 92 = .ok (.invokevirtual 83, 3) := by decide +kernel
theorem dX2_line_95 : decode cX2_line 95 = .ok (.aload_n 0, 1) := by decide +kernel
theorem dX2_line_96 : decode cX2_line 96 = .ok (.getfield 86, 3) := by decide +kernel
theorem dX2_line_99 : decode cX2_line 99 = .ok (.ireturn, 1) := by decide +kernel
set_option maxRecDepth 20000 in
theorem ggX2_skip_X2_isChannel : GoodIn wsX2_skip wsX2_isChannel := goodIn_r _ [5] (by decide +kernel) (by decide +kernel)
set_option maxRecDepth 20000 in
theorem gX2_skip_X2_isChannel : GoodIn wsX2_skip (va_wsS RX2 42 yX2_isChannel wsX2_isChannel) := goodIn_app (goodIn_of _ (by decide +kernel)) ggX2_skip_X2_isChannel
set_option maxRecDepth 20000 in
theorem ggX2_skip_X2_wayTo : GoodIn wsX2_skip wsX2_wayTo := goodIn_r _ [9, 1, 10, 11, 2, 3, 4, 5, 66, 67, 68, 69, 70, 71, 72, 73, 74, 75, 76, 77, 78, 79, 80, 81] (by decide +kernel) (by decide +kernel)
set_option maxRecDepth 20000 in
theorem gX2_skip_X2_wayTo : GoodIn wsX2_skip (wsV RX2 61 RX2 yX2_wayTo wsX2_wayTo) := goodIn_app (goodIn_of _ (by decide +kernel)) ggX2_skip_X2_wayTo
set_option maxRecDepth 20000 in
theorem ggX2_skip_X2_endsOnAPage : GoodIn wsX2_skip wsX2_endsOnAPage := goodIn_r _ [15, 16, 17, 18, 4, 19, 10, 20, 21, 22, 23, 11, 24, 25, 26, 27, 28, 29, 66, 67, 68, 69, 70, 71, 72, 73, 74, 75, 76, 77, 78, 79, 80, 81] (by decide +kernel) (by decide +kernel)
set_option maxRecDepth 20000 in
theorem gX2_skip_X2_endsOnAPage : GoodIn wsX2_skip (wsV RX2 70 RX2 yX2_endsOnAPage wsX2_endsOnAPage) := goodIn_app (goodIn_of _ (by decide +kernel)) ggX2_skip_X2_endsOnAPage
set_option maxRecDepth 20000 in
theorem ggX2_skip_X2_moveBy : GoodIn wsX2_skip wsX2_moveBy := goodIn_r _ [33, 11, 10, 34, 35, 36, 4, 37, 28, 38, 39, 40, 41, 42, 43, 44, 45, 46, 47, 48, 21, 22, 23, 49, 50, 51, 52, 53, 54, 55, 29, 56, 57, 58, 59, 60, 66, 67, 68, 69, 70, 71, 72, 73, 74, 75, 76, 77, 78, 79, 80, 81, 82, 83] (by decide +kernel) (by decide +kernel)
set_option maxRecDepth 20000 in
theorem gX2_skip_X2_moveBy : GoodIn wsX2_skip (wsV RX2 79 RX2 yX2_moveBy wsX2_moveBy) := goodIn_app (goodIn_of _ (by decide +kernel)) ggX2_skip_X2_moveBy
set_option maxRecDepth 20000 in
theorem ggX2_skip_X2_countSkip : GoodIn wsX2_skip wsX2_countSkip := goodIn_r _ [64, 1, 65, 2, 3, 4, 5, 66, 67, 68, 69, 70, 71, 72, 73, 74, 75, 76, 77, 78, 79, 80, 81] (by decide +kernel) (by decide +kernel)
set_option maxRecDepth 20000 in
theorem gX2_skip_X2_countSkip : GoodIn wsX2_skip (wsV RX2 83 RX2 yX2_countSkip wsX2_countSkip) := goodIn_app (goodIn_of _ (by decide +kernel)) ggX2_skip_X2_countSkip
theorem dX2_skip_0 : decode cX2_skip 0 = .ok (.iload_n 1, 1) := by decide +kernel
theorem dX2_skip_1 : decode cX2_skip 1 = .ok (.invokestatic 42, 3) := by decide +kernel
theorem dX2_skip_4 : decode cX2_skip 4 = .ok (.ifCond .ne 5, 3) := by decide +kernel
theorem dX2_skip_7 : decode cX2_skip 7 = .ok (.iconst 0, 1) := by decide +kernel
theorem dX2_skip_8 : decode cX2_skip 8 = .ok (.ireturn, 1) := by decide +kernel
theorem dX2_skip_9 : decode cX2_skip 9 = .ok (.aload_n 0, 1) := by decide +kernel
theorem dX2_skip_10 : decode cX2_skip 10 = .ok (.iload_n 1, 1) := by decide +kernel
theorem dX2_skip_11 : decode cX2_skip 11 = .ok (.invokevirtual 61, 3) := by decide +kernel
theorem dX2_skip_14 : decode cX2_skip 14 = .ok (.istore_n 2, 1) := by decide +kernel
theorem dX2_skip_15 : decode cX2_skip 15 = .ok (.aload_n 0, 1) := by decide +kernel
theorem dX2_skip_16 : decode cX2_skip 16 = .ok (.iload_n 2, 1) := by decide +kernel
theorem dX2_skip_17 : decode cX2_skip 17 = .ok (.invokevirtual 70, 3) := by decide +kernel
theorem dX2_skip_20 : decode cX2_skip 20 = .ok (.ifCond .ne 6, 3) := by decide +kernel
theorem dX2_skip_23 : decode cX2_skip 23 = .ok (.bipush (-6), 2) := by decide +kernel
theorem dX2_skip_25 : decode cX2_skip 25 = .ok (.ireturn, 1) := by decide +kernel
theorem dX2_skip_26 : decode cX2_skip 26 = .ok (.aload_n 0, 1) := by decide +kernel
theorem dX2_skip_27 : decode cX2_skip 27 = .ok (.iload_n 2, 1) := by decide +kernel
theorem dX2_skip_28 : decode cX2_skip 28 = .ok (.invokevirtual 79, 3) := by decide +kernel
theorem dX2_skip_31 : decode cX2_skip 31 = .ok (.aload_n 0, 1) := by decide +kernel
theorem dX2_skip_32 : decode cX2_skip 32 = .ok (.iload_n 1, 1) := by decide +kernel
theorem dX2_skip_33 : decode cX2_skip 33 = .ok (.invokevirtual 83, 3) := by decide +kernel
theorem dX2_skip_36 : decode cX2_skip 36 = .ok (.aload_n 0, 1) := by decide +kernel
theorem dX2_skip_37 : decode cX2_skip 37 = .ok (.getfield 20, 3) := by decide +kernel
theorem dX2_skip_40 : decode cX2_skip 40 = .ok (.iload_n 1, 1) := by decide +kernel
theorem dX2_skip_41 : decode cX2_skip 41 = .ok (.iaload, 1) := by decide +kernel
theorem dX2_skip_42 : decode cX2_skip 42 = .ok (.iconst (-1), 1) := by decide +kernel
theorem dX2_skip_43 : decode cX2_skip 43 = .ok (.if_icmp .ne 7, 3) := by decide +kernel
theorem dX2_skip_46 : decode cX2_skip 46 = .ok (.iconst (-1), 1) := by decide +kernel
theorem dX2_skip_47 : decode cX2_skip 47 = .ok (.goto 4, 3) := by decide +kernel
theorem dX2_skip_50 : decode cX2_skip 50 = .ok (.iload_n 2, 1) := by decide +kernel
theorem dX2_skip_51 : decode cX2_skip 51 = .ok (.ireturn, 1) := by decide +kernel
set_option maxRecDepth 20000 in
theorem ggX2_end_X2_standOnNewPage : GoodIn wsX2_end wsX2_standOnNewPage := goodIn_r _ [6, 7, 8, 9, 10, 11, 12, 13, 14, 15, 16, 17, 18, 19, 20, 21, 22, 23, 24] (by decide +kernel) (by decide +kernel)
set_option maxRecDepth 20000 in
theorem gX2_end_X2_standOnNewPage : GoodIn wsX2_end (wsV RX2 89 RX2 yX2_standOnNewPage wsX2_standOnNewPage) := goodIn_app (goodIn_of _ (by decide +kernel)) ggX2_end_X2_standOnNewPage
theorem dX2_end_0 : decode cX2_end 0 = .ok (.aload_n 0, 1) := by decide +kernel
theorem dX2_end_1 : decode cX2_end 1 = .ok (.invokevirtual 89, 3) := by decide +kernel
theorem dX2_end_4 : decode cX2_end 4 = .ok (.aload_n 0, 1) := by decide +kernel
theorem dX2_end_5 : decode cX2_end 5 = .ok (.getfield 86, 3) := by decide +kernel
theorem dX2_end_8 : decode cX2_end 8 = .ok (.ireturn, 1) := by decide +kernel
set_option maxRecDepth 20000 in
theorem ggX2_at_X2_begunPage : GoodIn wsX2_at wsX2_begunPage := goodIn_r _ [10, 11, 12, 25, 26, 27, 28, 29, 30, 31, 32, 33, 34, 35, 36, 37, 38, 39, 40] (by decide +kernel) (by decide +kernel)
set_option maxRecDepth 20000 in
theorem gX2_at_X2_begunPage : GoodIn wsX2_at (wsV RX2 92 RX2 yX2_begunPage wsX2_begunPage) := goodIn_app (goodIn_of _ (by decide +kernel)) ggX2_at_X2_begunPage
set_option maxRecDepth 20000 in
theorem ggX2_at_X0_signIn : GoodIn wsX2_at wsX0_signIn := goodIn_r _ [17, 18, 19, 20, 21, 22, 23, 24, 47, 48, 49] (by decide +kernel) (by decide +kernel)
set_option maxRecDepth 20000 in
theorem gX2_at_X0_signIn : GoodIn wsX2_at (wsV RX2 103 RX0 yX0_signIn wsX0_signIn) := goodIn_app (goodIn_of _ (by decide +kernel)) ggX2_at_X0_signIn
theorem dX2_at_0 : decode cX2_at 0 = .ok (.aload_n 0, 1) := by decide +kernel
theorem dX2_at_1 : decode cX2_at 1 = .ok (.iload_n 1, 1) := by decide +kernel
theorem dX2_at_2 : decode cX2_at 2 = .ok (.invokevirtual 92, 3) := by decide +kernel
theorem dX2_at_5 : decode cX2_at 5 = .ok (.astore 4, 2) := by decide +kernel
theorem dX2_at_7 : decode cX2_at 7 = .ok (.aload 4, 2) := by decide +kernel
theorem dX2_at_9 : decode cX2_at 9 = .ok (.ifnull 27, 3) := by decide +kernel
theorem dX2_at_12 : decode cX2_at 12 = .ok (.iload_n 2, 1) := by decide +kernel
theorem dX2_at_13 : decode cX2_at 13 = .ok (.ifCond .lt 23, 3) := by decide +kernel
theorem dX2_at_16 : decode cX2_at 16 = .ok (.iload_n 2, 1) := by decide +kernel
theorem dX2_at_17 : decode cX2_at 17 = .ok (.aload_n 0, 1) := by decide +kernel
theorem dX2_at_18 : decode cX2_at 18 = .ok (.getfield 13, 3) := by decide +kernel
theorem dX2_at_21 : decode cX2_at 21 = .ok (.if_icmp .ge 15, 3) := by decide +kernel
theorem dX2_at_24 : decode cX2_at 24 = .ok (.iload_n 3, 1) := by decide +kernel
theorem dX2_at_25 : decode cX2_at 25 = .ok (.ifCond .lt 11, 3) := by decide +kernel
theorem dX2_at_28 : decode cX2_at 28 = .ok (.iload_n 3, 1) := by decide +kernel
theorem dX2_at_29 : decode cX2_at 29 = .ok (.aload_n 0, 1) := by decide +kernel
theorem dX2_at_30 : decode cX2_at 30 = .ok (.getfield 17, 3) := by decide +kernel
theorem dX2_at_33 : decode cX2_at 33 = .ok (.if_icmp .lt 13, 3) := by decide +kernel
theorem dX2_at_36 : decode cX2_at 36 = .ok (.new 96, 3) := by decide +kernel
theorem dX2_at_39 : decode cX2_at 39 = .ok (.dup, 1) := by decide +kernel
theorem dX2_at_40 : decode cX2_at 40 = .ok (.ldc 98, 2) := by decide +kernel
theorem dX2_at_42 : decode cX2_at 42 = .ok (.invokespecial 100, 3) := by decide +kernel
theorem dX2_at_45 : decode cX2_at 45 = .ok (.athrow, 1) := by decide +kernel
theorem dX2_at_46 : decode cX2_at 46 = .ok (.aload 4, 2) := by decide +kernel
theorem dX2_at_48 : decode cX2_at 48 = .ok (.iload_n 2, 1) := by decide +kernel
theorem dX2_at_49 : decode cX2_at 49 = .ok (.iload_n 3, 1) := by decide +kernel
theorem dX2_at_50 : decode cX2_at 50 = .ok (.invokevirtual 103, 3) := by decide +kernel
theorem dX2_at_53 : decode cX2_at 53 = .ok (.ireturn, 1) := by decide +kernel
set_option maxRecDepth 20000 in
theorem ggX2_over_X2_isSign : GoodIn wsX2_over wsX2_isSign := goodIn_r _ [4] (by decide +kernel) (by decide +kernel)
set_option maxRecDepth 20000 in
theorem gX2_over_X2_isSign : GoodIn wsX2_over (va_wsS RX2 106 yX2_isSign wsX2_isSign) := goodIn_app (goodIn_of _ (by decide +kernel)) ggX2_over_X2_isSign
set_option maxRecDepth 20000 in
theorem ggX2_over_X2_darker : GoodIn wsX2_over wsX2_darker := goodIn_r _ [7, 8, 9, 10, 11] (by decide +kernel) (by decide +kernel)
set_option maxRecDepth 20000 in
theorem gX2_over_X2_darker : GoodIn wsX2_over (va_wsS RX2 109 yX2_darker wsX2_darker) := goodIn_app (goodIn_of _ (by decide +kernel)) ggX2_over_X2_darker
theorem dX2_over_0 : decode cX2_over 0 = .ok (.iload_n 1, 1) := by decide +kernel
theorem dX2_over_1 : decode cX2_over 1 = .ok (.invokestatic 106, 3) := by decide +kernel
theorem dX2_over_4 : decode cX2_over 4 = .ok (.ifCond .eq 10, 3) := by decide +kernel
theorem dX2_over_7 : decode cX2_over 7 = .ok (.iload_n 2, 1) := by decide +kernel
theorem dX2_over_8 : decode cX2_over 8 = .ok (.invokestatic 106, 3) := by decide +kernel
theorem dX2_over_11 : decode cX2_over 11 = .ok (.ifCond .ne 5, 3) := by decide +kernel
theorem dX2_over_14 : decode cX2_over 14 = .ok (.iconst (-1), 1) := by decide +kernel
theorem dX2_over_15 : decode cX2_over 15 = .ok (.ireturn, 1) := by decide +kernel
theorem dX2_over_16 : decode cX2_over 16 = .ok (.iload_n 1, 1) := by decide +kernel
theorem dX2_over_17 : decode cX2_over 17 = .ok (.iload_n 2, 1) := by decide +kernel
theorem dX2_over_18 : decode cX2_over 18 = .ok (.invokestatic 109, 3) := by decide +kernel
theorem dX2_over_21 : decode cX2_over 21 = .ok (.ireturn, 1) := by decide +kernel
set_option maxRecDepth 20000 in
theorem ggX2_translate_X2_isSign : GoodIn wsX2_translate wsX2_isSign := goodIn_r _ [5] (by decide +kernel) (by decide +kernel)
set_option maxRecDepth 20000 in
theorem gX2_translate_X2_isSign : GoodIn wsX2_translate (va_wsS RX2 106 yX2_isSign wsX2_isSign) := goodIn_app (goodIn_of _ (by decide +kernel)) ggX2_translate_X2_isSign
theorem dX2_translate_0 : decode cX2_translate 0 = .ok (.iload_n 1, 1) := by decide +kernel
theorem dX2_translate_1 : decode cX2_translate 1 = .ok (.invokestatic 106, 3) := by decide +kernel
theorem dX2_translate_4 : decode cX2_translate 4 = .ok (.ifCond .eq 10, 3) := by decide +kernel
theorem dX2_translate_7 : decode cX2_translate 7 = .ok (.iload_n 2, 1) := by decide +kernel
theorem dX2_translate_8 : decode cX2_translate 8 = .ok (.invokestatic 106, 3) := by decide +kernel
theorem dX2_translate_11 : decode cX2_translate 11 = .ok (.ifCond .ne 5, 3) := by decide +kernel
theorem dX2_translate_14 : decode cX2_translate 14 = .ok (.iconst (-1), 1) := by decide +kernel
theorem dX2_translate_15 : decode cX2_translate 15 = .ok (.ireturn, 1) := by decide +kernel
theorem dX2_translate_16 : decode cX2_translate 16 = .ok (.aload_n 0, 1) := by decide +kernel
theorem dX2_translate_17 : decode cX2_translate 17 = .ok (.getfield 30, 3) := by decide +kernel
theorem dX2_translate_20 : decode cX2_translate 20 = .ok (.iload_n 1, 1) := by decide +kernel
theorem dX2_translate_21 : decode cX2_translate 21 = .ok (.iaload, 1) := by decide +kernel
theorem dX2_translate_22 : decode cX2_translate 22 = .ok (.istore_n 3, 1) := by decide +kernel
theorem dX2_translate_23 : decode cX2_translate 23 = .ok (.aload_n 0, 1) := by decide +kernel
theorem dX2_translate_24 : decode cX2_translate 24 = .ok (.getfield 30, 3) := by decide +kernel
theorem dX2_translate_27 : decode cX2_translate 27 = .ok (.iload_n 1, 1) := by decide +kernel
theorem dX2_translate_28 : decode cX2_translate 28 = .ok (.iload_n 2, 1) := by decide +kernel
theorem dX2_translate_29 : decode cX2_translate 29 = .ok (.iastore, 1) := by decide +kernel
theorem dX2_translate_30 : decode cX2_translate 30 = .ok (.iload_n 3, 1) := by decide +kernel
theorem dX2_translate_31 : decode cX2_translate 31 = .ok (.ireturn, 1) := by decide +kernel
set_option maxRecDepth 20000 in
theorem ggX2_copies_X2_begunPage : GoodIn wsX2_copies wsX2_begunPage := goodIn_r _ [6, 1, 7, 18, 19, 20, 21, 22, 23, 24, 25, 26, 27, 28, 29, 30, 31, 32, 33] (by decide +kernel) (by decide +kernel)
set_option maxRecDepth 20000 in
theorem gX2_copies_X2_begunPage : GoodIn wsX2_copies (wsV RX2 92 RX2 yX2_begunPage wsX2_begunPage) := goodIn_app (goodIn_of _ (by decide +kernel)) ggX2_copies_X2_begunPage
set_option maxRecDepth 20000 in
theorem ggX2_copies_X2_addPage : GoodIn wsX2_copies wsX2_addPage := goodIn_r _ [11, 1, 7, 18, 19, 20, 21, 22, 23, 24, 25, 26, 27, 28, 29, 30, 31, 32, 33] (by decide +kernel) (by decide +kernel)
set_option maxRecDepth 20000 in
theorem gX2_copies_X2_addPage : GoodIn wsX2_copies (wsV RX2 112 RX2 yX2_addPage wsX2_addPage) := goodIn_app (goodIn_of _ (by decide +kernel)) ggX2_copies_X2_addPage
set_option maxRecDepth 20000 in
theorem ggX2_copies_X2_standOnNewPage : GoodIn wsX2_copies wsX2_standOnNewPage := goodIn_r _ [15, 16, 17, 18, 19, 20, 21, 22, 23, 24, 25, 26, 27, 28, 29, 30, 31, 32, 33] (by decide +kernel) (by decide +kernel)
set_option maxRecDepth 20000 in
theorem gX2_copies_X2_standOnNewPage : GoodIn wsX2_copies (wsV RX2 89 RX2 yX2_standOnNewPage wsX2_standOnNewPage) := goodIn_app (goodIn_of _ (by decide +kernel)) ggX2_copies_X2_standOnNewPage
theorem dX2_copies_0 : decode cX2_copies 0 = .ok (.iload_n 1, 1) := by decide +kernel
theorem dX2_copies_1 : decode cX2_copies 1 = .ok (.iconst 1, 1) := by decide +kernel
theorem dX2_copies_2 : decode cX2_copies 2 = .ok (.if_icmp .lt 26, 3) := by decide +kernel
theorem dX2_copies_5 : decode cX2_copies 5 = .ok (.iload_n 1, 1) := by decide +kernel
theorem dX2_copies_6 : decode cX2_copies 6 = .ok (.bipush 9, 2) := by decide +kernel
theorem dX2_copies_8 : decode cX2_copies 8 = .ok (.if_icmp .gt 20, 3) := by decide +kernel
theorem dX2_copies_11 : decode cX2_copies 11 = .ok (.iload_n 2, 1) := by decide +kernel
theorem dX2_copies_12 : decode cX2_copies 12 = .ok (.ifCond .lt 16, 3) := by decide +kernel
theorem dX2_copies_15 : decode cX2_copies 15 = .ok (.iload_n 2, 1) := by decide +kernel
theorem dX2_copies_16 : decode cX2_copies 16 = .ok (.iload_n 3, 1) := by decide +kernel
theorem dX2_copies_17 : decode cX2_copies 17 = .ok (.if_icmp .gt 11, 3) := by decide +kernel
theorem dX2_copies_20 : decode cX2_copies 20 = .ok (.iload_n 3, 1) := by decide +kernel
theorem dX2_copies_21 : decode cX2_copies 21 = .ok (.aload_n 0, 1) := by decide +kernel
theorem dX2_copies_22 : decode cX2_copies 22 = .ok (.getfield 86, 3) := by decide +kernel
theorem dX2_copies_25 : decode cX2_copies 25 = .ok (.if_icmp .lt 6, 3) := by decide +kernel
theorem dX2_copies_28 : decode cX2_copies 28 = .ok (.bipush (-2), 2) := by decide +kernel
theorem dX2_copies_30 : decode cX2_copies 30 = .ok (.ireturn, 1) := by decide +kernel
theorem dX2_copies_31 : decode cX2_copies 31 = .ok (.aload_n 0, 1) := by decide +kernel
theorem dX2_copies_32 : decode cX2_copies 32 = .ok (.getfield 86, 3) := by decide +kernel
theorem dX2_copies_35 : decode cX2_copies 35 = .ok (.iload_n 1, 1) := by decide +kernel
theorem dX2_copies_36 : decode cX2_copies 36 = .ok (.iload_n 3, 1) := by decide +kernel
theorem dX2_copies_37 : decode cX2_copies 37 = .ok (.iload_n 2, 1) := by decide +kernel
theorem dX2_copies_38 : decode cX2_copies 38 = .ok (.isub, 1) := by decide +kernel
theorem dX2_copies_39 : decode cX2_copies 39 = .ok (.iconst 1, 1) := by decide +kernel
theorem dX2_copies_40 : decode cX2_copies 40 = .ok (.iadd, 1) := by decide +kernel
theorem dX2_copies_41 : decode cX2_copies 41 = .ok (.imul, 1) := by decide +kernel
theorem dX2_copies_42 : decode cX2_copies 42 = .ok (.iadd, 1) := by decide +kernel
theorem dX2_copies_43 : decode cX2_copies 43 = .ok (.bipush 40, 2) := by decide +kernel
theorem dX2_copies_45 : decode cX2_copies 45 = .ok (.if_icmp .le 6, 3) := by decide +kernel
theorem dX2_copies_48 : decode cX2_copies 48 = .ok (.bipush (-6), 2) := by decide +kernel
theorem dX2_copies_50 : decode cX2_copies 50 = .ok (.ireturn, 1) := by decide +kernel
theorem dX2_copies_51 : decode cX2_copies 51 = .ok (.iconst 0, 1) := by decide +kernel
theorem dX2_copies_52 : decode cX2_copies 52 = .ok (.istore 4, 2) := by decide +kernel
theorem dX2_copies_54 : decode cX2_copies 54 = .ok (.iload 4, 2) := by decide +kernel
theorem dX2_copies_56 : decode cX2_copies 56 = .ok (.iload_n 1, 1) := by decide +kernel
theorem dX2_copies_57 : decode cX2_copies 57 = .ok (.if_icmp .ge 34, 3) := by decide +kernel
theorem dX2_copies_60 : decode cX2_copies 60 = .ok (.iload_n 2, 1) := by decide +kernel
theorem dX2_copies_61 : decode cX2_copies 61 = .ok (.istore 5, 2) := by decide +kernel
theorem dX2_copies_63 : decode cX2_copies 63 = .ok (.iload 5, 2) := by decide +kernel
theorem dX2_copies_65 : decode cX2_copies 65 = .ok (.iload_n 3, 1) := by decide +kernel
theorem dX2_copies_66 : decode cX2_copies 66 = .ok (.if_icmp .gt 19, 3) := by decide +kernel
theorem dX2_copies_69 : decode cX2_copies 69 = .ok (.aload_n 0, 1) := by decide +kernel
theorem dX2_copies_70 : decode cX2_copies 70 = .ok (.aload_n 0, 1) := by decide +kernel
theorem dX2_copies_71 : decode cX2_copies 71 = .ok (.iload 5, 2) := by decide +kernel
theorem dX2_copies_73 : decode cX2_copies 73 = .ok (.invokevirtual 92, 3) := by decide +kernel
theorem dX2_copies_76 : decode cX2_copies 76 = .ok (.invokevirtual 112, 3) := by decide +kernel
theorem dX2_copies_79 : decode cX2_copies 79 = .ok (.iinc 5 1, 3) := by decide +kernel
theorem dX2_copies_82 : decode cX2_copies 82 = .ok (.goto (-19), 3) := by decide +kernel
theorem dX2_copies_85 : decode cX2_copies 85 = .ok (.iinc 4 1, 3) := by decide +kernel
theorem dX2_copies_88 : decode cX2_copies 88 = .ok (.goto (-34), 3) := by decide +kernel
theorem dX2_copies_91 : decode cX2_copies 91 = .ok (.aload_n 0, 1) := by decide +kernel
theorem dX2_copies_92 : decode cX2_copies 92 = .ok (.invokevirtual 89, 3) := by decide +kernel
theorem dX2_copies_95 : decode cX2_copies 95 = .ok (.aload_n 0, 1) := by decide +kernel
theorem dX2_copies_96 : decode cX2_copies 96 = .ok (.getfield 86, 3) := by decide +kernel
theorem dX2_copies_99 : decode cX2_copies 99 = .ok (.ireturn, 1) := by decide +kernel
set_option maxRecDepth 20000 in
theorem ggX2_back_X2_takeLastPage : GoodIn wsX2_back wsX2_takeLastPage := goodIn_r _ [6, 1, 7, 14, 15, 16, 17, 18, 19, 20, 21, 22, 23, 24, 25, 26, 27, 28, 29] (by decide +kernel) (by decide +kernel)
set_option maxRecDepth 20000 in
theorem gX2_back_X2_takeLastPage : GoodIn wsX2_back (wsV RX2 116 RX2 yX2_takeLastPage wsX2_takeLastPage) := goodIn_app (goodIn_of _ (by decide +kernel)) ggX2_back_X2_takeLastPage
set_option maxRecDepth 20000 in
theorem ggX2_back_X2_standOnNewPage : GoodIn wsX2_back wsX2_standOnNewPage := goodIn_r _ [11, 12, 13, 14, 15, 16, 17, 18, 19, 20, 21, 22, 23, 24, 25, 26, 27, 28, 29] (by decide +kernel) (by decide +kernel)
set_option maxRecDepth 20000 in
theorem gX2_back_X2_standOnNewPage : GoodIn wsX2_back (wsV RX2 89 RX2 yX2_standOnNewPage wsX2_standOnNewPage) := goodIn_app (goodIn_of _ (by decide +kernel)) ggX2_back_X2_standOnNewPage
theorem dX2_back_0 : decode cX2_back 0 = .ok (.iload_n 1, 1) := by decide +kernel
theorem dX2_back_1 : decode cX2_back 1 = .ok (.ifCond .lt 11, 3) := by decide +kernel
theorem dX2_back_4 : decode cX2_back 4 = .ok (.iload_n 1, 1) := by decide +kernel
theorem dX2_back_5 : decode cX2_back 5 = .ok (.aload_n 0, 1) := by decide +kernel
theorem dX2_back_6 : decode cX2_back 6 = .ok (.getfield 86, 3) := by decide +kernel
theorem dX2_back_9 : decode cX2_back 9 = .ok (.if_icmp .le 6, 3) := by decide +kernel
theorem dX2_back_12 : decode cX2_back 12 = .ok (.bipush (-2), 2) := by decide +kernel
theorem dX2_back_14 : decode cX2_back 14 = .ok (.ireturn, 1) := by decide +kernel
theorem dX2_back_15 : decode cX2_back 15 = .ok (.iconst 0, 1) := by decide +kernel
theorem dX2_back_16 : decode cX2_back 16 = .ok (.istore_n 2, 1) := by decide +kernel
theorem dX2_back_17 : decode cX2_back 17 = .ok (.iload_n 2, 1) := by decide +kernel
theorem dX2_back_18 : decode cX2_back 18 = .ok (.iload_n 1, 1) := by decide +kernel
theorem dX2_back_19 : decode cX2_back 19 = .ok (.if_icmp .ge 13, 3) := by decide +kernel
theorem dX2_back_22 : decode cX2_back 22 = .ok (.aload_n 0, 1) := by decide +kernel
theorem dX2_back_23 : decode cX2_back 23 = .ok (.invokevirtual 116, 3) := by decide +kernel
theorem dX2_back_26 : decode cX2_back 26 = .ok (.iinc 2 1, 3) := by decide +kernel
theorem dX2_back_29 : decode cX2_back 29 = .ok (.goto (-12), 3) := by decide +kernel
theorem dX2_back_32 : decode cX2_back 32 = .ok (.aload_n 0, 1) := by decide +kernel
theorem dX2_back_33 : decode cX2_back 33 = .ok (.invokevirtual 89, 3) := by decide +kernel
theorem dX2_back_36 : decode cX2_back 36 = .ok (.aload_n 0, 1) := by decide +kernel
theorem dX2_back_37 : decode cX2_back 37 = .ok (.getfield 86, 3) := by decide +kernel
theorem dX2_back_40 : decode cX2_back 40 = .ok (.ireturn, 1) := by decide +kernel
set_option maxRecDepth 20000 in
theorem ggX2_forms_X2_standOnNewPage : GoodIn wsX2_forms wsX2_standOnNewPage := goodIn_r _ [7, 8, 9, 10, 11, 12, 13, 14, 15, 16, 17, 18, 19, 20, 21, 22, 23, 24, 25] (by decide +kernel) (by decide +kernel)
set_option maxRecDepth 20000 in
theorem gX2_forms_X2_standOnNewPage : GoodIn wsX2_forms (wsV RX2 89 RX2 yX2_standOnNewPage wsX2_standOnNewPage) := goodIn_app (goodIn_of _ (by decide +kernel)) ggX2_forms_X2_standOnNewPage
theorem dX2_forms_0 : decode cX2_forms 0 = .ok (.iload_n 1, 1) := by decide +kernel
theorem dX2_forms_1 : decode cX2_forms 1 = .ok (.ifCond .ge 6, 3) := by decide +kernel
theorem dX2_forms_4 : decode cX2_forms 4 = .ok (.bipush (-2), 2) := by decide +kernel
theorem dX2_forms_6 : decode cX2_forms 6 = .ok (.ireturn, 1) := by decide +kernel
theorem dX2_forms_7 : decode cX2_forms 7 = .ok (.iload_n 1, 1) := by decide +kernel
theorem dX2_forms_8 : decode cX2_forms 8 = .ok (.aload_n 0, 1) := by decide +kernel
theorem dX2_forms_9 : decode cX2_forms 9 = .ok (.getfield 119, 3) := by decide +kernel
theorem dX2_forms_12 : decode cX2_forms 12 = .ok (.if_icmp .ne 5, 3) := by decide +kernel
theorem dX2_forms_15 : decode cX2_forms 15 = .ok (.iconst 1, 1) := by decide +kernel
theorem dX2_forms_16 : decode cX2_forms 16 = .ok (.ireturn, 1) := by decide +kernel
theorem dX2_forms_17 : decode cX2_forms 17 = .ok (.aload_n 0, 1) := by decide +kernel
theorem dX2_forms_18 : decode cX2_forms 18 = .ok (.iload_n 1, 1) := by decide +kernel
theorem dX2_forms_19 : decode cX2_forms 19 = .ok (.putfield 119, 3) := by decide +kernel
theorem dX2_forms_22 : decode cX2_forms 22 = .ok (.aload_n 0, 1) := by decide +kernel
theorem dX2_forms_23 : decode cX2_forms 23 = .ok (.dup, 1) := by decide +kernel
theorem dX2_forms_24 : decode cX2_forms 24 = .ok (.getfield 122, 3) := by decide +kernel
theorem dX2_forms_27 : decode cX2_forms 27 = .ok (.iconst 1, 1) := by decide +kernel
theorem dX2_forms_28 : decode cX2_forms 28 = .ok (.iadd, 1) := by decide +kernel
theorem dX2_forms_29 : decode cX2_forms 29 = .ok (.putfield 122, 3) := by decide +kernel
theorem dX2_forms_32 : decode cX2_forms 32 = .ok (.aload_n 0, 1) := by decide +kernel
theorem dX2_forms_33 : decode cX2_forms 33 = .ok (.invokevirtual 89, 3) := by decide +kernel
theorem dX2_forms_36 : decode cX2_forms 36 = .ok (.iconst 2, 1) := by decide +kernel
theorem dX2_forms_37 : decode cX2_forms 37 = .ok (.ireturn, 1) := by decide +kernel
theorem dX2_tally_0 : decode cX2_tally 0 = .ok (.iload_n 1, 1) := by decide +kernel
theorem dX2_tally_1 : decode cX2_tally 1 = .ok (.tableswitch 87 0 7 #[47, 52, 57, 62, 67, 72, 77, 82], 47) := by decide +kernel
theorem dX2_tally_48 : decode cX2_tally 48 = .ok (.aload_n 0, 1) := by decide +kernel
theorem dX2_tally_49 : decode cX2_tally 49 = .ok (.getfield 86, 3) := by decide +kernel
theorem dX2_tally_52 : decode cX2_tally 52 = .ok (.ireturn, 1) := by decide +kernel
theorem dX2_tally_53 : decode cX2_tally 53 = .ok (.aload_n 0, 1) := by decide +kernel
theorem dX2_tally_54 : decode cX2_tally 54 = .ok (.getfield 125, 3) := by decide +kernel
theorem dX2_tally_57 : decode cX2_tally 57 = .ok (.ireturn, 1) := by decide +kernel
theorem dX2_tally_58 : decode cX2_tally 58 = .ok (.aload_n 0, 1) := by decide +kernel
theorem dX2_tally_59 : decode cX2_tally 59 = .ok (.getfield 128, 3) := by decide +kernel
theorem dX2_tally_62 : decode cX2_tally 62 = .ok (.ireturn, 1) := by decide +kernel
theorem dX2_tally_63 : decode cX2_tally 63 = .ok (.aload_n 0, 1) := by decide +kernel
theorem dX2_tally_64 : decode cX2_tally 64 = .ok (.getfield 131, 3) := by decide +kernel
theorem dX2_tally_67 : decode cX2_tally 67 = .ok (.ireturn, 1) := by decide +kernel
theorem dX2_tally_68 : decode cX2_tally 68 = .ok (.aload_n 0, 1) := by decide +kernel
theorem dX2_tally_69 : decode cX2_tally 69 = .ok (.getfield 134, 3) := by decide +kernel
theorem dX2_tally_72 : decode cX2_tally 72 = .ok (.ireturn, 1) := by decide +kernel
theorem dX2_tally_73 : decode cX2_tally 73 = .ok (.aload_n 0, 1) := by decide +kernel
theorem dX2_tally_74 : decode cX2_tally 74 = .ok (.getfield 137, 3) := by decide +kernel
theorem dX2_tally_77 : decode cX2_tally 77 = .ok (.ireturn, 1) := by decide +kernel
theorem dX2_tally_78 : decode cX2_tally 78 = .ok (.aload_n 0, 1) := by decide +kernel
theorem dX2_tally_79 : decode cX2_tally 79 = .ok (.getfield 122, 3) := by decide +kernel
theorem dX2_tally_82 : decode cX2_tally 82 = .ok (.ireturn, 1) := by decide +kernel
theorem dX2_tally_83 : decode cX2_tally 83 = .ok (.aload_n 0, 1) := by decide +kernel
theorem dX2_tally_84 : decode cX2_tally 84 = .ok (.getfield 46, 3) := by decide +kernel
theorem dX2_tally_87 : decode cX2_tally 87 = .ok (.ireturn, 1) := by decide +kernel
theorem dX2_tally_88 : decode cX2_tally 88 = .ok (.iconst (-1), 1) := by decide +kernel
theorem dX2_tally_89 : decode cX2_tally 89 = .ok (.ireturn, 1) := by decide +kernel
theorem dX2_heldTo_0 : decode cX2_heldTo 0 = .ok (.iconst 1, 1) := by decide +kernel
theorem dX2_heldTo_1 : decode cX2_heldTo 1 = .ok (.iload_n 0, 1) := by decide +kernel
theorem dX2_heldTo_2 : decode cX2_heldTo 2 = .ok (.iload_n 1, 1) := by decide +kernel
theorem dX2_heldTo_3 : decode cX2_heldTo 3 = .ok (.invokestatic 140, 3) := by decide +kernel
theorem dX2_heldTo_6 : decode cX2_heldTo 6 = .ok (.invokestatic 54, 3) := by decide +kernel
theorem dX2_heldTo_9 : decode cX2_heldTo 9 = .ok (.ireturn, 1) := by decide +kernel
theorem dX2_isChannel_0 : decode cX2_isChannel 0 = .ok (.iload_n 0, 1) := by decide +kernel
theorem dX2_isChannel_1 : decode cX2_isChannel 1 = .ok (.iconst 1, 1) := by decide +kernel
theorem dX2_isChannel_2 : decode cX2_isChannel 2 = .ok (.if_icmp .lt 13, 3) := by decide +kernel
theorem dX2_isChannel_5 : decode cX2_isChannel 5 = .ok (.iload_n 0, 1) := by decide +kernel
theorem dX2_isChannel_6 : decode cX2_isChannel 6 = .ok (.bipush 12, 2) := by decide +kernel
theorem dX2_isChannel_8 : decode cX2_isChannel 8 = .ok (.if_icmp .gt 7, 3) := by decide +kernel
theorem dX2_isChannel_11 : decode cX2_isChannel 11 = .ok (.iconst 1, 1) := by decide +kernel
theorem dX2_isChannel_12 : decode cX2_isChannel 12 = .ok (.goto 4, 3) := by decide +kernel
theorem dX2_isChannel_15 : decode cX2_isChannel 15 = .ok (.iconst 0, 1) := by decide +kernel
theorem dX2_isChannel_16 : decode cX2_isChannel 16 = .ok (.ireturn, 1) := by decide +kernel
theorem dX2_isSign_0 : decode cX2_isSign 0 = .ok (.iload_n 0, 1) := by decide +kernel
theorem dX2_isSign_1 : decode cX2_isSign 1 = .ok (.bipush 32, 2) := by decide +kernel
theorem dX2_isSign_3 : decode cX2_isSign 3 = .ok (.if_icmp .lt 14, 3) := by decide +kernel
theorem dX2_isSign_6 : decode cX2_isSign 6 = .ok (.iload_n 0, 1) := by decide +kernel
theorem dX2_isSign_7 : decode cX2_isSign 7 = .ok (.sipush 255, 3) := by decide +kernel
theorem dX2_isSign_10 : decode cX2_isSign 10 = .ok (.if_icmp .gt 7, 3) := by decide +kernel
theorem dX2_isSign_13 : decode cX2_isSign 13 = .ok (.iconst 1, 1) := by decide +kernel
theorem dX2_isSign_14 : decode cX2_isSign 14 = .ok (.goto 4, 3) := by decide +kernel
theorem dX2_isSign_17 : decode cX2_isSign 17 = .ok (.iconst 0, 1) := by decide +kernel
theorem dX2_isSign_18 : decode cX2_isSign 18 = .ok (.ireturn, 1) := by decide +kernel
theorem dX2_darker_0 : decode cX2_darker 0 = .ok (.iload_n 0, 1) := by decide +kernel
theorem dX2_darker_1 : decode cX2_darker 1 = .ok (.iload_n 1, 1) := by decide +kernel
theorem dX2_darker_2 : decode cX2_darker 2 = .ok (.invokestatic 54, 3) := by decide +kernel
theorem dX2_darker_5 : decode cX2_darker 5 = .ok (.ireturn, 1) := by decide +kernel
set_option maxRecDepth 20000 in
theorem ggX2_isSecondKind_X2_isPlainSecondKind : GoodIn wsX2_isSecondKind wsX2_isPlainSecondKind := goodIn_r _ [4] (by decide +kernel) (by decide +kernel)
set_option maxRecDepth 20000 in
theorem gX2_isSecondKind_X2_isPlainSecondKind : GoodIn wsX2_isSecondKind (va_wsS RX2 143 yX2_isPlainSecondKind wsX2_isPlainSecondKind) := goodIn_app (goodIn_of _ (by decide +kernel)) ggX2_isSecondKind_X2_isPlainSecondKind
set_option maxRecDepth 20000 in
theorem ggX2_isSecondKind_X2_isChannel : GoodIn wsX2_isSecondKind wsX2_isChannel := goodIn_r _ [7] (by decide +kernel) (by decide +kernel)
set_option maxRecDepth 20000 in
theorem gX2_isSecondKind_X2_isChannel : GoodIn wsX2_isSecondKind (va_wsS RX2 42 yX2_isChannel wsX2_isChannel) := goodIn_app (goodIn_of _ (by decide +kernel)) ggX2_isSecondKind_X2_isChannel
theorem dX2_isSecondKind_0 : decode cX2_isSecondKind 0 = .ok (.iload_n 0, 1) := by decide +kernel
theorem dX2_isSecondKind_1 : decode cX2_isSecondKind 1 = .ok (.invokestatic 143, 3) := by decide +kernel
theorem dX2_isSecondKind_4 : decode cX2_isSecondKind 4 = .ok (.ifCond .ne 14, 3) := by decide +kernel
theorem dX2_isSecondKind_7 : decode cX2_isSecondKind 7 = .ok (.iload_n 0, 1) := by decide +kernel
theorem dX2_isSecondKind_8 : decode cX2_isSecondKind 8 = .ok (.sipush 272, 3) := by decide +kernel
theorem dX2_isSecondKind_11 : decode cX2_isSecondKind 11 = .ok (.isub, 1) := by decide +kernel
theorem dX2_isSecondKind_12 : decode cX2_isSecondKind 12 = .ok (.invokestatic 42, 3) := by decide +kernel
theorem dX2_isSecondKind_15 : decode cX2_isSecondKind 15 = .ok (.ifCond .eq 7, 3) := by decide +kernel
theorem dX2_isSecondKind_18 : decode cX2_isSecondKind 18 = .ok (.iconst 1, 1) := by decide +kernel
theorem dX2_isSecondKind_19 : decode cX2_isSecondKind 19 = .ok (.goto 4, 3) := by decide +kernel
theorem dX2_isSecondKind_22 : decode cX2_isSecondKind 22 = .ok (.iconst 0, 1) := by decide +kernel
theorem dX2_isSecondKind_23 : decode cX2_isSecondKind 23 = .ok (.ireturn, 1) := by decide +kernel
theorem dX2_isPlainSecondKind_0 : decode cX2_isPlainSecondKind 0 = .ok (.iload_n 0, 1) := by decide +kernel
theorem dX2_isPlainSecondKind_1 : decode cX2_isPlainSecondKind 1 = .ok (.sipush 256, 3) := by decide +kernel
theorem dX2_isPlainSecondKind_4 : decode cX2_isPlainSecondKind 4 = .ok (.if_icmp .lt 14, 3) := by decide +kernel
theorem dX2_isPlainSecondKind_7 : decode cX2_isPlainSecondKind 7 = .ok (.iload_n 0, 1) := by decide +kernel
theorem dX2_isPlainSecondKind_8 : decode cX2_isPlainSecondKind 8 = .ok (.sipush 259, 3) := by decide +kernel
theorem dX2_isPlainSecondKind_11 : decode cX2_isPlainSecondKind 11 = .ok (.if_icmp .gt 7, 3) := by decide +kernel
theorem dX2_isPlainSecondKind_14 : decode cX2_isPlainSecondKind 14 = .ok (.iconst 1, 1) := by decide +kernel
theorem dX2_isPlainSecondKind_15 : decode cX2_isPlainSecondKind 15 = .ok (.goto 4, 3) := by decide +kernel
theorem dX2_isPlainSecondKind_18 : decode cX2_isPlainSecondKind 18 = .ok (.iconst 0, 1) := by decide +kernel
theorem dX2_isPlainSecondKind_19 : decode cX2_isPlainSecondKind 19 = .ok (.ireturn, 1) := by decide +kernel
set_option maxRecDepth 20000 in
theorem ggX2_channelOfCode_X2_isChannel : GoodIn wsX2_channelOfCode wsX2_isChannel := goodIn_r _ [4] (by decide +kernel) (by decide +kernel)
set_option maxRecDepth 20000 in
theorem gX2_channelOfCode_X2_isChannel : GoodIn wsX2_channelOfCode (va_wsS RX2 42 yX2_isChannel wsX2_isChannel) := goodIn_app (goodIn_of _ (by decide +kernel)) ggX2_channelOfCode_X2_isChannel
theorem dX2_channelOfCode_0 : decode cX2_channelOfCode 0 = .ok (.iload_n 0, 1) := by decide +kernel
theorem dX2_channelOfCode_1 : decode cX2_channelOfCode 1 = .ok (.bipush 49, 2) := by decide +kernel
theorem dX2_channelOfCode_3 : decode cX2_channelOfCode 3 = .ok (.if_icmp .lt 14, 3) := by decide +kernel
theorem dX2_channelOfCode_6 : decode cX2_channelOfCode 6 = .ok (.iload_n 0, 1) := by decide +kernel
theorem dX2_channelOfCode_7 : decode cX2_channelOfCode 7 = .ok (.bipush 57, 2) := by decide +kernel
theorem dX2_channelOfCode_9 : decode cX2_channelOfCode 9 = .ok (.if_icmp .gt 8, 3) := by decide +kernel
theorem dX2_channelOfCode_12 : decode cX2_channelOfCode 12 = .ok (.iload_n 0, 1) := by decide +kernel
theorem dX2_channelOfCode_13 : decode cX2_channelOfCode 13 = .ok (.bipush 48, 2) := by decide +kernel
theorem dX2_channelOfCode_15 : decode cX2_channelOfCode 15 = .ok (.isub, 1) := by decide +kernel
theorem dX2_channelOfCode_16 : decode cX2_channelOfCode 16 = .ok (.ireturn, 1) := by decide +kernel
theorem dX2_channelOfCode_17 : decode cX2_channelOfCode 17 = .ok (.iload_n 0, 1) := by decide +kernel
theorem dX2_channelOfCode_18 : decode cX2_channelOfCode 18 = .ok (.bipush 65, 2) := by decide +kernel
theorem dX2_channelOfCode_20 : decode cX2_channelOfCode 20 = .ok (.if_icmp .lt 17, 3) := by decide +kernel
theorem dX2_channelOfCode_23 : decode cX2_channelOfCode 23 = .ok (.iload_n 0, 1) := by decide +kernel
theorem dX2_channelOfCode_24 : decode cX2_channelOfCode 24 = .ok (.bipush 67, 2) := by decide +kernel
theorem dX2_channelOfCode_26 : decode cX2_channelOfCode 26 = .ok (.if_icmp .gt 11, 3) := by decide +kernel
theorem dX2_channelOfCode_29 : decode cX2_channelOfCode 29 = .ok (.iload_n 0, 1) := by decide +kernel
theorem dX2_channelOfCode_30 : decode cX2_channelOfCode 30 = .ok (.bipush 65, 2) := by decide +kernel
theorem dX2_channelOfCode_32 : decode cX2_channelOfCode 32 = .ok (.isub, 1) := by decide +kernel
theorem dX2_channelOfCode_33 : decode cX2_channelOfCode 33 = .ok (.bipush 10, 2) := by decide +kernel
theorem dX2_channelOfCode_35 : decode cX2_channelOfCode 35 = .ok (.iadd, 1) := by decide +kernel
theorem dX2_channelOfCode_36 : decode cX2_channelOfCode 36 = .ok (.ireturn, 1) := by decide +kernel
theorem dX2_channelOfCode_37 : decode cX2_channelOfCode 37 = .ok (.iload_n 0, 1) := by decide +kernel
theorem dX2_channelOfCode_38 : decode cX2_channelOfCode 38 = .ok (.sipush 272, 3) := by decide +kernel
theorem dX2_channelOfCode_41 : decode cX2_channelOfCode 41 = .ok (.isub, 1) := by decide +kernel
theorem dX2_channelOfCode_42 : decode cX2_channelOfCode 42 = .ok (.istore_n 1, 1) := by decide +kernel
theorem dX2_channelOfCode_43 : decode cX2_channelOfCode 43 = .ok (.iload_n 1, 1) := by decide +kernel
theorem dX2_channelOfCode_44 : decode cX2_channelOfCode 44 = .ok (.invokestatic 42, 3) := by decide +kernel
theorem dX2_channelOfCode_47 : decode cX2_channelOfCode 47 = .ok (.ifCond .eq 7, 3) := by decide +kernel
theorem dX2_channelOfCode_50 : decode cX2_channelOfCode 50 = .ok (.iload_n 1, 1) := by decide +kernel
theorem dX2_channelOfCode_51 : decode cX2_channelOfCode 51 = .ok (.goto 4, 3) := by decide +kernel
theorem dX2_channelOfCode_54 : decode cX2_channelOfCode 54 = .ok (.iconst (-1), 1) := by decide +kernel
theorem dX2_channelOfCode_55 : decode cX2_channelOfCode 55 = .ok (.ireturn, 1) := by decide +kernel
set_option maxRecDepth 20000 in
theorem ggX2_linesOfCode_X2_isPlainSecondKind : GoodIn wsX2_linesOfCode wsX2_isPlainSecondKind := goodIn_r _ [4] (by decide +kernel) (by decide +kernel)
set_option maxRecDepth 20000 in
theorem gX2_linesOfCode_X2_isPlainSecondKind : GoodIn wsX2_linesOfCode (va_wsS RX2 143 yX2_isPlainSecondKind wsX2_isPlainSecondKind) := goodIn_app (goodIn_of _ (by decide +kernel)) ggX2_linesOfCode_X2_isPlainSecondKind
theorem dX2_linesOfCode_0 : decode cX2_linesOfCode 0 = .ok (.iload_n 0, 1) := by decide +kernel
theorem dX2_linesOfCode_1 : decode cX2_linesOfCode 1 = .ok (.invokestatic 143, 3) := by decide +kernel
theorem dX2_linesOfCode_4 : decode cX2_linesOfCode 4 = .ok (.ifCond .eq 9, 3) := by decide +kernel
theorem dX2_linesOfCode_7 : decode cX2_linesOfCode 7 = .ok (.iload_n 0, 1) := by decide +kernel
theorem dX2_linesOfCode_8 : decode cX2_linesOfCode 8 = .ok (.sipush 256, 3) := by decide +kernel
theorem dX2_linesOfCode_11 : decode cX2_linesOfCode 11 = .ok (.isub, 1) := by decide +kernel
theorem dX2_linesOfCode_12 : decode cX2_linesOfCode 12 = .ok (.ireturn, 1) := by decide +kernel
theorem dX2_linesOfCode_13 : decode cX2_linesOfCode 13 = .ok (.iload_n 0, 1) := by decide +kernel
theorem dX2_linesOfCode_14 : decode cX2_linesOfCode 14 = .ok (.lookupswitch 40 #[(43, 34), (45, 38), (48, 36)], 34) := by decide +kernel
theorem dX2_linesOfCode_48 : decode cX2_linesOfCode 48 = .ok (.iconst 0, 1) := by decide +kernel
theorem dX2_linesOfCode_49 : decode cX2_linesOfCode 49 = .ok (.ireturn, 1) := by decide +kernel
theorem dX2_linesOfCode_50 : decode cX2_linesOfCode 50 = .ok (.iconst 2, 1) := by decide +kernel
theorem dX2_linesOfCode_51 : decode cX2_linesOfCode 51 = .ok (.ireturn, 1) := by decide +kernel
theorem dX2_linesOfCode_52 : decode cX2_linesOfCode 52 = .ok (.iconst 3, 1) := by decide +kernel
theorem dX2_linesOfCode_53 : decode cX2_linesOfCode 53 = .ok (.ireturn, 1) := by decide +kernel
theorem dX2_linesOfCode_54 : decode cX2_linesOfCode 54 = .ok (.iconst 1, 1) := by decide +kernel
theorem dX2_linesOfCode_55 : decode cX2_linesOfCode 55 = .ok (.ireturn, 1) := by decide +kernel
set_option maxRecDepth 20000 in
theorem ggX2_wayTo_X2_isChannel : GoodIn wsX2_wayTo wsX2_isChannel := goodIn_r _ [7] (by decide +kernel) (by decide +kernel)
set_option maxRecDepth 20000 in
theorem gX2_wayTo_X2_isChannel : GoodIn wsX2_wayTo (va_wsS RX2 42 yX2_isChannel wsX2_isChannel) := goodIn_app (goodIn_of _ (by decide +kernel)) ggX2_wayTo_X2_isChannel
theorem dX2_wayTo_0 : decode cX2_wayTo 0 = .ok (.iload_n 1, 1) := by decide +kernel
theorem dX2_wayTo_1 : decode cX2_wayTo 1 = .ok (.invokestatic 42, 3) := by decide +kernel
theorem dX2_wayTo_4 : decode cX2_wayTo 4 = .ok (.ifCond .eq 12, 3) := by decide +kernel
theorem dX2_wayTo_7 : decode cX2_wayTo 7 = .ok (.aload_n 0, 1) := by decide +kernel
theorem dX2_wayTo_8 : decode cX2_wayTo 8 = .ok (.getfield 20, 3) := by decide +kernel
theorem dX2_wayTo_11 : decode cX2_wayTo 11 = .ok (.iload_n 1, 1) := by decide +kernel
theorem dX2_wayTo_12 : decode cX2_wayTo 12 = .ok (.iaload, 1) := by decide +kernel
theorem dX2_wayTo_13 : decode cX2_wayTo 13 = .ok (.goto 4, 3) := by decide +kernel
theorem dX2_wayTo_16 : decode cX2_wayTo 16 = .ok (.iconst (-1), 1) := by decide +kernel
theorem dX2_wayTo_17 : decode cX2_wayTo 17 = .ok (.istore_n 2, 1) := by decide +kernel
theorem dX2_wayTo_18 : decode cX2_wayTo 18 = .ok (.iload_n 2, 1) := by decide +kernel
theorem dX2_wayTo_19 : decode cX2_wayTo 19 = .ok (.iconst (-1), 1) := by decide +kernel
theorem dX2_wayTo_20 : decode cX2_wayTo 20 = .ok (.if_icmp .ne 8, 3) := by decide +kernel
theorem dX2_wayTo_23 : decode cX2_wayTo 23 = .ok (.aload_n 0, 1) := by decide +kernel
theorem dX2_wayTo_24 : decode cX2_wayTo 24 = .ok (.getfield 13, 3) := by decide +kernel
theorem dX2_wayTo_27 : decode cX2_wayTo 27 = .ok (.ireturn, 1) := by decide +kernel
theorem dX2_wayTo_28 : decode cX2_wayTo 28 = .ok (.iload_n 2, 1) := by decide +kernel
theorem dX2_wayTo_29 : decode cX2_wayTo 29 = .ok (.aload_n 0, 1) := by decide +kernel
theorem dX2_wayTo_30 : decode cX2_wayTo 30 = .ok (.getfield 125, 3) := by decide +kernel
theorem dX2_wayTo_33 : decode cX2_wayTo 33 = .ok (.if_icmp .le 12, 3) := by decide +kernel
theorem dX2_wayTo_36 : decode cX2_wayTo 36 = .ok (.iload_n 2, 1) := by decide +kernel
theorem dX2_wayTo_37 : decode cX2_wayTo 37 = .ok (.aload_n 0, 1) := by decide +kernel
theorem dX2_wayTo_38 : decode cX2_wayTo 38 = .ok (.getfield 125, 3) := by decide +kernel
theorem dX2_wayTo_41 : decode cX2_wayTo 41 = .ok (.isub, 1) := by decide +kernel
theorem dX2_wayTo_42 : decode cX2_wayTo 42 = .ok (.goto 14, 3) := by decide +kernel
theorem dX2_wayTo_45 : decode cX2_wayTo 45 = .ok (.iload_n 2, 1) := by decide +kernel
theorem dX2_wayTo_46 : decode cX2_wayTo 46 = .ok (.aload_n 0, 1) := by decide +kernel
theorem dX2_wayTo_47 : decode cX2_wayTo 47 = .ok (.getfield 125, 3) := by decide +kernel
theorem dX2_wayTo_50 : decode cX2_wayTo 50 = .ok (.isub, 1) := by decide +kernel
theorem dX2_wayTo_51 : decode cX2_wayTo 51 = .ok (.aload_n 0, 1) := by decide +kernel
theorem dX2_wayTo_52 : decode cX2_wayTo 52 = .ok (.getfield 13, 3) := by decide +kernel
theorem dX2_wayTo_55 : decode cX2_wayTo 55 = .ok (.iadd, 1) := by decide +kernel
theorem dX2_wayTo_56 : decode cX2_wayTo 56 = .ok (.ireturn, 1) := by decide +kernel
set_option maxRecDepth 20000 in
theorem ggX2_countSkip_X2_isChannel : GoodIn wsX2_countSkip wsX2_isChannel := goodIn_r _ [6] (by decide +kernel) (by decide +kernel)
set_option maxRecDepth 20000 in
theorem gX2_countSkip_X2_isChannel : GoodIn wsX2_countSkip (va_wsS RX2 42 yX2_isChannel wsX2_isChannel) := goodIn_app (goodIn_of _ (by decide +kernel)) ggX2_countSkip_X2_isChannel
theorem dX2_countSkip_0 : decode cX2_countSkip 0 = .ok (.iload_n 1, 1) := by decide +kernel
theorem dX2_countSkip_1 : decode cX2_countSkip 1 = .ok (.invokestatic 42, 3) := by decide +kernel
theorem dX2_countSkip_4 : decode cX2_countSkip 4 = .ok (.ifCond .eq 23, 3) := by decide +kernel
theorem dX2_countSkip_7 : decode cX2_countSkip 7 = .ok (.aload_n 0, 1) := by decide +kernel
theorem dX2_countSkip_8 : decode cX2_countSkip 8 = .ok (.getfield 20, 3) := by decide +kernel
theorem dX2_countSkip_11 : decode cX2_countSkip 11 = .ok (.iload_n 1, 1) := by decide +kernel
theorem dX2_countSkip_12 : decode cX2_countSkip 12 = .ok (.iaload, 1) := by decide +kernel
theorem dX2_countSkip_13 : decode cX2_countSkip 13 = .ok (.iconst (-1), 1) := by decide +kernel
theorem dX2_countSkip_14 : decode cX2_countSkip 14 = .ok (.if_icmp .ne 13, 3) := by decide +kernel
theorem dX2_countSkip_17 : decode cX2_countSkip 17 = .ok (.aload_n 0, 1) := by decide +kernel
theorem dX2_countSkip_18 : decode cX2_countSkip 18 = .ok (.dup, 1) := by decide +kernel
theorem dX2_countSkip_19 : decode cX2_countSkip 19 = .ok (.getfield 137, 3) := by decide +kernel
theorem dX2_countSkip_22 : decode cX2_countSkip 22 = .ok (.iconst 1, 1) := by decide +kernel
theorem dX2_countSkip_23 : decode cX2_countSkip 23 = .ok (.iadd, 1) := by decide +kernel
theorem dX2_countSkip_24 : decode cX2_countSkip 24 = .ok (.putfield 137, 3) := by decide +kernel
theorem dX2_countSkip_27 : decode cX2_countSkip 27 = .ok (.return_, 1) := by decide +kernel
theorem dX2_standPage_0 : decode cX2_standPage 0 = .ok (.aload_n 0, 1) := by decide +kernel
theorem dX2_standPage_1 : decode cX2_standPage 1 = .ok (.getfield 146, 3) := by decide +kernel
theorem dX2_standPage_4 : decode cX2_standPage 4 = .ok (.ifCond .eq 12, 3) := by decide +kernel
theorem dX2_standPage_7 : decode cX2_standPage 7 = .ok (.aload_n 0, 1) := by decide +kernel
theorem dX2_standPage_8 : decode cX2_standPage 8 = .ok (.getfield 86, 3) := by decide +kernel
theorem dX2_standPage_11 : decode cX2_standPage 11 = .ok (.iconst 1, 1) := by decide +kernel
theorem dX2_standPage_12 : decode cX2_standPage 12 = .ok (.isub, 1) := by decide +kernel
theorem dX2_standPage_13 : decode cX2_standPage 13 = .ok (.goto 7, 3) := by decide +kernel
theorem dX2_standPage_16 : decode cX2_standPage 16 = .ok (.aload_n 0, 1) := by decide +kernel
theorem dX2_standPage_17 : decode cX2_standPage 17 = .ok (.getfield 86, 3) := by decide +kernel
theorem dX2_standPage_20 : decode cX2_standPage 20 = .ok (.ireturn, 1) := by decide +kernel
set_option maxRecDepth 20000 in
theorem ggX2_pageAfter_X2_standPage : GoodIn wsX2_pageAfter wsX2_standPage := goodIn_r _ [11, 12, 13, 14, 15, 16, 17, 18, 19, 20, 21, 22, 23, 24, 25, 26, 27, 28, 29] (by decide +kernel) (by decide +kernel)
set_option maxRecDepth 20000 in
theorem gX2_pageAfter_X2_standPage : GoodIn wsX2_pageAfter (wsV RX2 150 RX2 yX2_standPage wsX2_standPage) := goodIn_app (goodIn_of _ (by decide +kernel)) ggX2_pageAfter_X2_standPage
theorem dX2_pageAfter_0 : decode cX2_pageAfter 0 = .ok (.iconst 1, 1) := by decide +kernel
theorem dX2_pageAfter_1 : decode cX2_pageAfter 1 = .ok (.aload_n 0, 1) := by decide +kernel
theorem dX2_pageAfter_2 : decode cX2_pageAfter 2 = .ok (.getfield 13, 3) := by decide +kernel
theorem dX2_pageAfter_5 : decode cX2_pageAfter 5 = .ok (.invokestatic 54, 3) := by decide +kernel
theorem dX2_pageAfter_8 : decode cX2_pageAfter 8 = .ok (.istore_n 2, 1) := by decide +kernel
theorem dX2_pageAfter_9 : decode cX2_pageAfter 9 = .ok (.aload_n 0, 1) := by decide +kernel
theorem dX2_pageAfter_10 : decode cX2_pageAfter 10 = .ok (.invokevirtual 150, 3) := by decide +kernel
theorem dX2_pageAfter_13 : decode cX2_pageAfter 13 = .ok (.aload_n 0, 1) := by decide +kernel
theorem dX2_pageAfter_14 : decode cX2_pageAfter 14 = .ok (.getfield 125, 3) := by decide +kernel
theorem dX2_pageAfter_17 : decode cX2_pageAfter 17 = .ok (.iload_n 1, 1) := by decide +kernel
theorem dX2_pageAfter_18 : decode cX2_pageAfter 18 = .ok (.iadd, 1) := by decide +kernel
theorem dX2_pageAfter_19 : decode cX2_pageAfter 19 = .ok (.iload_n 2, 1) := by decide +kernel
theorem dX2_pageAfter_20 : decode cX2_pageAfter 20 = .ok (.idiv, 1) := by decide +kernel
theorem dX2_pageAfter_21 : decode cX2_pageAfter 21 = .ok (.iadd, 1) := by decide +kernel
theorem dX2_pageAfter_22 : decode cX2_pageAfter 22 = .ok (.ireturn, 1) := by decide +kernel
set_option maxRecDepth 20000 in
theorem ggX2_endsOnAPage_X2_pageAfter : GoodIn wsX2_endsOnAPage wsX2_pageAfter := goodIn_r _ [5, 6, 7, 8, 9, 10, 11, 12, 13, 14, 4, 15, 16, 17, 18, 19, 20, 21, 22, 23, 24, 25, 26, 27, 28, 29, 30, 31, 32, 33] (by decide +kernel) (by decide +kernel)
set_option maxRecDepth 20000 in
theorem gX2_endsOnAPage_X2_pageAfter : GoodIn wsX2_endsOnAPage (wsV RX2 154 RX2 yX2_pageAfter wsX2_pageAfter) := goodIn_app (goodIn_of _ (by decide +kernel)) ggX2_endsOnAPage_X2_pageAfter
theorem dX2_endsOnAPage_0 : decode cX2_endsOnAPage 0 = .ok (.aload_n 0, 1) := by decide +kernel
theorem dX2_endsOnAPage_1 : decode cX2_endsOnAPage 1 = .ok (.iload_n 1, 1) := by decide +kernel
theorem dX2_endsOnAPage_2 : decode cX2_endsOnAPage 2 = .ok (.invokevirtual 154, 3) := by decide +kernel
theorem dX2_endsOnAPage_5 : decode cX2_endsOnAPage 5 = .ok (.bipush 40, 2) := by decide +kernel
theorem dX2_endsOnAPage_7 : decode cX2_endsOnAPage 7 = .ok (.if_icmp .ge 7, 3) := by decide +kernel
theorem dX2_endsOnAPage_10 : decode cX2_endsOnAPage 10 = .ok (.iconst 1, 1) := by decide +kernel
theorem dX2_endsOnAPage_11 : decode cX2_endsOnAPage 11 = .ok (.goto 4, 3) := by decide +kernel
theorem dX2_endsOnAPage_14 : decode cX2_endsOnAPage 14 = .ok (.iconst 0, 1) := by decide +kernel
theorem dX2_endsOnAPage_15 : decode cX2_endsOnAPage 15 = .ok (.ireturn, 1) := by decide +kernel
set_option maxRecDepth 20000 in
theorem ggX2_endsAtMostBehindThem_X2_pageAfter : GoodIn wsX2_endsAtMostBehindThem wsX2_pageAfter := goodIn_r _ [5, 6, 7, 8, 9, 10, 11, 12, 13, 14, 4, 15, 16, 17, 18, 19, 20, 21, 22, 23, 24, 25, 26, 27, 28, 29, 30, 31, 32, 33] (by decide +kernel) (by decide +kernel)
set_option maxRecDepth 20000 in
theorem gX2_endsAtMostBehindThem_X2_pageAfter : GoodIn wsX2_endsAtMostBehindThem (wsV RX2 154 RX2 yX2_pageAfter wsX2_pageAfter) := goodIn_app (goodIn_of _ (by decide +kernel)) ggX2_endsAtMostBehindThem_X2_pageAfter
theorem dX2_endsAtMostBehindThem_0 : decode cX2_endsAtMostBehindThem 0 = .ok (.aload_n 0, 1) := by decide +kernel
theorem dX2_endsAtMostBehindThem_1 : decode cX2_endsAtMostBehindThem 1 = .ok (.iload_n 1, 1) := by decide +kernel
theorem dX2_endsAtMostBehindThem_2 : decode cX2_endsAtMostBehindThem 2 = .ok (.invokevirtual 154, 3) := by decide +kernel
theorem dX2_endsAtMostBehindThem_5 : decode cX2_endsAtMostBehindThem 5 = .ok (.bipush 40, 2) := by decide +kernel
theorem dX2_endsAtMostBehindThem_7 : decode cX2_endsAtMostBehindThem 7 = .ok (.if_icmp .gt 7, 3) := by decide +kernel
theorem dX2_endsAtMostBehindThem_10 : decode cX2_endsAtMostBehindThem 10 = .ok (.iconst 1, 1) := by decide +kernel
theorem dX2_endsAtMostBehindThem_11 : decode cX2_endsAtMostBehindThem 11 = .ok (.goto 4, 3) := by decide +kernel
theorem dX2_endsAtMostBehindThem_14 : decode cX2_endsAtMostBehindThem 14 = .ok (.iconst 0, 1) := by decide +kernel
theorem dX2_endsAtMostBehindThem_15 : decode cX2_endsAtMostBehindThem 15 = .ok (.ireturn, 1) := by decide +kernel
set_option maxRecDepth 20000 in
theorem ggX2_moveBy_X2_beginPage : GoodIn wsX2_moveBy wsX2_beginPage := goodIn_r _ [7, 8, 9, 10, 11, 2, 12, 13, 14, 15, 16, 17, 18, 19, 20, 21, 22, 23, 24, 25, 26, 27, 28, 6, 29, 30, 31, 36, 37, 38, 39, 40, 41, 42, 43, 44, 45, 46, 47, 48, 49, 50, 51, 52, 53] (by decide +kernel) (by decide +kernel)
set_option maxRecDepth 20000 in
theorem gX2_moveBy_X2_beginPage : GoodIn wsX2_moveBy (wsV RX2 157 RX2 yX2_beginPage wsX2_beginPage) := goodIn_app (goodIn_of _ (by decide +kernel)) ggX2_moveBy_X2_beginPage
set_option maxRecDepth 20000 in
theorem ggX2_moveBy_X2_standOnNewPage : GoodIn wsX2_moveBy wsX2_standOnNewPage := goodIn_r _ [35, 8, 1, 36, 37, 38, 39, 40, 41, 42, 43, 44, 45, 46, 47, 48, 49, 50, 51] (by decide +kernel) (by decide +kernel)
set_option maxRecDepth 20000 in
theorem gX2_moveBy_X2_standOnNewPage : GoodIn wsX2_moveBy (wsV RX2 89 RX2 yX2_standOnNewPage wsX2_standOnNewPage) := goodIn_app (goodIn_of _ (by decide +kernel)) ggX2_moveBy_X2_standOnNewPage
theorem dX2_moveBy_0 : decode cX2_moveBy 0 = .ok (.iconst 0, 1) := by decide +kernel
theorem dX2_moveBy_1 : decode cX2_moveBy 1 = .ok (.istore_n 2, 1) := by decide +kernel
theorem dX2_moveBy_2 : decode cX2_moveBy 2 = .ok (.iload_n 2, 1) := by decide +kernel
theorem dX2_moveBy_3 : decode cX2_moveBy 3 = .ok (.iload_n 1, 1) := by decide +kernel
theorem dX2_moveBy_4 : decode cX2_moveBy 4 = .ok (.if_icmp .ge 43, 3) := by decide +kernel
theorem dX2_moveBy_7 : decode cX2_moveBy 7 = .ok (.aload_n 0, 1) := by decide +kernel
theorem dX2_moveBy_8 : decode cX2_moveBy 8 = .ok (.getfield 125, 3) := by decide +kernel
theorem dX2_moveBy_11 : decode cX2_moveBy 11 = .ok (.iconst 1, 1) := by decide +kernel
theorem dX2_moveBy_12 : decode cX2_moveBy 12 = .ok (.iadd, 1) := by decide +kernel
theorem dX2_moveBy_13 : decode cX2_moveBy 13 = .ok (.aload_n 0, 1) := by decide +kernel
theorem dX2_moveBy_14 : decode cX2_moveBy 14 = .ok (.getfield 13, 3) := by decide +kernel
theorem dX2_moveBy_17 : decode cX2_moveBy 17 = .ok (.if_icmp .ge 16, 3) := by decide +kernel
theorem dX2_moveBy_20 : decode cX2_moveBy 20 = .ok (.aload_n 0, 1) := by decide +kernel
theorem dX2_moveBy_21 : decode cX2_moveBy 21 = .ok (.dup, 1) := by decide +kernel
theorem dX2_moveBy_22 : decode cX2_moveBy 22 = .ok (.getfield 125, 3) := by decide +kernel
theorem dX2_moveBy_25 : decode cX2_moveBy 25 = .ok (.iconst 1, 1) := by decide +kernel
theorem dX2_moveBy_26 : decode cX2_moveBy 26 = .ok (.iadd, 1) := by decide +kernel
theorem dX2_moveBy_27 : decode cX2_moveBy 27 = .ok (.putfield 125, 3) := by decide +kernel
theorem dX2_moveBy_30 : decode cX2_moveBy 30 = .ok (.goto 11, 3) := by decide +kernel
theorem dX2_moveBy_33 : decode cX2_moveBy 33 = .ok (.aload_n 0, 1) := by decide +kernel
theorem dX2_moveBy_34 : decode cX2_moveBy 34 = .ok (.invokevirtual 157, 3) := by decide +kernel
theorem dX2_moveBy_37 : decode cX2_moveBy 37 = .ok (.aload_n 0, 1) := by decide +kernel
theorem dX2_moveBy_38 : decode cX2_moveBy 38 = .ok (.invokevirtual 89, 3) := by decide +kernel
theorem dX2_moveBy_41 : decode cX2_moveBy 41 = .ok (.iinc 2 1, 3) := by decide +kernel
theorem dX2_moveBy_44 : decode cX2_moveBy 44 = .ok (.goto (-42), 3) := by decide +kernel
theorem dX2_moveBy_47 : decode cX2_moveBy 47 = .ok (.return_, 1) := by decide +kernel
theorem dX2_standOnNewPage_0 : decode cX2_standOnNewPage 0 = .ok (.aload_n 0, 1) := by decide +kernel
theorem dX2_standOnNewPage_1 : decode cX2_standOnNewPage 1 = .ok (.iconst 0, 1) := by decide +kernel
theorem dX2_standOnNewPage_2 : decode cX2_standOnNewPage 2 = .ok (.putfield 146, 3) := by decide +kernel
theorem dX2_standOnNewPage_5 : decode cX2_standOnNewPage 5 = .ok (.aload_n 0, 1) := by decide +kernel
theorem dX2_standOnNewPage_6 : decode cX2_standOnNewPage 6 = .ok (.iconst 0, 1) := by decide +kernel
theorem dX2_standOnNewPage_7 : decode cX2_standOnNewPage 7 = .ok (.putfield 125, 3) := by decide +kernel
theorem dX2_standOnNewPage_10 : decode cX2_standOnNewPage 10 = .ok (.return_, 1) := by decide +kernel
set_option maxRecDepth 20000 in
theorem ggX2_beginPage_X0_init : GoodIn wsX2_beginPage wsX0_init := goodIn_r _ [9, 10, 11, 12, 13, 14, 15, 16, 17, 18, 19, 43, 44] (by decide +kernel) (by decide +kernel)
set_option maxRecDepth 20000 in
theorem gX2_beginPage_X0_init : GoodIn wsX2_beginPage (wsX0_init) := ggX2_beginPage_X0_init
set_option maxRecDepth 20000 in
theorem ggX2_beginPage_X2_addPage : GoodIn wsX2_beginPage wsX2_addPage := goodIn_r _ [24, 25, 26, 27, 28, 29, 30, 31, 32, 33, 34, 35, 36, 37, 38, 39, 40, 41, 42] (by decide +kernel) (by decide +kernel)
set_option maxRecDepth 20000 in
theorem gX2_beginPage_X2_addPage : GoodIn wsX2_beginPage (wsV RX2 112 RX2 yX2_addPage wsX2_addPage) := goodIn_app (goodIn_of _ (by decide +kernel)) ggX2_beginPage_X2_addPage
theorem dX2_beginPage_0 : decode cX2_beginPage 0 = .ok (.aload_n 0, 1) := by decide +kernel
theorem dX2_beginPage_1 : decode cX2_beginPage 1 = .ok (.getfield 146, 3) := by decide +kernel
theorem dX2_beginPage_4 : decode cX2_beginPage 4 = .ok (.ifCond .ne 27, 3) := by decide +kernel
theorem dX2_beginPage_7 : decode cX2_beginPage 7 = .ok (.aload_n 0, 1) := by decide +kernel
theorem dX2_beginPage_8 : decode cX2_beginPage 8 = .ok (.new 36, 3) := by decide +kernel
theorem dX2_beginPage_11 : decode cX2_beginPage 11 = .ok (.dup, 1) := by decide +kernel
theorem dX2_beginPage_12 : decode cX2_beginPage 12 = .ok (.aload_n 0, 1) := by decide +kernel
theorem dX2_beginPage_13 : decode cX2_beginPage 13 = .ok (.getfield 13, 3) := by decide +kernel
theorem dX2_beginPage_16 : decode cX2_beginPage 16 = .ok (.aload_n 0, 1) := by decide +kernel
theorem dX2_beginPage_17 : decode cX2_beginPage 17 = .ok (.getfield 17, 3) := by decide +kernel
theorem dX2_beginPage_20 : decode cX2_beginPage 20 = .ok (.invokespecial 160, 3) := by decide +kernel
theorem dX2_beginPage_23 : decode cX2_beginPage 23 = .ok (.invokevirtual 112, 3) := by decide +kernel
theorem dX2_beginPage_26 : decode cX2_beginPage 26 = .ok (.aload_n 0, 1) := by decide +kernel
theorem dX2_beginPage_27 : decode cX2_beginPage 27 = .ok (.iconst 1, 1) := by decide +kernel
theorem dX2_beginPage_28 : decode cX2_beginPage 28 = .ok (.putfield 146, 3) := by decide +kernel
theorem dX2_beginPage_31 : decode cX2_beginPage 31 = .ok (.return_, 1) := by decide +kernel
theorem dX2_addPage_0 : decode cX2_addPage 0 = .ok (.aload_n 0, 1) := by decide +kernel
theorem dX2_addPage_1 : decode cX2_addPage 1 = .ok (.getfield 86, 3) := by decide +kernel
theorem dX2_addPage_4 : decode cX2_addPage 4 = .ok (.ifCond .lt 35, 3) := by decide +kernel
theorem dX2_addPage_7 : decode cX2_addPage 7 = .ok (.aload_n 0, 1) := by decide +kernel
theorem dX2_addPage_8 : decode cX2_addPage 8 = .ok (.getfield 86, 3) := by decide +kernel
theorem dX2_addPage_11 : decode cX2_addPage 11 = .ok (.aload_n 0, 1) := by decide +kernel
theorem dX2_addPage_12 : decode cX2_addPage 12 = .ok (.getfield 38, 3) := by decide +kernel
theorem dX2_addPage_15 : decode cX2_addPage 15 = .ok (.arraylength, 1) := by decide +kernel
theorem dX2_addPage_16 : decode cX2_addPage 16 = .ok (.if_icmp .ge 23, 3) := by decide +kernel
theorem dX2_addPage_19 : decode cX2_addPage 19 = .ok (.aload_n 0, 1) := by decide +kernel
theorem dX2_addPage_20 : decode cX2_addPage 20 = .ok (.getfield 38, 3) := by decide +kernel
theorem dX2_addPage_23 : decode cX2_addPage 23 = .ok (.aload_n 0, 1) := by decide +kernel
theorem dX2_addPage_24 : decode cX2_addPage 24 = .ok (.getfield 86, 3) := by decide +kernel
theorem dX2_addPage_27 : decode cX2_addPage 27 = .ok (.aload_n 1, 1) := by decide +kernel
theorem dX2_addPage_28 : decode cX2_addPage 28 = .ok (.aastore, 1) := by decide +kernel
theorem dX2_addPage_29 : decode cX2_addPage 29 = .ok (.aload_n 0, 1) := by decide +kernel
theorem dX2_addPage_30 : decode cX2_addPage 30 = .ok (.dup, 1) := by decide +kernel
theorem dX2_addPage_31 : decode cX2_addPage 31 = .ok (.getfield 86, 3) := by decide +kernel
theorem dX2_addPage_34 : decode cX2_addPage 34 = .ok (.iconst 1, 1) := by decide +kernel
theorem dX2_addPage_35 : decode cX2_addPage 35 = .ok (.iadd, 1) := by decide +kernel
theorem dX2_addPage_36 : decode cX2_addPage 36 = .ok (.putfield 86, 3) := by decide +kernel
theorem dX2_addPage_39 : decode cX2_addPage 39 = .ok (.return_, 1) := by decide +kernel
theorem dX2_takeLastPage_0 : decode cX2_takeLastPage 0 = .ok (.aload_n 0, 1) := by decide +kernel
theorem dX2_takeLastPage_1 : decode cX2_takeLastPage 1 = .ok (.getfield 86, 3) := by decide +kernel
theorem dX2_takeLastPage_4 : decode cX2_takeLastPage 4 = .ok (.ifCond .le 35, 3) := by decide +kernel
theorem dX2_takeLastPage_7 : decode cX2_takeLastPage 7 = .ok (.aload_n 0, 1) := by decide +kernel
theorem dX2_takeLastPage_8 : decode cX2_takeLastPage 8 = .ok (.getfield 86, 3) := by decide +kernel
theorem dX2_takeLastPage_11 : decode cX2_takeLastPage 11 = .ok (.aload_n 0, 1) := by decide +kernel
theorem dX2_takeLastPage_12 : decode cX2_takeLastPage 12 = .ok (.getfield 38, 3) := by decide +kernel
theorem dX2_takeLastPage_15 : decode cX2_takeLastPage 15 = .ok (.arraylength, 1) := by decide +kernel
theorem dX2_takeLastPage_16 : decode cX2_takeLastPage 16 = .ok (.if_icmp .gt 23, 3) := by decide +kernel
theorem dX2_takeLastPage_19 : decode cX2_takeLastPage 19 = .ok (.aload_n 0, 1) := by decide +kernel
theorem dX2_takeLastPage_20 : decode cX2_takeLastPage 20 = .ok (.dup, 1) := by decide +kernel
theorem dX2_takeLastPage_21 : decode cX2_takeLastPage 21 = .ok (.getfield 86, 3) := by decide +kernel
theorem dX2_takeLastPage_24 : decode cX2_takeLastPage 24 = .ok (.iconst 1, 1) := by decide +kernel
theorem dX2_takeLastPage_25 : decode cX2_takeLastPage 25 = .ok (.isub, 1) := by decide +kernel
theorem dX2_takeLastPage_26 : decode cX2_takeLastPage 26 = .ok (.putfield 86, 3) := by decide +kernel
theorem dX2_takeLastPage_29 : decode cX2_takeLastPage 29 = .ok (.aload_n 0, 1) := by decide +kernel
theorem dX2_takeLastPage_30 : decode cX2_takeLastPage 30 = .ok (.getfield 38, 3) := by decide +kernel
theorem dX2_takeLastPage_33 : decode cX2_takeLastPage 33 = .ok (.aload_n 0, 1) := by decide +kernel
theorem dX2_takeLastPage_34 : decode cX2_takeLastPage 34 = .ok (.getfield 86, 3) := by decide +kernel
theorem dX2_takeLastPage_37 : decode cX2_takeLastPage 37 = .ok (.aconst_null, 1) := by decide +kernel
theorem dX2_takeLastPage_38 : decode cX2_takeLastPage 38 = .ok (.aastore, 1) := by decide +kernel
theorem dX2_takeLastPage_39 : decode cX2_takeLastPage 39 = .ok (.return_, 1) := by decide +kernel
theorem dX2_begunPage_0 : decode cX2_begunPage 0 = .ok (.iload_n 1, 1) := by decide +kernel
theorem dX2_begunPage_1 : decode cX2_begunPage 1 = .ok (.ifCond .lt 29, 3) := by decide +kernel
theorem dX2_begunPage_4 : decode cX2_begunPage 4 = .ok (.iload_n 1, 1) := by decide +kernel
theorem dX2_begunPage_5 : decode cX2_begunPage 5 = .ok (.aload_n 0, 1) := by decide +kernel
theorem dX2_begunPage_6 : decode cX2_begunPage 6 = .ok (.getfield 86, 3) := by decide +kernel
theorem dX2_begunPage_9 : decode cX2_begunPage 9 = .ok (.if_icmp .ge 21, 3) := by decide +kernel
theorem dX2_begunPage_12 : decode cX2_begunPage 12 = .ok (.iload_n 1, 1) := by decide +kernel
theorem dX2_begunPage_13 : decode cX2_begunPage 13 = .ok (.aload_n 0, 1) := by decide +kernel
theorem dX2_begunPage_14 : decode cX2_begunPage 14 = .ok (.getfield 38, 3) := by decide +kernel
theorem dX2_begunPage_17 : decode cX2_begunPage 17 = .ok (.arraylength, 1) := by decide +kernel
theorem dX2_begunPage_18 : decode cX2_begunPage 18 = .ok (.if_icmp .ge 12, 3) := by decide +kernel
theorem dX2_begunPage_21 : decode cX2_begunPage 21 = .ok (.aload_n 0, 1) := by decide +kernel
theorem dX2_begunPage_22 : decode cX2_begunPage 22 = .ok (.getfield 38, 3) := by decide +kernel
theorem dX2_begunPage_25 : decode cX2_begunPage 25 = .ok (.iload_n 1, 1) := by decide +kernel
theorem dX2_begunPage_26 : decode cX2_begunPage 26 = .ok (.aaload, 1) := by decide +kernel
theorem dX2_begunPage_27 : decode cX2_begunPage 27 = .ok (.goto 4, 3) := by decide +kernel
theorem dX2_begunPage_30 : decode cX2_begunPage 30 = .ok (.aconst_null, 1) := by decide +kernel
theorem dX2_begunPage_31 : decode cX2_begunPage 31 = .ok (.areturn, 1) := by decide +kernel
set_option maxRecDepth 20000 in
theorem ggX2_printRecord_X2_beginPage : GoodIn wsX2_printRecord wsX2_beginPage := goodIn_r _ [11, 12, 13, 14, 15, 16, 4, 17, 18, 19, 20, 21, 22, 23, 24, 25, 26, 27, 28, 29, 30, 31, 32, 10, 33, 1, 34, 73, 74, 75, 76, 77, 78, 79, 80, 81, 82, 83, 84, 85, 86, 87, 88, 89, 90] (by decide +kernel) (by decide +kernel)
set_option maxRecDepth 20000 in
theorem gX2_printRecord_X2_beginPage : GoodIn wsX2_printRecord (wsV RX2 157 RX2 yX2_beginPage wsX2_beginPage) := goodIn_app (goodIn_of _ (by decide +kernel)) ggX2_printRecord_X2_beginPage
set_option maxRecDepth 20000 in
theorem ggX2_printRecord_X2_begunPage : GoodIn wsX2_printRecord wsX2_begunPage := goodIn_r _ [38, 1, 34, 73, 74, 75, 76, 77, 78, 79, 80, 81, 82, 83, 84, 85, 86, 87, 88] (by decide +kernel) (by decide +kernel)
set_option maxRecDepth 20000 in
theorem gX2_printRecord_X2_begunPage : GoodIn wsX2_printRecord (wsV RX2 92 RX2 yX2_begunPage wsX2_begunPage) := goodIn_app (goodIn_of _ (by decide +kernel)) ggX2_printRecord_X2_begunPage
set_option maxRecDepth 20000 in
theorem ggX2_printRecord_X2_printSign : GoodIn wsX2_printRecord wsX2_printSign := goodIn_r _ [42, 43, 44, 45, 46, 47, 10, 48, 49, 50, 51, 15, 52, 28, 27, 53, 54, 29, 55, 56, 57, 58, 21, 22, 59, 24, 25, 26, 60, 61, 62, 63, 64, 65, 66, 67, 68, 69, 70, 71, 72, 73, 74, 75, 76, 77, 78, 79, 80, 81, 82, 83, 84, 85, 86, 87, 88, 89, 90, 91] (by decide +kernel) (by decide +kernel)
set_option maxRecDepth 20000 in
theorem gX2_printRecord_X2_printSign : GoodIn wsX2_printRecord (wsV RX2 163 RX2 yX2_printSign wsX2_printSign) := goodIn_app (goodIn_of _ (by decide +kernel)) ggX2_printRecord_X2_printSign
theorem dX2_printRecord_0 : decode cX2_printRecord 0 = .ok (.aload_n 0, 1) := by decide +kernel
theorem dX2_printRecord_1 : decode cX2_printRecord 1 = .ok (.invokevirtual 157, 3) := by decide +kernel
theorem dX2_printRecord_4 : decode cX2_printRecord 4 = .ok (.aload_n 0, 1) := by decide +kernel
theorem dX2_printRecord_5 : decode cX2_printRecord 5 = .ok (.aload_n 0, 1) := by decide +kernel
theorem dX2_printRecord_6 : decode cX2_printRecord 6 = .ok (.getfield 86, 3) := by decide +kernel
theorem dX2_printRecord_9 : decode cX2_printRecord 9 = .ok (.iconst 1, 1) := by decide +kernel
theorem dX2_printRecord_10 : decode cX2_printRecord 10 = .ok (.isub, 1) := by decide +kernel
theorem dX2_printRecord_11 : decode cX2_printRecord 11 = .ok (.invokevirtual 92, 3) := by decide +kernel
theorem dX2_printRecord_14 : decode cX2_printRecord 14 = .ok (.astore_n 1, 1) := by decide +kernel
theorem dX2_printRecord_15 : decode cX2_printRecord 15 = .ok (.iconst 0, 1) := by decide +kernel
theorem dX2_printRecord_16 : decode cX2_printRecord 16 = .ok (.istore_n 2, 1) := by decide +kernel
theorem dX2_printRecord_17 : decode cX2_printRecord 17 = .ok (.iload_n 2, 1) := by decide +kernel
theorem dX2_printRecord_18 : decode cX2_printRecord 18 = .ok (.aload_n 0, 1) := by decide +kernel
theorem dX2_printRecord_19 : decode cX2_printRecord 19 = .ok (.getfield 46, 3) := by decide +kernel
theorem dX2_printRecord_22 : decode cX2_printRecord 22 = .ok (.if_icmp .ge 55, 3) := by decide +kernel
theorem dX2_printRecord_25 : decode cX2_printRecord 25 = .ok (.iload_n 2, 1) := by decide +kernel
theorem dX2_printRecord_26 : decode cX2_printRecord 26 = .ok (.aload_n 0, 1) := by decide +kernel
theorem dX2_printRecord_27 : decode cX2_printRecord 27 = .ok (.getfield 33, 3) := by decide +kernel
theorem dX2_printRecord_30 : decode cX2_printRecord 30 = .ok (.arraylength, 1) := by decide +kernel
theorem dX2_printRecord_31 : decode cX2_printRecord 31 = .ok (.if_icmp .ge 46, 3) := by decide +kernel
theorem dX2_printRecord_34 : decode cX2_printRecord 34 = .ok (.iload_n 2, 1) := by decide +kernel
theorem dX2_printRecord_35 : decode cX2_printRecord 35 = .ok (.aload_n 0, 1) := by decide +kernel
theorem dX2_printRecord_36 : decode cX2_printRecord 36 = .ok (.getfield 17, 3) := by decide +kernel
theorem dX2_printRecord_39 : decode cX2_printRecord 39 = .ok (.if_icmp .lt 16, 3) := by decide +kernel
theorem dX2_printRecord_42 : decode cX2_printRecord 42 = .ok (.aload_n 0, 1) := by decide +kernel
theorem dX2_printRecord_43 : decode cX2_printRecord 43 = .ok (.dup, 1) := by decide +kernel
theorem dX2_printRecord_44 : decode cX2_printRecord 44 = .ok (.getfield 134, 3) := by decide +kernel
theorem dX2_printRecord_47 : decode cX2_printRecord 47 = .ok (.iconst 1, 1) := by decide +kernel
theorem dX2_printRecord_48 : decode cX2_printRecord 48 = .ok (.iadd, 1) := by decide +kernel
theorem dX2_printRecord_49 : decode cX2_printRecord 49 = .ok (.putfield 134, 3) := by decide +kernel
theorem dX2_printRecord_52 : decode cX2_printRecord 52 = .ok (.goto 19, 3) := by decide +kernel
theorem dX2_printRecord_55 : decode cX2_printRecord 55 = .ok (.aload_n 1, 1) := by decide +kernel
theorem dX2_printRecord_56 : decode cX2_printRecord 56 = .ok (.ifnull 15, 3) := by decide +kernel
theorem dX2_printRecord_59 : decode cX2_printRecord 59 = .ok (.aload_n 0, 1) := by decide +kernel
theorem dX2_printRecord_60 : decode cX2_printRecord 60 = .ok (.aload_n 1, 1) := by decide +kernel
theorem dX2_printRecord_61 : decode cX2_printRecord 61 = .ok (.iload_n 2, 1) := by decide +kernel
theorem dX2_printRecord_62 : decode cX2_printRecord 62 = .ok (.aload_n 0, 1) := by decide +kernel
theorem dX2_printRecord_63 : decode cX2_printRecord 63 = .ok (.getfield 33, 3) := by decide +kernel
theorem dX2_printRecord_66 : decode cX2_printRecord 66 = .ok (.iload_n 2, 1) := by decide +kernel
theorem dX2_printRecord_67 : decode cX2_printRecord 67 = .ok (.iaload, 1) := by decide +kernel
theorem dX2_printRecord_68 : decode cX2_printRecord 68 = .ok (.invokevirtual 163, 3) := by decide +kernel
theorem dX2_printRecord_71 : decode cX2_printRecord 71 = .ok (.iinc 2 1, 3) := by decide +kernel
theorem dX2_printRecord_74 : decode cX2_printRecord 74 = .ok (.goto (-57), 3) := by decide +kernel
theorem dX2_printRecord_77 : decode cX2_printRecord 77 = .ok (.aload_n 0, 1) := by decide +kernel
theorem dX2_printRecord_78 : decode cX2_printRecord 78 = .ok (.iconst 0, 1) := by decide +kernel
theorem dX2_printRecord_79 : decode cX2_printRecord 79 = .ok (.putfield 46, 3) := by decide +kernel
theorem dX2_printRecord_82 : decode cX2_printRecord 82 = .ok (.aload_n 0, 1) := by decide +kernel
theorem dX2_printRecord_83 : decode cX2_printRecord 83 = .ok (.dup, 1) := by decide +kernel
theorem dX2_printRecord_84 : decode cX2_printRecord 84 = .ok (.getfield 128, 3) := by decide +kernel
theorem dX2_printRecord_87 : decode cX2_printRecord 87 = .ok (.iconst 1, 1) := by decide +kernel
theorem dX2_printRecord_88 : decode cX2_printRecord 88 = .ok (.iadd, 1) := by decide +kernel
theorem dX2_printRecord_89 : decode cX2_printRecord 89 = .ok (.putfield 128, 3) := by decide +kernel
theorem dX2_printRecord_92 : decode cX2_printRecord 92 = .ok (.return_, 1) := by decide +kernel
set_option maxRecDepth 20000 in
theorem ggX2_printSign_X2_isSign : GoodIn wsX2_printSign wsX2_isSign := goodIn_r _ [7] (by decide +kernel) (by decide +kernel)
set_option maxRecDepth 20000 in
theorem gX2_printSign_X2_isSign : GoodIn wsX2_printSign (va_wsS RX2 106 yX2_isSign wsX2_isSign) := goodIn_app (goodIn_of _ (by decide +kernel)) ggX2_printSign_X2_isSign
set_option maxRecDepth 20000 in
theorem ggX2_printSign_X0_join : GoodIn wsX2_printSign wsX0_join := goodIn_r _ [12, 13, 14, 15, 16, 17, 18, 19, 20, 21, 22, 23, 24, 25, 26, 27, 28, 29, 30, 31, 32, 33, 34, 35, 36, 37, 38, 6, 39, 40, 57, 58, 59] (by decide +kernel) (by decide +kernel)
set_option maxRecDepth 20000 in
theorem gX2_printSign_X0_join : GoodIn wsX2_printSign (wsV RX2 167 RX0 yX0_join wsX0_join) := goodIn_app (goodIn_of _ (by decide +kernel)) ggX2_printSign_X0_join
theorem dX2_printSign_0 : decode cX2_printSign 0 = .ok (.iload_n 3, 1) := by decide +kernel
theorem dX2_printSign_1 : decode cX2_printSign 1 = .ok (.invokestatic 106, 3) := by decide +kernel
theorem dX2_printSign_4 : decode cX2_printSign 4 = .ok (.ifCond .eq 12, 3) := by decide +kernel
theorem dX2_printSign_7 : decode cX2_printSign 7 = .ok (.aload_n 0, 1) := by decide +kernel
theorem dX2_printSign_8 : decode cX2_printSign 8 = .ok (.getfield 30, 3) := by decide +kernel
theorem dX2_printSign_11 : decode cX2_printSign 11 = .ok (.iload_n 3, 1) := by decide +kernel
theorem dX2_printSign_12 : decode cX2_printSign 12 = .ok (.iaload, 1) := by decide +kernel
theorem dX2_printSign_13 : decode cX2_printSign 13 = .ok (.goto 5, 3) := by decide +kernel
theorem dX2_printSign_16 : decode cX2_printSign 16 = .ok (.bipush 32, 2) := by decide +kernel
theorem dX2_printSign_18 : decode cX2_printSign 18 = .ok (.istore 4, 2) := by decide +kernel
theorem dX2_printSign_20 : decode cX2_printSign 20 = .ok (.iload 4, 2) := by decide +kernel
theorem dX2_printSign_22 : decode cX2_printSign 22 = .ok (.bipush 32, 2) := by decide +kernel
theorem dX2_printSign_24 : decode cX2_printSign 24 = .ok (.if_icmp .eq 24, 3) := by decide +kernel
theorem dX2_printSign_27 : decode cX2_printSign 27 = .ok (.aload_n 1, 1) := by decide +kernel
theorem dX2_printSign_28 : decode cX2_printSign 28 = .ok (.aload_n 0, 1) := by decide +kernel
theorem dX2_printSign_29 : decode cX2_printSign 29 = .ok (.getfield 125, 3) := by decide +kernel
theorem dX2_printSign_32 : decode cX2_printSign 32 = .ok (.iload_n 2, 1) := by decide +kernel
theorem dX2_printSign_33 : decode cX2_printSign 33 = .ok (.iload 4, 2) := by decide +kernel
theorem dX2_printSign_35 : decode cX2_printSign 35 = .ok (.invokevirtual 167, 3) := by decide +kernel
theorem dX2_printSign_38 : decode cX2_printSign 38 = .ok (.aload_n 0, 1) := by decide +kernel
theorem dX2_printSign_39 : decode cX2_printSign 39 = .ok (.dup, 1) := by decide +kernel
theorem dX2_printSign_40 : decode cX2_printSign 40 = .ok (.getfield 131, 3) := by decide +kernel
theorem dX2_printSign_43 : decode cX2_printSign 43 = .ok (.iconst 1, 1) := by decide +kernel
theorem dX2_printSign_44 : decode cX2_printSign 44 = .ok (.iadd, 1) := by decide +kernel
theorem dX2_printSign_45 : decode cX2_printSign 45 = .ok (.putfield 131, 3) := by decide +kernel
theorem dX2_printSign_48 : decode cX2_printSign 48 = .ok (.return_, 1) := by decide +kernel
