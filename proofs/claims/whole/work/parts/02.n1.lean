theorem dX0_init_0 : decode cX0_init 0 = .ok (.aload_n 0, 1) := by decide +kernel
theorem dX0_init_1 : decode cX0_init 1 = .ok (.invokespecial 3, 3) := by decide +kernel
theorem dX0_init_4 : decode cX0_init 4 = .ok (.aload_n 0, 1) := by decide +kernel
theorem dX0_init_5 : decode cX0_init 5 = .ok (.aload_n 1, 1) := by decide +kernel
theorem dX0_init_6 : decode cX0_init 6 = .ok (.putfield 9, 3) := by decide +kernel
theorem dX0_init_9 : decode cX0_init 9 = .ok (.aload_n 0, 1) := by decide +kernel
theorem dX0_init_10 : decode cX0_init 10 = .ok (.iload_n 2, 1) := by decide +kernel
theorem dX0_init_11 : decode cX0_init 11 = .ok (.putfield 15, 3) := by decide +kernel
theorem dX0_init_14 : decode cX0_init 14 = .ok (.aload_n 0, 1) := by decide +kernel
theorem dX0_init_15 : decode cX0_init 15 = .ok (.iload_n 3, 1) := by decide +kernel
theorem dX0_init_16 : decode cX0_init 16 = .ok (.putfield 19, 3) := by decide +kernel
theorem dX0_init_19 : decode cX0_init 19 = .ok (.aload_n 0, 1) := by decide +kernel
theorem dX0_init_20 : decode cX0_init 20 = .ok (.iload 4, 2) := by decide +kernel
theorem dX0_init_22 : decode cX0_init 22 = .ok (.putfield 22, 3) := by decide +kernel
theorem dX0_init_25 : decode cX0_init 25 = .ok (.aload_n 0, 1) := by decide +kernel
theorem dX0_init_26 : decode cX0_init 26 = .ok (.bipush 110, 2) := by decide +kernel
theorem dX0_init_28 : decode cX0_init 28 = .ok (.putfield 25, 3) := by decide +kernel
theorem dX0_init_31 : decode cX0_init 31 = .ok (.aload_n 0, 1) := by decide +kernel
theorem dX0_init_32 : decode cX0_init 32 = .ok (.iconst 0, 1) := by decide +kernel
theorem dX0_init_33 : decode cX0_init 33 = .ok (.putfield 29, 3) := by decide +kernel
theorem dX0_init_36 : decode cX0_init 36 = .ok (.aload_n 0, 1) := by decide +kernel
theorem dX0_init_37 : decode cX0_init 37 = .ok (.aconst_null, 1) := by decide +kernel
theorem dX0_init_38 : decode cX0_init 38 = .ok (.putfield 32, 3) := by decide +kernel
theorem dX0_init_41 : decode cX0_init 41 = .ok (.return_, 1) := by decide +kernel
theorem dX1_init_0 : decode cX1_init 0 = .ok (.aload_n 0, 1) := by decide +kernel
theorem dX1_init_1 : decode cX1_init 1 = .ok (.invokespecial 1, 3) := by decide +kernel
theorem dX1_init_4 : decode cX1_init 4 = .ok (.aload_n 0, 1) := by decide +kernel
theorem dX1_init_5 : decode cX1_init 5 = .ok (.iload_n 1, 1) := by decide +kernel
theorem dX1_init_6 : decode cX1_init 6 = .ok (.putfield 7, 3) := by decide +kernel
theorem dX1_init_9 : decode cX1_init 9 = .ok (.aload_n 0, 1) := by decide +kernel
theorem dX1_init_10 : decode cX1_init 10 = .ok (.aload_n 2, 1) := by decide +kernel
theorem dX1_init_11 : decode cX1_init 11 = .ok (.putfield 13, 3) := by decide +kernel
theorem dX1_init_14 : decode cX1_init 14 = .ok (.aload_n 0, 1) := by decide +kernel
theorem dX1_init_15 : decode cX1_init 15 = .ok (.iconst 0, 1) := by decide +kernel
theorem dX1_init_16 : decode cX1_init 16 = .ok (.putfield 17, 3) := by decide +kernel
theorem dX1_init_19 : decode cX1_init 19 = .ok (.aload_n 0, 1) := by decide +kernel
theorem dX1_init_20 : decode cX1_init 20 = .ok (.iconst 0, 1) := by decide +kernel
theorem dX1_init_21 : decode cX1_init 21 = .ok (.putfield 20, 3) := by decide +kernel
theorem dX1_init_24 : decode cX1_init 24 = .ok (.return_, 1) := by decide +kernel
theorem dX2_init_0 : decode cX2_init 0 = .ok (.aload_n 0, 1) := by decide +kernel
theorem dX2_init_1 : decode cX2_init 1 = .ok (.invokespecial 1, 3) := by decide +kernel
theorem dX2_init_4 : decode cX2_init 4 = .ok (.aload_n 0, 1) := by decide +kernel
theorem dX2_init_5 : decode cX2_init 5 = .ok (.aload_n 1, 1) := by decide +kernel
theorem dX2_init_6 : decode cX2_init 6 = .ok (.putfield 7, 3) := by decide +kernel
theorem dX2_init_9 : decode cX2_init 9 = .ok (.aload_n 0, 1) := by decide +kernel
theorem dX2_init_10 : decode cX2_init 10 = .ok (.iload_n 2, 1) := by decide +kernel
theorem dX2_init_11 : decode cX2_init 11 = .ok (.putfield 13, 3) := by decide +kernel
theorem dX2_init_14 : decode cX2_init 14 = .ok (.aload_n 0, 1) := by decide +kernel
theorem dX2_init_15 : decode cX2_init 15 = .ok (.iload_n 3, 1) := by decide +kernel
theorem dX2_init_16 : decode cX2_init 16 = .ok (.putfield 17, 3) := by decide +kernel
theorem dX2_init_19 : decode cX2_init 19 = .ok (.aload_n 0, 1) := by decide +kernel
theorem dX2_init_20 : decode cX2_init 20 = .ok (.iload 4, 2) := by decide +kernel
theorem dX2_init_22 : decode cX2_init 22 = .ok (.putfield 20, 3) := by decide +kernel
theorem dX2_init_25 : decode cX2_init 25 = .ok (.return_, 1) := by decide +kernel
set_option maxRecDepth 20000 in
theorem ggX2_copy_X2_init : GoodIn wsX2_copy wsX2_init := goodIn_r _ [16, 17, 18, 19, 4, 11, 12, 13, 20, 21, 22, 23] (by decide +kernel) (by decide +kernel)
set_option maxRecDepth 20000 in
theorem gX2_copy_X2_init : GoodIn wsX2_copy (wsX2_init) := ggX2_copy_X2_init
theorem dX2_copy_0 : decode cX2_copy 0 = .ok (.new 8, 3) := by decide +kernel
theorem dX2_copy_3 : decode cX2_copy 3 = .ok (.dup, 1) := by decide +kernel
theorem dX2_copy_4 : decode cX2_copy 4 = .ok (.aload_n 0, 1) := by decide +kernel
theorem dX2_copy_5 : decode cX2_copy 5 = .ok (.getfield 7, 3) := by decide +kernel
theorem dX2_copy_8 : decode cX2_copy 8 = .ok (.invokevirtual 23, 3) := by decide +kernel
theorem dX2_copy_11 : decode cX2_copy 11 = .ok (.checkcast 24, 3) := by decide +kernel
theorem dX2_copy_14 : decode cX2_copy 14 = .ok (.aload_n 0, 1) := by decide +kernel
theorem dX2_copy_15 : decode cX2_copy 15 = .ok (.getfield 13, 3) := by decide +kernel
theorem dX2_copy_18 : decode cX2_copy 18 = .ok (.aload_n 0, 1) := by decide +kernel
theorem dX2_copy_19 : decode cX2_copy 19 = .ok (.getfield 17, 3) := by decide +kernel
theorem dX2_copy_22 : decode cX2_copy 22 = .ok (.aload_n 0, 1) := by decide +kernel
theorem dX2_copy_23 : decode cX2_copy 23 = .ok (.getfield 20, 3) := by decide +kernel
theorem dX2_copy_26 : decode cX2_copy 26 = .ok (.invokespecial 28, 3) := by decide +kernel
theorem dX2_copy_29 : decode cX2_copy 29 = .ok (.areturn, 1) := by decide +kernel
theorem dX2_rateOf_0 : decode cX2_rateOf 0 = .ok (.iload_n 1, 1) := by decide +kernel
theorem dX2_rateOf_1 : decode cX2_rateOf 1 = .ok (.ifCond .lt 21, 3) := by decide +kernel
theorem dX2_rateOf_4 : decode cX2_rateOf 4 = .ok (.iload_n 1, 1) := by decide +kernel
theorem dX2_rateOf_5 : decode cX2_rateOf 5 = .ok (.aload_n 0, 1) := by decide +kernel
theorem dX2_rateOf_6 : decode cX2_rateOf 6 = .ok (.getfield 7, 3) := by decide +kernel
theorem dX2_rateOf_9 : decode cX2_rateOf 9 = .ok (.arraylength, 1) := by decide +kernel
theorem dX2_rateOf_10 : decode cX2_rateOf 10 = .ok (.if_icmp .ge 12, 3) := by decide +kernel
theorem dX2_rateOf_13 : decode cX2_rateOf 13 = .ok (.aload_n 0, 1) := by decide +kernel
theorem dX2_rateOf_14 : decode cX2_rateOf 14 = .ok (.getfield 7, 3) := by decide +kernel
theorem dX2_rateOf_17 : decode cX2_rateOf 17 = .ok (.iload_n 1, 1) := by decide +kernel
theorem dX2_rateOf_18 : decode cX2_rateOf 18 = .ok (.iaload, 1) := by decide +kernel
theorem dX2_rateOf_19 : decode cX2_rateOf 19 = .ok (.goto 4, 3) := by decide +kernel
theorem dX2_rateOf_22 : decode cX2_rateOf 22 = .ok (.iconst 0, 1) := by decide +kernel
theorem dX2_rateOf_23 : decode cX2_rateOf 23 = .ok (.ireturn, 1) := by decide +kernel
theorem dX2_changeRate_0 : decode cX2_changeRate 0 = .ok (.iload_n 1, 1) := by decide +kernel
theorem dX2_changeRate_1 : decode cX2_changeRate 1 = .ok (.ifCond .lt 19, 3) := by decide +kernel
theorem dX2_changeRate_4 : decode cX2_changeRate 4 = .ok (.iload_n 1, 1) := by decide +kernel
theorem dX2_changeRate_5 : decode cX2_changeRate 5 = .ok (.aload_n 0, 1) := by decide +kernel
theorem dX2_changeRate_6 : decode cX2_changeRate 6 = .ok (.getfield 7, 3) := by decide +kernel
theorem dX2_changeRate_9 : decode cX2_changeRate 9 = .ok (.arraylength, 1) := by decide +kernel
theorem dX2_changeRate_10 : decode cX2_changeRate 10 = .ok (.if_icmp .ge 10, 3) := by decide +kernel
theorem dX2_changeRate_13 : decode cX2_changeRate 13 = .ok (.aload_n 0, 1) := by decide +kernel
theorem dX2_changeRate_14 : decode cX2_changeRate 14 = .ok (.getfield 7, 3) := by decide +kernel
theorem dX2_changeRate_17 : decode cX2_changeRate 17 = .ok (.iload_n 1, 1) := by decide +kernel
theorem dX2_changeRate_18 : decode cX2_changeRate 18 = .ok (.iload_n 2, 1) := by decide +kernel
theorem dX2_changeRate_19 : decode cX2_changeRate 19 = .ok (.iastore, 1) := by decide +kernel
theorem dX2_changeRate_20 : decode cX2_changeRate 20 = .ok (.return_, 1) := by decide +kernel
set_option maxRecDepth 20000 in
theorem ggX2_fullPrice_X2_rateOf : GoodIn wsX2_fullPrice wsX2_rateOf := goodIn_ca (goodIn_r _ [7, 8, 16, 17, 18, 19] (by decide +kernel) (by decide +kernel)) (goodIn_sub (fun _ h => List.mem_cons_of_mem _ (List.mem_append_right _ h)) (by decide +kernel))
set_option maxRecDepth 20000 in
theorem gX2_fullPrice_X2_rateOf : GoodIn wsX2_fullPrice (wsV RX2 39 RX2 yX2_rateOf wsX2_rateOf) := goodIn_app (goodIn_of _ (by decide +kernel)) ggX2_fullPrice_X2_rateOf
theorem dX2_fullPrice_0 : decode cX2_fullPrice 0 = .ok (.aload_n 1, 1) := by decide +kernel
theorem dX2_fullPrice_1 : decode cX2_fullPrice 1 = .ok (.getfield 31, 3) := by decide +kernel
theorem dX2_fullPrice_4 : decode cX2_fullPrice 4 = .ok (.aload_n 0, 1) := by decide +kernel
theorem dX2_fullPrice_5 : decode cX2_fullPrice 5 = .ok (.aload_n 1, 1) := by decide +kernel
theorem dX2_fullPrice_6 : decode cX2_fullPrice 6 = .ok (.getfield 36, 3) := by decide +kernel
theorem dX2_fullPrice_9 : decode cX2_fullPrice 9 = .ok (.invokevirtual 39, 3) := by decide +kernel
theorem dX2_fullPrice_12 : decode cX2_fullPrice 12 = .ok (.imul, 1) := by decide +kernel
theorem dX2_fullPrice_13 : decode cX2_fullPrice 13 = .ok (.ireturn, 1) := by decide +kernel
theorem dX2_discounted_0 : decode cX2_discounted 0 = .ok (.iload_n 2, 1) := by decide +kernel
theorem dX2_discounted_1 : decode cX2_discounted 1 = .ok (.aload_n 0, 1) := by decide +kernel
theorem dX2_discounted_2 : decode cX2_discounted 2 = .ok (.getfield 17, 3) := by decide +kernel
theorem dX2_discounted_5 : decode cX2_discounted 5 = .ok (.if_icmp .lt 18, 3) := by decide +kernel
theorem dX2_discounted_8 : decode cX2_discounted 8 = .ok (.iload_n 1, 1) := by decide +kernel
theorem dX2_discounted_9 : decode cX2_discounted 9 = .ok (.bipush 100, 2) := by decide +kernel
theorem dX2_discounted_11 : decode cX2_discounted 11 = .ok (.aload_n 0, 1) := by decide +kernel
theorem dX2_discounted_12 : decode cX2_discounted 12 = .ok (.getfield 20, 3) := by decide +kernel
theorem dX2_discounted_15 : decode cX2_discounted 15 = .ok (.isub, 1) := by decide +kernel
theorem dX2_discounted_16 : decode cX2_discounted 16 = .ok (.imul, 1) := by decide +kernel
theorem dX2_discounted_17 : decode cX2_discounted 17 = .ok (.bipush 100, 2) := by decide +kernel
theorem dX2_discounted_19 : decode cX2_discounted 19 = .ok (.idiv, 1) := by decide +kernel
theorem dX2_discounted_20 : decode cX2_discounted 20 = .ok (.goto 4, 3) := by decide +kernel
theorem dX2_discounted_23 : decode cX2_discounted 23 = .ok (.iload_n 1, 1) := by decide +kernel
theorem dX2_discounted_24 : decode cX2_discounted 24 = .ok (.ireturn, 1) := by decide +kernel
theorem dX3_init_0 : decode cX3_init 0 = .ok (.aload_n 0, 1) := by decide +kernel
theorem dX3_init_1 : decode cX3_init 1 = .ok (.invokespecial 3, 3) := by decide +kernel
theorem dX3_init_4 : decode cX3_init 4 = .ok (.aload_n 0, 1) := by decide +kernel
theorem dX3_init_5 : decode cX3_init 5 = .ok (.iload_n 1, 1) := by decide +kernel
theorem dX3_init_6 : decode cX3_init 6 = .ok (.putfield 9, 3) := by decide +kernel
theorem dX3_init_9 : decode cX3_init 9 = .ok (.aload_n 0, 1) := by decide +kernel
theorem dX3_init_10 : decode cX3_init 10 = .ok (.aload_n 2, 1) := by decide +kernel
theorem dX3_init_11 : decode cX3_init 11 = .ok (.putfield 15, 3) := by decide +kernel
theorem dX3_init_14 : decode cX3_init 14 = .ok (.aload_n 0, 1) := by decide +kernel
theorem dX3_init_15 : decode cX3_init 15 = .ok (.iload_n 3, 1) := by decide +kernel
theorem dX3_init_16 : decode cX3_init 16 = .ok (.putfield 19, 3) := by decide +kernel
theorem dX3_init_19 : decode cX3_init 19 = .ok (.aload_n 0, 1) := by decide +kernel
theorem dX3_init_20 : decode cX3_init 20 = .ok (.iload 4, 2) := by decide +kernel
theorem dX3_init_22 : decode cX3_init 22 = .ok (.putfield 22, 3) := by decide +kernel
theorem dX3_init_25 : decode cX3_init 25 = .ok (.aload_n 0, 1) := by decide +kernel
theorem dX3_init_26 : decode cX3_init 26 = .ok (.bipush 111, 2) := by decide +kernel
theorem dX3_init_28 : decode cX3_init 28 = .ok (.putfield 25, 3) := by decide +kernel
theorem dX3_init_31 : decode cX3_init 31 = .ok (.aload_n 0, 1) := by decide +kernel
theorem dX3_init_32 : decode cX3_init 32 = .ok (.iconst 0, 1) := by decide +kernel
theorem dX3_init_33 : decode cX3_init 33 = .ok (.putfield 29, 3) := by decide +kernel
theorem dX3_init_36 : decode cX3_init 36 = .ok (.return_, 1) := by decide +kernel
theorem dX3_bit_0 : decode cX3_bit 0 = .ok (.iconst 1, 1) := by decide +kernel
theorem dX3_bit_1 : decode cX3_bit 1 = .ok (.aload_n 0, 1) := by decide +kernel
theorem dX3_bit_2 : decode cX3_bit 2 = .ok (.getfield 9, 3) := by decide +kernel
theorem dX3_bit_5 : decode cX3_bit 5 = .ok (.ishl, 1) := by decide +kernel
theorem dX3_bit_6 : decode cX3_bit 6 = .ok (.ireturn, 1) := by decide +kernel
set_option maxRecDepth 20000 in
theorem ggX3_isBlockedBy_X3_bit : GoodIn wsX3_isBlockedBy wsX3_bit := goodIn_r _ [6, 7, 8, 9, 10, 11, 12, 13] (by decide +kernel) (by decide +kernel)
set_option maxRecDepth 20000 in
theorem gX3_isBlockedBy_X3_bit : GoodIn wsX3_isBlockedBy (wsV RX3 32 RX3 yX3_bit wsX3_bit) := goodIn_app (goodIn_of _ (by decide +kernel)) ggX3_isBlockedBy_X3_bit
theorem dX3_isBlockedBy_0 : decode cX3_isBlockedBy 0 = .ok (.aload_n 0, 1) := by decide +kernel
theorem dX3_isBlockedBy_1 : decode cX3_isBlockedBy 1 = .ok (.getfield 29, 3) := by decide +kernel
theorem dX3_isBlockedBy_4 : decode cX3_isBlockedBy 4 = .ok (.aload_n 1, 1) := by decide +kernel
theorem dX3_isBlockedBy_5 : decode cX3_isBlockedBy 5 = .ok (.invokevirtual 32, 3) := by decide +kernel
theorem dX3_isBlockedBy_8 : decode cX3_isBlockedBy 8 = .ok (.iand, 1) := by decide +kernel
theorem dX3_isBlockedBy_9 : decode cX3_isBlockedBy 9 = .ok (.ifCond .eq 7, 3) := by decide +kernel
theorem dX3_isBlockedBy_12 : decode cX3_isBlockedBy 12 = .ok (.iconst 1, 1) := by decide +kernel
theorem dX3_isBlockedBy_13 : decode cX3_isBlockedBy 13 = .ok (.goto 4, 3) := by decide +kernel
theorem dX3_isBlockedBy_16 : decode cX3_isBlockedBy 16 = .ok (.iconst 0, 1) := by decide +kernel
theorem dX3_isBlockedBy_17 : decode cX3_isBlockedBy 17 = .ok (.ireturn, 1) := by decide +kernel
set_option maxRecDepth 20000 in
theorem ggX3_addBlocker_X3_bit : GoodIn wsX3_addBlocker wsX3_bit := goodIn_r _ [6, 7, 8, 9, 10, 11, 12, 13] (by decide +kernel) (by decide +kernel)
set_option maxRecDepth 20000 in
theorem gX3_addBlocker_X3_bit : GoodIn wsX3_addBlocker (wsV RX3 32 RX3 yX3_bit wsX3_bit) := goodIn_app (goodIn_of _ (by decide +kernel)) ggX3_addBlocker_X3_bit
theorem dX3_addBlocker_0 : decode cX3_addBlocker 0 = .ok (.aload_n 0, 1) := by decide +kernel
theorem dX3_addBlocker_1 : decode cX3_addBlocker 1 = .ok (.dup, 1) := by decide +kernel
theorem dX3_addBlocker_2 : decode cX3_addBlocker 2 = .ok (.getfield 29, 3) := by decide +kernel
theorem dX3_addBlocker_5 : decode cX3_addBlocker 5 = .ok (.aload_n 1, 1) := by decide +kernel
theorem dX3_addBlocker_6 : decode cX3_addBlocker 6 = .ok (.invokevirtual 32, 3) := by decide +kernel
theorem dX3_addBlocker_9 : decode cX3_addBlocker 9 = .ok (.ior, 1) := by decide +kernel
theorem dX3_addBlocker_10 : decode cX3_addBlocker 10 = .ok (.putfield 29, 3) := by decide +kernel
theorem dX3_addBlocker_13 : decode cX3_addBlocker 13 = .ok (.return_, 1) := by decide +kernel
theorem dX3_isInTreeOf_0 : decode cX3_isInTreeOf 0 = .ok (.aload_n 0, 1) := by decide +kernel
theorem dX3_isInTreeOf_1 : decode cX3_isInTreeOf 1 = .ok (.astore_n 2, 1) := by decide +kernel
theorem dX3_isInTreeOf_2 : decode cX3_isInTreeOf 2 = .ok (.aload_n 2, 1) := by decide +kernel
theorem dX3_isInTreeOf_3 : decode cX3_isInTreeOf 3 = .ok (.ifnull 18, 3) := by decide +kernel
theorem dX3_isInTreeOf_6 : decode cX3_isInTreeOf 6 = .ok (.aload_n 2, 1) := by decide +kernel
theorem dX3_isInTreeOf_7 : decode cX3_isInTreeOf 7 = .ok (.aload_n 1, 1) := by decide +kernel
theorem dX3_isInTreeOf_8 : decode cX3_isInTreeOf 8 = .ok (.if_acmp .ne 5, 3) := by decide +kernel
theorem dX3_isInTreeOf_11 : decode cX3_isInTreeOf 11 = .ok (.iconst 1, 1) := by decide +kernel
theorem dX3_isInTreeOf_12 : decode cX3_isInTreeOf 12 = .ok (.ireturn, 1) := by decide +kernel
theorem dX3_isInTreeOf_13 : decode cX3_isInTreeOf 13 = .ok (.aload_n 2, 1) := by decide +kernel
theorem dX3_isInTreeOf_14 : decode cX3_isInTreeOf 14 = .ok (.getfield 15, 3) := by decide +kernel
theorem dX3_isInTreeOf_17 : decode cX3_isInTreeOf 17 = .ok (.astore_n 2, 1) := by decide +kernel
theorem dX3_isInTreeOf_18 : decode cX3_isInTreeOf 18 = .ok (.goto (-16), 3) := by decide +kernel
theorem dX3_isInTreeOf_21 : decode cX3_isInTreeOf 21 = .ok (.iconst 0, 1) := by decide +kernel
theorem dX3_isInTreeOf_22 : decode cX3_isInTreeOf 22 = .ok (.ireturn, 1) := by decide +kernel
set_option maxRecDepth 20000 in
theorem ggX4_init_Jx4a65c_init_da8c8 : GoodIn wsX4_init wsJx4a65c_init_da8c8 := goodIn_r _ [20, 21, 22, 23, 24, 25, 26, 27, 28, 29, 30, 31, 32, 2, 3, 45, 46, 47] (by decide +kernel) (by decide +kernel)
set_option maxRecDepth 20000 in
theorem gX4_init_Jx4a65c_init_da8c8 : GoodIn wsX4_init (wsJx4a65c_init_da8c8) := ggX4_init_Jx4a65c_init_da8c8
set_option maxRecDepth 20000 in
theorem ggX4_init_J7_fill_53178 : GoodIn wsX4_init wsJ7_fill_53178 := goodIn_r _ [36] (by decide +kernel) (by decide +kernel)
set_option maxRecDepth 20000 in
theorem gX4_init_J7_fill_53178 : GoodIn wsX4_init (va_wsS RX4 22 yJ7_fill_53178 wsJ7_fill_53178) := goodIn_app (goodIn_of _ (by decide +kernel)) ggX4_init_J7_fill_53178
set_option maxRecDepth 20000 in
theorem ggX4_init_X2_init : GoodIn wsX4_init wsX2_init := goodIn_r _ [39, 40, 2, 3, 41, 42, 43, 44, 55, 56, 57, 58] (by decide +kernel) (by decide +kernel)
set_option maxRecDepth 20000 in
theorem gX4_init_X2_init : GoodIn wsX4_init (wsX2_init) := ggX4_init_X2_init
theorem dX4_init_0 : decode cX4_init 0 = .ok (.aload_n 0, 1) := by decide +kernel
theorem dX4_init_1 : decode cX4_init 1 = .ok (.invokespecial 3, 3) := by decide +kernel
theorem dX4_init_4 : decode cX4_init 4 = .ok (.aload_n 0, 1) := by decide +kernel
theorem dX4_init_5 : decode cX4_init 5 = .ok (.new 9, 3) := by decide +kernel
theorem dX4_init_8 : decode cX4_init 8 = .ok (.dup, 1) := by decide +kernel
theorem dX4_init_9 : decode cX4_init 9 = .ok (.invokespecial 11, 3) := by decide +kernel
theorem dX4_init_12 : decode cX4_init 12 = .ok (.putfield 12, 3) := by decide +kernel
theorem dX4_init_15 : decode cX4_init 15 = .ok (.aload_n 0, 1) := by decide +kernel
theorem dX4_init_16 : decode cX4_init 16 = .ok (.new 9, 3) := by decide +kernel
theorem dX4_init_19 : decode cX4_init 19 = .ok (.dup, 1) := by decide +kernel
theorem dX4_init_20 : decode cX4_init 20 = .ok (.invokespecial 11, 3) := by decide +kernel
theorem dX4_init_23 : decode cX4_init 23 = .ok (.putfield 16, 3) := by decide +kernel
theorem dX4_init_26 : decode cX4_init 26 = .ok (.aload_n 0, 1) := by decide +kernel
theorem dX4_init_27 : decode cX4_init 27 = .ok (.new 9, 3) := by decide +kernel
theorem dX4_init_30 : decode cX4_init 30 = .ok (.dup, 1) := by decide +kernel
theorem dX4_init_31 : decode cX4_init 31 = .ok (.invokespecial 11, 3) := by decide +kernel
theorem dX4_init_34 : decode cX4_init 34 = .ok (.putfield 19, 3) := by decide +kernel
theorem dX4_init_37 : decode cX4_init 37 = .ok (.iconst 4, 1) := by decide +kernel
theorem dX4_init_38 : decode cX4_init 38 = .ok (.newarray .int, 2) := by decide +kernel
theorem dX4_init_40 : decode cX4_init 40 = .ok (.astore_n 1, 1) := by decide +kernel
theorem dX4_init_41 : decode cX4_init 41 = .ok (.aload_n 1, 1) := by decide +kernel
theorem dX4_init_42 : decode cX4_init 42 = .ok (.bipush 50, 2) := by decide +kernel
theorem dX4_init_44 : decode cX4_init 44 = .ok (.invokestatic 22, 3) := by decide +kernel
theorem dX4_init_47 : decode cX4_init 47 = .ok (.aload_n 0, 1) := by decide +kernel
theorem dX4_init_48 : decode cX4_init 48 = .ok (.new 28, 3) := by decide +kernel
theorem dX4_init_51 : decode cX4_init 51 = .ok (.dup, 1) := by decide +kernel
theorem dX4_init_52 : decode cX4_init 52 = .ok (.aload_n 1, 1) := by decide +kernel
theorem dX4_init_53 : decode cX4_init 53 = .ok (.bipush 40, 2) := by decide +kernel
theorem dX4_init_55 : decode cX4_init 55 = .ok (.iconst 0, 1) := by decide +kernel
theorem dX4_init_56 : decode cX4_init 56 = .ok (.iconst 0, 1) := by decide +kernel
theorem dX4_init_57 : decode cX4_init 57 = .ok (.invokespecial 30, 3) := by decide +kernel
theorem dX4_init_60 : decode cX4_init 60 = .ok (.putfield 33, 3) := by decide +kernel
theorem dX4_init_63 : decode cX4_init 63 = .ok (.aload_n 0, 1) := by decide +kernel
theorem dX4_init_64 : decode cX4_init 64 = .ok (.bipush 40, 2) := by decide +kernel
theorem dX4_init_66 : decode cX4_init 66 = .ok (.putfield 37, 3) := by decide +kernel
theorem dX4_init_69 : decode cX4_init 69 = .ok (.aload_n 0, 1) := by decide +kernel
theorem dX4_init_70 : decode cX4_init 70 = .ok (.iconst 0, 1) := by decide +kernel
theorem dX4_init_71 : decode cX4_init 71 = .ok (.putfield 41, 3) := by decide +kernel
theorem dX4_init_74 : decode cX4_init 74 = .ok (.aload_n 0, 1) := by decide +kernel
theorem dX4_init_75 : decode cX4_init 75 = .ok (.iconst 0, 1) := by decide +kernel
theorem dX4_init_76 : decode cX4_init 76 = .ok (.putfield 44, 3) := by decide +kernel
theorem dX4_init_79 : decode cX4_init 79 = .ok (.return_, 1) := by decide +kernel
set_option maxRecDepth 20000 in
theorem ggX4_addTask_X4_requireTask : GoodIn wsX4_addTask wsX4_requireTask := goodIn_ca (goodIn_r _ [17, 18, 19, 7, 20, 21, 22, 23, 24, 25, 26, 27, 28, 29, 30, 31, 32, 33, 34, 35, 36, 37, 38, 39, 40, 41, 42, 43, 112, 113, 114, 115, 116, 117, 118, 125, 126, 127] (by decide +kernel) (by decide +kernel)) (goodIn_sub (fun _ h => List.mem_cons_of_mem _ (List.mem_append_right _ h)) (by decide +kernel))
set_option maxRecDepth 20000 in
theorem gX4_addTask_X4_requireTask : GoodIn wsX4_addTask (wsV RX4 47 RX4 yX4_requireTask wsX4_requireTask) := goodIn_app (goodIn_of _ (by decide +kernel)) ggX4_addTask_X4_requireTask
set_option maxRecDepth 20000 in
theorem ggX4_addTask_X4_isBetween : GoodIn wsX4_addTask wsX4_isBetween := goodIn_r _ [46] (by decide +kernel) (by decide +kernel)
set_option maxRecDepth 20000 in
theorem gX4_addTask_X4_isBetween : GoodIn wsX4_addTask (va_wsS RX4 51 yX4_isBetween wsX4_isBetween) := goodIn_app (goodIn_of _ (by decide +kernel)) ggX4_addTask_X4_isBetween
set_option maxRecDepth 20000 in
theorem ggX4_addTask_Jx4a65c_size_8abf5 : GoodIn wsX4_addTask wsJx4a65c_size_8abf5 := goodIn_r _ [25, 26, 125, 126, 127] (by decide +kernel) (by decide +kernel)
set_option maxRecDepth 20000 in
theorem gX4_addTask_Jx4a65c_size_8abf5 : GoodIn wsX4_addTask (wsV RX4 62 RJx4a65c yJx4a65c_size_8abf5 wsJx4a65c_size_8abf5) := goodIn_app (goodIn_of _ (by decide +kernel)) ggX4_addTask_Jx4a65c_size_8abf5
set_option maxRecDepth 20000 in
theorem ggX4_addTask_X3_init : GoodIn wsX4_addTask wsX3_init := goodIn_r _ [49, 50, 51, 52, 53, 54, 55, 56, 57, 58, 119, 120, 121, 122, 123, 124] (by decide +kernel) (by decide +kernel)
set_option maxRecDepth 20000 in
theorem gX4_addTask_X3_init : GoodIn wsX4_addTask (wsX3_init) := ggX4_addTask_X3_init
set_option maxRecDepth 20000 in
theorem ggX4_addTask_Jx4a65c_add_9ea2d : GoodIn wsX4_addTask wsJx4a65c_add_9ea2d := goodIn_r _ [62, 63, 64, 43, 26, 65, 66, 67, 24, 68, 69, 70, 71, 72, 73, 74, 75, 76, 77, 78, 79, 80, 81, 82, 83, 84, 85, 86, 87, 88, 89, 90, 91, 92, 93, 94, 95, 96, 97, 98, 99, 100, 101, 102, 103, 104, 105, 106, 107, 108, 109, 110, 111, 125, 126, 127] (by decide +kernel) (by decide +kernel)
set_option maxRecDepth 20000 in
theorem gX4_addTask_Jx4a65c_add_9ea2d : GoodIn wsX4_addTask (wsV RX4 85 RJx4a65c yJx4a65c_add_9ea2d wsJx4a65c_add_9ea2d) := goodIn_app (goodIn_of _ (by decide +kernel)) ggX4_addTask_Jx4a65c_add_9ea2d
theorem dX4_addTask_0 : decode cX4_addTask 0 = .ok (.iload_n 1, 1) := by decide +kernel
theorem dX4_addTask_1 : decode cX4_addTask 1 = .ok (.iconst (-1), 1) := by decide +kernel
theorem dX4_addTask_2 : decode cX4_addTask 2 = .ok (.if_icmp .ne 7, 3) := by decide +kernel
theorem dX4_addTask_5 : decode cX4_addTask 5 = .ok (.aconst_null, 1) := by decide +kernel
theorem dX4_addTask_6 : decode cX4_addTask 6 = .ok (.goto 8, 3) := by decide +kernel
theorem dX4_addTask_9 : decode cX4_addTask 9 = .ok (.aload_n 0, 1) := by decide +kernel
theorem dX4_addTask_10 : decode cX4_addTask 10 = .ok (.iload_n 1, 1) := by decide +kernel
theorem dX4_addTask_11 : decode cX4_addTask 11 = .ok (.invokevirtual 47, 3) := by decide +kernel
theorem dX4_addTask_14 : decode cX4_addTask 14 = .ok (.astore 4, 2) := by decide +kernel
theorem dX4_addTask_16 : decode cX4_addTask 16 = .ok (.iload_n 2, 1) := by decide +kernel
theorem dX4_addTask_17 : decode cX4_addTask 17 = .ok (.iconst 1, 1) := by decide +kernel
theorem dX4_addTask_18 : decode cX4_addTask 18 = .ok (.sipush 400, 3) := by decide +kernel
theorem dX4_addTask_21 : decode cX4_addTask 21 = .ok (.invokestatic 51, 3) := by decide +kernel
theorem dX4_addTask_24 : decode cX4_addTask 24 = .ok (.ifCond .eq 14, 3) := by decide +kernel
theorem dX4_addTask_27 : decode cX4_addTask 27 = .ok (.iload_n 3, 1) := by decide +kernel
theorem dX4_addTask_28 : decode cX4_addTask 28 = .ok (.iconst 0, 1) := by decide +kernel
theorem dX4_addTask_29 : decode cX4_addTask 29 = .ok (.sipush 400, 3) := by decide +kernel
theorem dX4_addTask_32 : decode cX4_addTask 32 = .ok (.invokestatic 51, 3) := by decide +kernel
theorem dX4_addTask_35 : decode cX4_addTask 35 = .ok (.ifCond .ne 13, 3) := by decide +kernel
theorem dX4_addTask_38 : decode cX4_addTask 38 = .ok (.new 55, 3) := by decide +kernel
theorem dX4_addTask_41 : decode cX4_addTask 41 = .ok (.dup, 1) := by decide +kernel
theorem dX4_addTask_42 : decode cX4_addTask 42 = .ok (.ldc 57, 2) := by decide +kernel
theorem dX4_addTask_44 : decode cX4_addTask 44 = .ok (.invokespecial 59, 3) := by decide +kernel
theorem dX4_addTask_47 : decode cX4_addTask 47 = .ok (.athrow, 1) := by decide +kernel
theorem dX4_addTask_48 : decode cX4_addTask 48 = .ok (.aload_n 0, 1) := by decide +kernel
theorem dX4_addTask_49 : decode cX4_addTask 49 = .ok (.getfield 12, 3) := by decide +kernel
theorem dX4_addTask_52 : decode cX4_addTask 52 = .ok (.invokevirtual 62, 3) := by decide +kernel
theorem dX4_addTask_55 : decode cX4_addTask 55 = .ok (.bipush 16, 2) := by decide +kernel
theorem dX4_addTask_57 : decode cX4_addTask 57 = .ok (.if_icmp .lt 13, 3) := by decide +kernel
theorem dX4_addTask_60 : decode cX4_addTask 60 = .ok (.new 66, 3) := by decide +kernel
theorem dX4_addTask_63 : decode cX4_addTask 63 = .ok (.dup, 1) := by decide +kernel
theorem dX4_addTask_64 : decode cX4_addTask 64 = .ok (.ldc 68, 2) := by decide +kernel
theorem dX4_addTask_66 : decode cX4_addTask 66 = .ok (.invokespecial 70, 3) := by decide +kernel
theorem dX4_addTask_69 : decode cX4_addTask 69 = .ok (.athrow, 1) := by decide +kernel
theorem dX4_addTask_70 : decode cX4_addTask 70 = .ok (.aload 4, 2) := by decide +kernel
theorem dX4_addTask_72 : decode cX4_addTask 72 = .ok (.ifnull 23, 3) := by decide +kernel
theorem dX4_addTask_75 : decode cX4_addTask 75 = .ok (.aload 4, 2) := by decide +kernel
theorem dX4_addTask_77 : decode cX4_addTask 77 = .ok (.getfield 71, 3) := by decide +kernel
theorem dX4_addTask_80 : decode cX4_addTask 80 = .ok (.bipush 100, 2) := by decide +kernel
theorem dX4_addTask_82 : decode cX4_addTask 82 = .ok (.if_icmp .ne 13, 3) := by decide +kernel
theorem dX4_addTask_85 : decode cX4_addTask 85 = .ok (.new 77, 3) := by decide +kernel
theorem dX4_addTask_88 : decode cX4_addTask 88 = .ok (.dup, 1) := by decide +kernel
theorem dX4_addTask_89 : decode cX4_addTask 89 = .ok (.ldc 79, 2) := by decide +kernel
theorem dX4_addTask_91 : decode cX4_addTask 91 = .ok (.invokespecial 81, 3) := by decide +kernel
theorem dX4_addTask_94 : decode cX4_addTask 94 = .ok (.athrow, 1) := by decide +kernel
theorem dX4_addTask_95 : decode cX4_addTask 95 = .ok (.new 72, 3) := by decide +kernel
theorem dX4_addTask_98 : decode cX4_addTask 98 = .ok (.dup, 1) := by decide +kernel
theorem dX4_addTask_99 : decode cX4_addTask 99 = .ok (.aload_n 0, 1) := by decide +kernel
theorem dX4_addTask_100 : decode cX4_addTask 100 = .ok (.getfield 12, 3) := by decide +kernel
theorem dX4_addTask_103 : decode cX4_addTask 103 = .ok (.invokevirtual 62, 3) := by decide +kernel
theorem dX4_addTask_106 : decode cX4_addTask 106 = .ok (.aload 4, 2) := by decide +kernel
theorem dX4_addTask_108 : decode cX4_addTask 108 = .ok (.iload_n 2, 1) := by decide +kernel
theorem dX4_addTask_109 : decode cX4_addTask 109 = .ok (.iload_n 3, 1) := by decide +kernel
theorem dX4_addTask_110 : decode cX4_addTask 110 = .ok (.invokespecial 82, 3) := by decide +kernel
theorem dX4_addTask_113 : decode cX4_addTask 113 = .ok (.astore 5, 2) := by decide +kernel
theorem dX4_addTask_115 : decode cX4_addTask 115 = .ok (.aload_n 0, 1) := by decide +kernel
theorem dX4_addTask_116 : decode cX4_addTask 116 = .ok (.getfield 12, 3) := by decide +kernel
theorem dX4_addTask_119 : decode cX4_addTask 119 = .ok (.aload 5, 2) := by decide +kernel
theorem dX4_addTask_121 : decode cX4_addTask 121 = .ok (.invokevirtual 85, 3) := by decide +kernel
theorem dX4_addTask_124 : decode cX4_addTask 124 = .ok (.pop, 1) := by decide +kernel
theorem dX4_addTask_125 : decode cX4_addTask 125 = .ok (.aload 5, 2) := by decide +kernel
theorem dX4_addTask_127 : decode cX4_addTask 127 = .ok (.getfield 89, 3) := by decide +kernel
theorem dX4_addTask_130 : decode cX4_addTask 130 = .ok (.ireturn, 1) := by decide +kernel
set_option maxRecDepth 20000 in
theorem ggX4_block_X4_requireTask : GoodIn wsX4_block wsX4_requireTask := goodIn_ca (goodIn_r _ [13, 14, 15, 16, 17, 18, 19, 20, 21, 22, 23, 24, 25, 26, 27, 28, 29, 30, 31, 32, 33, 34, 35, 36, 37, 38, 39, 40, 68, 69, 70, 71, 72, 73, 74, 81, 82, 83] (by decide +kernel) (by decide +kernel)) (goodIn_sub (fun _ h => List.mem_cons_of_mem _ (List.mem_append_right _ h)) (by decide +kernel))
set_option maxRecDepth 20000 in
theorem gX4_block_X4_requireTask : GoodIn wsX4_block (wsV RX4 47 RX4 yX4_requireTask wsX4_requireTask) := goodIn_app (goodIn_of _ (by decide +kernel)) ggX4_block_X4_requireTask
set_option maxRecDepth 20000 in
theorem ggX4_block_X3_isBlockedBy : GoodIn wsX4_block wsX3_isBlockedBy := goodIn_r _ [45, 46, 47, 48, 49, 44, 50, 51, 75, 76, 77, 78, 79, 80] (by decide +kernel) (by decide +kernel)
set_option maxRecDepth 20000 in
theorem gX4_block_X3_isBlockedBy : GoodIn wsX4_block (wsV RX4 94 RX3 yX3_isBlockedBy wsX3_isBlockedBy) := goodIn_app (goodIn_of _ (by decide +kernel)) ggX4_block_X3_isBlockedBy
set_option maxRecDepth 20000 in
theorem ggX4_block_X4_isBlockedByChain : GoodIn wsX4_block wsX4_isBlockedByChain := goodIn_r _ [55, 8, 16, 17, 18, 19, 20, 21, 22, 23, 24, 25, 26, 27, 28, 29, 30, 31, 32, 33, 34, 35, 36, 37, 38, 39, 40, 56, 48, 49, 44, 50, 51, 75, 76, 77, 78, 79, 80, 68, 69, 70, 71, 72, 73, 74, 81, 82, 83] (by decide +kernel) (by decide +kernel)
set_option maxRecDepth 20000 in
theorem gX4_block_X4_isBlockedByChain : GoodIn wsX4_block (wsV RX4 100 RX4 yX4_isBlockedByChain wsX4_isBlockedByChain) := goodIn_app (goodIn_of _ (by decide +kernel)) ggX4_block_X4_isBlockedByChain
set_option maxRecDepth 20000 in
theorem ggX4_block_X3_addBlocker : GoodIn wsX4_block wsX3_addBlocker := goodIn_r _ [60, 46, 47, 48, 49, 44, 50, 51, 75, 76, 77, 78, 79, 80] (by decide +kernel) (by decide +kernel)
set_option maxRecDepth 20000 in
theorem gX4_block_X3_addBlocker : GoodIn wsX4_block (wsV RX4 106 RX3 yX3_addBlocker wsX3_addBlocker) := goodIn_app (goodIn_of _ (by decide +kernel)) ggX4_block_X3_addBlocker
set_option maxRecDepth 20000 in
theorem ggX4_block_J6_bitCount_0f7a4 : GoodIn wsX4_block wsJ6_bitCount_0f7a4 := goodIn_r _ [64, 65, 66, 67] (by decide +kernel) (by decide +kernel)
set_option maxRecDepth 20000 in
theorem gX4_block_J6_bitCount_0f7a4 : GoodIn wsX4_block (va_wsS RX4 113 yJ6_bitCount_0f7a4 wsJ6_bitCount_0f7a4) := goodIn_app (goodIn_of _ (by decide +kernel)) ggX4_block_J6_bitCount_0f7a4
theorem dX4_block_0 : decode cX4_block 0 = .ok (.aload_n 0, 1) := by decide +kernel
theorem dX4_block_1 : decode cX4_block 1 = .ok (.iload_n 1, 1) := by decide +kernel
theorem dX4_block_2 : decode cX4_block 2 = .ok (.invokevirtual 47, 3) := by decide +kernel
theorem dX4_block_5 : decode cX4_block 5 = .ok (.astore_n 3, 1) := by decide +kernel
theorem dX4_block_6 : decode cX4_block 6 = .ok (.aload_n 0, 1) := by decide +kernel
theorem dX4_block_7 : decode cX4_block 7 = .ok (.iload_n 2, 1) := by decide +kernel
theorem dX4_block_8 : decode cX4_block 8 = .ok (.invokevirtual 47, 3) := by decide +kernel
theorem dX4_block_11 : decode cX4_block 11 = .ok (.astore 4, 2) := by decide +kernel
theorem dX4_block_13 : decode cX4_block 13 = .ok (.iload_n 1, 1) := by decide +kernel
theorem dX4_block_14 : decode cX4_block 14 = .ok (.iload_n 2, 1) := by decide +kernel
theorem dX4_block_15 : decode cX4_block 15 = .ok (.if_icmp .ne 13, 3) := by decide +kernel
theorem dX4_block_18 : decode cX4_block 18 = .ok (.new 55, 3) := by decide +kernel
theorem dX4_block_21 : decode cX4_block 21 = .ok (.dup, 1) := by decide +kernel
theorem dX4_block_22 : decode cX4_block 22 = .ok (.ldc 92, 2) := by decide +kernel
theorem dX4_block_24 : decode cX4_block 24 = .ok (.invokespecial 59, 3) := by decide +kernel
theorem dX4_block_27 : decode cX4_block 27 = .ok (.athrow, 1) := by decide +kernel
theorem dX4_block_28 : decode cX4_block 28 = .ok (.aload 4, 2) := by decide +kernel
theorem dX4_block_30 : decode cX4_block 30 = .ok (.aload_n 3, 1) := by decide +kernel
theorem dX4_block_31 : decode cX4_block 31 = .ok (.invokevirtual 94, 3) := by decide +kernel
theorem dX4_block_34 : decode cX4_block 34 = .ok (.ifCond .ne 12, 3) := by decide +kernel
theorem dX4_block_37 : decode cX4_block 37 = .ok (.aload_n 0, 1) := by decide +kernel
theorem dX4_block_38 : decode cX4_block 38 = .ok (.getfield 41, 3) := by decide +kernel
theorem dX4_block_41 : decode cX4_block 41 = .ok (.bipush 20, 2) := by decide +kernel
theorem dX4_block_43 : decode cX4_block 43 = .ok (.if_icmp .lt 13, 3) := by decide +kernel
theorem dX4_block_46 : decode cX4_block 46 = .ok (.new 66, 3) := by decide +kernel
theorem dX4_block_49 : decode cX4_block 49 = .ok (.dup, 1) := by decide +kernel
theorem dX4_block_50 : decode cX4_block 50 = .ok (.ldc 98, 2) := by decide +kernel
theorem dX4_block_52 : decode cX4_block 52 = .ok (.invokespecial 70, 3) := by decide +kernel
theorem dX4_block_55 : decode cX4_block 55 = .ok (.athrow, 1) := by decide +kernel
theorem dX4_block_56 : decode cX4_block 56 = .ok (.aload_n 0, 1) := by decide +kernel
theorem dX4_block_57 : decode cX4_block 57 = .ok (.aload_n 3, 1) := by decide +kernel
theorem dX4_block_58 : decode cX4_block 58 = .ok (.aload 4, 2) := by decide +kernel
theorem dX4_block_60 : decode cX4_block 60 = .ok (.invokevirtual 100, 3) := by decide +kernel
theorem dX4_block_63 : decode cX4_block 63 = .ok (.ifCond .eq 13, 3) := by decide +kernel
theorem dX4_block_66 : decode cX4_block 66 = .ok (.new 77, 3) := by decide +kernel
theorem dX4_block_69 : decode cX4_block 69 = .ok (.dup, 1) := by decide +kernel
theorem dX4_block_70 : decode cX4_block 70 = .ok (.ldc 104, 2) := by decide +kernel
theorem dX4_block_72 : decode cX4_block 72 = .ok (.invokespecial 81, 3) := by decide +kernel
theorem dX4_block_75 : decode cX4_block 75 = .ok (.athrow, 1) := by decide +kernel
theorem dX4_block_76 : decode cX4_block 76 = .ok (.aload 4, 2) := by decide +kernel
theorem dX4_block_78 : decode cX4_block 78 = .ok (.aload_n 3, 1) := by decide +kernel
theorem dX4_block_79 : decode cX4_block 79 = .ok (.invokevirtual 106, 3) := by decide +kernel
theorem dX4_block_82 : decode cX4_block 82 = .ok (.aload_n 0, 1) := by decide +kernel
theorem dX4_block_83 : decode cX4_block 83 = .ok (.dup, 1) := by decide +kernel
theorem dX4_block_84 : decode cX4_block 84 = .ok (.getfield 41, 3) := by decide +kernel
theorem dX4_block_87 : decode cX4_block 87 = .ok (.iconst 1, 1) := by decide +kernel
theorem dX4_block_88 : decode cX4_block 88 = .ok (.iadd, 1) := by decide +kernel
theorem dX4_block_89 : decode cX4_block 89 = .ok (.putfield 41, 3) := by decide +kernel
theorem dX4_block_92 : decode cX4_block 92 = .ok (.aload 4, 2) := by decide +kernel
theorem dX4_block_94 : decode cX4_block 94 = .ok (.getfield 110, 3) := by decide +kernel
theorem dX4_block_97 : decode cX4_block 97 = .ok (.invokestatic 113, 3) := by decide +kernel
theorem dX4_block_100 : decode cX4_block 100 = .ok (.ireturn, 1) := by decide +kernel
set_option maxRecDepth 20000 in
theorem ggX4_begin_X4_requireTask : GoodIn wsX4_begin wsX4_requireTask := goodIn_ca (goodIn_r _ [8, 9, 10, 11, 12, 13, 14, 15, 16, 17, 18, 19, 20, 21, 22, 23, 24, 25, 26, 27, 28, 29, 30, 31, 32, 33, 34, 35, 66, 67, 68, 69, 70, 71, 72, 73, 74, 75] (by decide +kernel) (by decide +kernel)) (goodIn_sub (fun _ h => List.mem_cons_of_mem _ (List.mem_append_left _ (List.mem_append_right _ h))) (by decide +kernel))
set_option maxRecDepth 20000 in
theorem gX4_begin_X4_requireTask : GoodIn wsX4_begin (wsV RX4 47 RX4 yX4_requireTask wsX4_requireTask) := goodIn_app (goodIn_of _ (by decide +kernel)) ggX4_begin_X4_requireTask
set_option maxRecDepth 20000 in
theorem ggX4_begin_X4_requireState : GoodIn wsX4_begin wsX4_requireState := goodIn_ca (goodIn_r _ [38, 39, 40, 3, 60, 61, 62, 63, 64, 65] (by decide +kernel) (by decide +kernel)) (goodIn_sub (fun _ h => List.mem_cons_of_mem _ (List.mem_append_right _ h)) (by decide +kernel))
set_option maxRecDepth 20000 in
theorem gX4_begin_X4_requireState : GoodIn wsX4_begin (va_wsS RX4 119 yX4_requireState wsX4_requireState) := goodIn_app (goodIn_of _ (by decide +kernel)) ggX4_begin_X4_requireState
set_option maxRecDepth 20000 in
theorem ggX4_begin_X4_areBlockersDone : GoodIn wsX4_begin wsX4_areBlockersDone := goodIn_r _ [44, 11, 12, 3, 13, 14, 15, 16, 17, 18, 19, 20, 21, 22, 23, 24, 25, 26, 27, 28, 29, 30, 31, 32, 33, 34, 35, 45, 46, 47, 48, 49, 50, 51, 52, 53, 54, 55, 66, 67, 68, 69, 70, 71, 72, 60, 61, 62, 63, 64, 65, 73, 74, 75] (by decide +kernel) (by decide +kernel)
set_option maxRecDepth 20000 in
theorem gX4_begin_X4_areBlockersDone : GoodIn wsX4_begin (wsV RX4 123 RX4 yX4_areBlockersDone wsX4_areBlockersDone) := goodIn_app (goodIn_of _ (by decide +kernel)) ggX4_begin_X4_areBlockersDone
set_option maxRecDepth 20000 in
theorem ggX4_begin_X4_countTasks : GoodIn wsX4_begin wsX4_countTasks := goodIn_r _ [59, 11, 12, 3, 13, 14, 15, 16, 17, 18, 19, 20, 21, 22, 23, 24, 25, 26, 27, 28, 29, 30, 31, 32, 33, 34, 35, 66, 67, 68, 69, 70, 71, 72, 60, 61, 62, 63, 64, 65, 73, 74, 75] (by decide +kernel) (by decide +kernel)
set_option maxRecDepth 20000 in
theorem gX4_begin_X4_countTasks : GoodIn wsX4_begin (wsV RX4 128 RX4 yX4_countTasks wsX4_countTasks) := goodIn_app (goodIn_of _ (by decide +kernel)) ggX4_begin_X4_countTasks
theorem dX4_begin_0 : decode cX4_begin 0 = .ok (.aload_n 0, 1) := by decide +kernel
theorem dX4_begin_1 : decode cX4_begin 1 = .ok (.iload_n 1, 1) := by decide +kernel
theorem dX4_begin_2 : decode cX4_begin 2 = .ok (.invokevirtual 47, 3) := by decide +kernel
theorem dX4_begin_5 : decode cX4_begin 5 = .ok (.astore_n 2, 1) := by decide +kernel
theorem dX4_begin_6 : decode cX4_begin 6 = .ok (.aload_n 2, 1) := by decide +kernel
theorem dX4_begin_7 : decode cX4_begin 7 = .ok (.bipush 111, 2) := by decide +kernel
theorem dX4_begin_9 : decode cX4_begin 9 = .ok (.invokestatic 119, 3) := by decide +kernel
theorem dX4_begin_12 : decode cX4_begin 12 = .ok (.aload_n 0, 1) := by decide +kernel
theorem dX4_begin_13 : decode cX4_begin 13 = .ok (.aload_n 2, 1) := by decide +kernel
theorem dX4_begin_14 : decode cX4_begin 14 = .ok (.invokevirtual 123, 3) := by decide +kernel
theorem dX4_begin_17 : decode cX4_begin 17 = .ok (.ifCond .ne 13, 3) := by decide +kernel
theorem dX4_begin_20 : decode cX4_begin 20 = .ok (.new 77, 3) := by decide +kernel
theorem dX4_begin_23 : decode cX4_begin 23 = .ok (.dup, 1) := by decide +kernel
theorem dX4_begin_24 : decode cX4_begin 24 = .ok (.ldc 126, 2) := by decide +kernel
theorem dX4_begin_26 : decode cX4_begin 26 = .ok (.invokespecial 81, 3) := by decide +kernel
theorem dX4_begin_29 : decode cX4_begin 29 = .ok (.athrow, 1) := by decide +kernel
theorem dX4_begin_30 : decode cX4_begin 30 = .ok (.aload_n 2, 1) := by decide +kernel
theorem dX4_begin_31 : decode cX4_begin 31 = .ok (.bipush 119, 2) := by decide +kernel
theorem dX4_begin_33 : decode cX4_begin 33 = .ok (.putfield 71, 3) := by decide +kernel
theorem dX4_begin_36 : decode cX4_begin 36 = .ok (.aload_n 0, 1) := by decide +kernel
theorem dX4_begin_37 : decode cX4_begin 37 = .ok (.bipush 119, 2) := by decide +kernel
theorem dX4_begin_39 : decode cX4_begin 39 = .ok (.invokevirtual 128, 3) := by decide +kernel
theorem dX4_begin_42 : decode cX4_begin 42 = .ok (.ireturn, 1) := by decide +kernel
set_option maxRecDepth 20000 in
theorem ggX4_propose_X4_requireTask : GoodIn wsX4_propose wsX4_requireTask := goodIn_ca (goodIn_r _ [6, 7, 8, 9, 10, 11, 12, 13, 14, 15, 16, 17, 18, 19, 20, 21, 22, 23, 24, 25, 26, 27, 28, 29, 30, 31, 32, 33, 49, 50, 51, 52, 53, 54, 55, 56, 57, 58] (by decide +kernel) (by decide +kernel)) (goodIn_sub (fun _ h => List.mem_cons_of_mem _ (List.mem_append_left _ (List.mem_append_right _ h))) (by decide +kernel))
set_option maxRecDepth 20000 in
theorem gX4_propose_X4_requireTask : GoodIn wsX4_propose (wsV RX4 47 RX4 yX4_requireTask wsX4_requireTask) := goodIn_app (goodIn_of _ (by decide +kernel)) ggX4_propose_X4_requireTask
set_option maxRecDepth 20000 in
theorem ggX4_propose_X4_requireState : GoodIn wsX4_propose wsX4_requireState := goodIn_ca (goodIn_r _ [36, 37, 38, 1, 43, 44, 45, 46, 47, 48] (by decide +kernel) (by decide +kernel)) (goodIn_sub (fun _ h => List.mem_cons_of_mem _ (List.mem_append_right _ h)) (by decide +kernel))
set_option maxRecDepth 20000 in
theorem gX4_propose_X4_requireState : GoodIn wsX4_propose (va_wsS RX4 119 yX4_requireState wsX4_requireState) := goodIn_app (goodIn_of _ (by decide +kernel)) ggX4_propose_X4_requireState
set_option maxRecDepth 20000 in
theorem ggX4_propose_X4_countTasks : GoodIn wsX4_propose wsX4_countTasks := goodIn_r _ [42, 9, 10, 1, 11, 12, 13, 14, 15, 16, 17, 18, 19, 20, 21, 22, 23, 24, 25, 26, 27, 28, 29, 30, 31, 32, 33, 49, 50, 51, 52, 53, 54, 55, 43, 44, 45, 46, 47, 48, 56, 57, 58] (by decide +kernel) (by decide +kernel)
set_option maxRecDepth 20000 in
theorem gX4_propose_X4_countTasks : GoodIn wsX4_propose (wsV RX4 128 RX4 yX4_countTasks wsX4_countTasks) := goodIn_app (goodIn_of _ (by decide +kernel)) ggX4_propose_X4_countTasks
theorem dX4_propose_0 : decode cX4_propose 0 = .ok (.aload_n 0, 1) := by decide +kernel
theorem dX4_propose_1 : decode cX4_propose 1 = .ok (.iload_n 1, 1) := by decide +kernel
theorem dX4_propose_2 : decode cX4_propose 2 = .ok (.invokevirtual 47, 3) := by decide +kernel
theorem dX4_propose_5 : decode cX4_propose 5 = .ok (.astore_n 2, 1) := by decide +kernel
theorem dX4_propose_6 : decode cX4_propose 6 = .ok (.aload_n 2, 1) := by decide +kernel
theorem dX4_propose_7 : decode cX4_propose 7 = .ok (.bipush 119, 2) := by decide +kernel
theorem dX4_propose_9 : decode cX4_propose 9 = .ok (.invokestatic 119, 3) := by decide +kernel
theorem dX4_propose_12 : decode cX4_propose 12 = .ok (.aload_n 2, 1) := by decide +kernel
theorem dX4_propose_13 : decode cX4_propose 13 = .ok (.bipush 114, 2) := by decide +kernel
theorem dX4_propose_15 : decode cX4_propose 15 = .ok (.putfield 71, 3) := by decide +kernel
theorem dX4_propose_18 : decode cX4_propose 18 = .ok (.aload_n 0, 1) := by decide +kernel
theorem dX4_propose_19 : decode cX4_propose 19 = .ok (.bipush 114, 2) := by decide +kernel
theorem dX4_propose_21 : decode cX4_propose 21 = .ok (.invokevirtual 128, 3) := by decide +kernel
theorem dX4_propose_24 : decode cX4_propose 24 = .ok (.ireturn, 1) := by decide +kernel
set_option maxRecDepth 20000 in
theorem ggX4_reject_X4_requireTask : GoodIn wsX4_reject wsX4_requireTask := goodIn_ca (goodIn_r _ [6, 7, 8, 9, 10, 11, 12, 13, 14, 15, 16, 17, 18, 19, 20, 21, 22, 23, 24, 25, 26, 27, 28, 29, 30, 31, 32, 33, 49, 50, 51, 52, 53, 54, 55, 56, 57, 58] (by decide +kernel) (by decide +kernel)) (goodIn_sub (fun _ h => List.mem_cons_of_mem _ (List.mem_append_left _ (List.mem_append_right _ h))) (by decide +kernel))
set_option maxRecDepth 20000 in
theorem gX4_reject_X4_requireTask : GoodIn wsX4_reject (wsV RX4 47 RX4 yX4_requireTask wsX4_requireTask) := goodIn_app (goodIn_of _ (by decide +kernel)) ggX4_reject_X4_requireTask
set_option maxRecDepth 20000 in
theorem ggX4_reject_X4_requireState : GoodIn wsX4_reject wsX4_requireState := goodIn_ca (goodIn_r _ [36, 37, 38, 1, 43, 44, 45, 46, 47, 48] (by decide +kernel) (by decide +kernel)) (goodIn_sub (fun _ h => List.mem_cons_of_mem _ (List.mem_append_right _ h)) (by decide +kernel))
set_option maxRecDepth 20000 in
theorem gX4_reject_X4_requireState : GoodIn wsX4_reject (va_wsS RX4 119 yX4_requireState wsX4_requireState) := goodIn_app (goodIn_of _ (by decide +kernel)) ggX4_reject_X4_requireState
set_option maxRecDepth 20000 in
theorem ggX4_reject_X4_countTasks : GoodIn wsX4_reject wsX4_countTasks := goodIn_r _ [42, 9, 10, 1, 11, 12, 13, 14, 15, 16, 17, 18, 19, 20, 21, 22, 23, 24, 25, 26, 27, 28, 29, 30, 31, 32, 33, 49, 50, 51, 52, 53, 54, 55, 43, 44, 45, 46, 47, 48, 56, 57, 58] (by decide +kernel) (by decide +kernel)
set_option maxRecDepth 20000 in
theorem gX4_reject_X4_countTasks : GoodIn wsX4_reject (wsV RX4 128 RX4 yX4_countTasks wsX4_countTasks) := goodIn_app (goodIn_of _ (by decide +kernel)) ggX4_reject_X4_countTasks
theorem dX4_reject_0 : decode cX4_reject 0 = .ok (.aload_n 0, 1) := by decide +kernel
theorem dX4_reject_1 : decode cX4_reject 1 = .ok (.iload_n 1, 1) := by decide +kernel
theorem dX4_reject_2 : decode cX4_reject 2 = .ok (.invokevirtual 47, 3) := by decide +kernel
theorem dX4_reject_5 : decode cX4_reject 5 = .ok (.astore_n 2, 1) := by decide +kernel
theorem dX4_reject_6 : decode cX4_reject 6 = .ok (.aload_n 2, 1) := by decide +kernel
theorem dX4_reject_7 : decode cX4_reject 7 = .ok (.bipush 114, 2) := by decide +kernel
theorem dX4_reject_9 : decode cX4_reject 9 = .ok (.invokestatic 119, 3) := by decide +kernel
theorem dX4_reject_12 : decode cX4_reject 12 = .ok (.aload_n 2, 1) := by decide +kernel
theorem dX4_reject_13 : decode cX4_reject 13 = .ok (.bipush 119, 2) := by decide +kernel
theorem dX4_reject_15 : decode cX4_reject 15 = .ok (.putfield 71, 3) := by decide +kernel
theorem dX4_reject_18 : decode cX4_reject 18 = .ok (.aload_n 0, 1) := by decide +kernel
theorem dX4_reject_19 : decode cX4_reject 19 = .ok (.bipush 114, 2) := by decide +kernel
theorem dX4_reject_21 : decode cX4_reject 21 = .ok (.invokevirtual 128, 3) := by decide +kernel
theorem dX4_reject_24 : decode cX4_reject 24 = .ok (.ireturn, 1) := by decide +kernel
set_option maxRecDepth 20000 in
theorem ggX4_merge_X4_requireTask : GoodIn wsX4_merge wsX4_requireTask := goodIn_ca (goodIn_r _ [8, 9, 10, 11, 12, 13, 14, 15, 16, 17, 18, 19, 20, 21, 22, 23, 24, 25, 26, 27, 28, 29, 30, 31, 32, 33, 34, 35, 56, 57, 58, 59, 60, 61, 62, 63, 64, 65] (by decide +kernel) (by decide +kernel)) (goodIn_sub (fun _ h => List.mem_cons_of_mem _ (List.mem_append_left _ (List.mem_append_right _ h))) (by decide +kernel))
set_option maxRecDepth 20000 in
theorem gX4_merge_X4_requireTask : GoodIn wsX4_merge (wsV RX4 47 RX4 yX4_requireTask wsX4_requireTask) := goodIn_app (goodIn_of _ (by decide +kernel)) ggX4_merge_X4_requireTask
set_option maxRecDepth 20000 in
theorem ggX4_merge_X4_requireState : GoodIn wsX4_merge wsX4_requireState := goodIn_ca (goodIn_r _ [38, 39, 40, 3, 50, 51, 52, 53, 54, 55] (by decide +kernel) (by decide +kernel)) (goodIn_sub (fun _ h => List.mem_cons_of_mem _ (List.mem_append_right _ h)) (by decide +kernel))
set_option maxRecDepth 20000 in
theorem gX4_merge_X4_requireState : GoodIn wsX4_merge (va_wsS RX4 119 yX4_requireState wsX4_requireState) := goodIn_app (goodIn_of _ (by decide +kernel)) ggX4_merge_X4_requireState
set_option maxRecDepth 20000 in
theorem ggX4_merge_X4_areChildrenDone : GoodIn wsX4_merge wsX4_areChildrenDone := goodIn_r _ [44, 11, 12, 45, 3, 13, 14, 15, 16, 17, 18, 19, 20, 21, 22, 23, 24, 25, 26, 27, 28, 29, 30, 31, 32, 33, 34, 35, 56, 57, 58, 59, 60, 61, 62, 50, 51, 52, 53, 54, 55, 63, 64, 65] (by decide +kernel) (by decide +kernel)
set_option maxRecDepth 20000 in
theorem gX4_merge_X4_areChildrenDone : GoodIn wsX4_merge (wsV RX4 132 RX4 yX4_areChildrenDone wsX4_areChildrenDone) := goodIn_app (goodIn_of _ (by decide +kernel)) ggX4_merge_X4_areChildrenDone
set_option maxRecDepth 20000 in
theorem ggX4_merge_X4_countTasks : GoodIn wsX4_merge wsX4_countTasks := goodIn_r _ [49, 11, 12, 3, 13, 14, 15, 16, 17, 18, 19, 20, 21, 22, 23, 24, 25, 26, 27, 28, 29, 30, 31, 32, 33, 34, 35, 56, 57, 58, 59, 60, 61, 62, 50, 51, 52, 53, 54, 55, 63, 64, 65] (by decide +kernel) (by decide +kernel)
set_option maxRecDepth 20000 in
theorem gX4_merge_X4_countTasks : GoodIn wsX4_merge (wsV RX4 128 RX4 yX4_countTasks wsX4_countTasks) := goodIn_app (goodIn_of _ (by decide +kernel)) ggX4_merge_X4_countTasks
theorem dX4_merge_0 : decode cX4_merge 0 = .ok (.aload_n 0, 1) := by decide +kernel
theorem dX4_merge_1 : decode cX4_merge 1 = .ok (.iload_n 1, 1) := by decide +kernel
theorem dX4_merge_2 : decode cX4_merge 2 = .ok (.invokevirtual 47, 3) := by decide +kernel
theorem dX4_merge_5 : decode cX4_merge 5 = .ok (.astore_n 2, 1) := by decide +kernel
theorem dX4_merge_6 : decode cX4_merge 6 = .ok (.aload_n 2, 1) := by decide +kernel
theorem dX4_merge_7 : decode cX4_merge 7 = .ok (.bipush 114, 2) := by decide +kernel
theorem dX4_merge_9 : decode cX4_merge 9 = .ok (.invokestatic 119, 3) := by decide +kernel
theorem dX4_merge_12 : decode cX4_merge 12 = .ok (.aload_n 0, 1) := by decide +kernel
theorem dX4_merge_13 : decode cX4_merge 13 = .ok (.aload_n 2, 1) := by decide +kernel
theorem dX4_merge_14 : decode cX4_merge 14 = .ok (.invokevirtual 132, 3) := by decide +kernel
theorem dX4_merge_17 : decode cX4_merge 17 = .ok (.ifCond .ne 13, 3) := by decide +kernel
theorem dX4_merge_20 : decode cX4_merge 20 = .ok (.new 77, 3) := by decide +kernel
theorem dX4_merge_23 : decode cX4_merge 23 = .ok (.dup, 1) := by decide +kernel
theorem dX4_merge_24 : decode cX4_merge 24 = .ok (.ldc 135, 2) := by decide +kernel
theorem dX4_merge_26 : decode cX4_merge 26 = .ok (.invokespecial 81, 3) := by decide +kernel
theorem dX4_merge_29 : decode cX4_merge 29 = .ok (.athrow, 1) := by decide +kernel
theorem dX4_merge_30 : decode cX4_merge 30 = .ok (.aload_n 2, 1) := by decide +kernel
theorem dX4_merge_31 : decode cX4_merge 31 = .ok (.bipush 100, 2) := by decide +kernel
theorem dX4_merge_33 : decode cX4_merge 33 = .ok (.putfield 71, 3) := by decide +kernel
theorem dX4_merge_36 : decode cX4_merge 36 = .ok (.aload_n 0, 1) := by decide +kernel
theorem dX4_merge_37 : decode cX4_merge 37 = .ok (.bipush 100, 2) := by decide +kernel
theorem dX4_merge_39 : decode cX4_merge 39 = .ok (.invokevirtual 128, 3) := by decide +kernel
theorem dX4_merge_42 : decode cX4_merge 42 = .ok (.ireturn, 1) := by decide +kernel
set_option maxRecDepth 20000 in
theorem ggX4_reopen_X4_requireTask : GoodIn wsX4_reopen wsX4_requireTask := goodIn_ca (goodIn_r _ [9, 10, 11, 12, 13, 14, 15, 16, 17, 18, 19, 20, 21, 22, 23, 24, 25, 26, 27, 28, 29, 30, 31, 32, 33, 34, 35, 36, 59, 60, 61, 62, 63, 64, 65, 66, 67, 68] (by decide +kernel) (by decide +kernel)) (goodIn_sub (fun _ h => List.mem_cons_of_mem _ (List.mem_append_left _ (List.mem_append_right _ h))) (by decide +kernel))
set_option maxRecDepth 20000 in
theorem gX4_reopen_X4_requireTask : GoodIn wsX4_reopen (wsV RX4 47 RX4 yX4_requireTask wsX4_requireTask) := goodIn_app (goodIn_of _ (by decide +kernel)) ggX4_reopen_X4_requireTask
set_option maxRecDepth 20000 in
theorem ggX4_reopen_X4_requireState : GoodIn wsX4_reopen wsX4_requireState := goodIn_ca (goodIn_r _ [39, 40, 41, 4, 53, 54, 55, 56, 57, 58] (by decide +kernel) (by decide +kernel)) (goodIn_sub (fun _ h => List.mem_cons_of_mem _ (List.mem_append_right _ h)) (by decide +kernel))
set_option maxRecDepth 20000 in
theorem gX4_reopen_X4_requireState : GoodIn wsX4_reopen (va_wsS RX4 119 yX4_requireState wsX4_requireState) := goodIn_app (goodIn_of _ (by decide +kernel)) ggX4_reopen_X4_requireState
set_option maxRecDepth 20000 in
theorem ggX4_reopen_X4_creditEntries : GoodIn wsX4_reopen wsX4_creditEntries := goodIn_r _ [45, 46, 47, 48, 49, 50, 51, 52, 14, 15, 16, 17, 18, 19, 20, 21, 22, 23, 24, 25, 26, 27, 28, 29, 30, 31, 32, 33, 34, 35, 36, 59, 60, 61, 62, 63, 64, 65, 69, 70, 71, 72, 73, 74, 75, 76, 77, 78, 79, 66, 67, 68] (by decide +kernel) (by decide +kernel)
set_option maxRecDepth 20000 in
theorem gX4_reopen_X4_creditEntries : GoodIn wsX4_reopen (wsV RX4 141 RX4 yX4_creditEntries wsX4_creditEntries) := goodIn_app (goodIn_of _ (by decide +kernel)) ggX4_reopen_X4_creditEntries
theorem dX4_reopen_0 : decode cX4_reopen 0 = .ok (.aload_n 0, 1) := by decide +kernel
theorem dX4_reopen_1 : decode cX4_reopen 1 = .ok (.iload_n 1, 1) := by decide +kernel
theorem dX4_reopen_2 : decode cX4_reopen 2 = .ok (.invokevirtual 47, 3) := by decide +kernel
theorem dX4_reopen_5 : decode cX4_reopen 5 = .ok (.astore_n 2, 1) := by decide +kernel
theorem dX4_reopen_6 : decode cX4_reopen 6 = .ok (.aload_n 2, 1) := by decide +kernel
theorem dX4_reopen_7 : decode cX4_reopen 7 = .ok (.bipush 100, 2) := by decide +kernel
theorem dX4_reopen_9 : decode cX4_reopen 9 = .ok (.invokestatic 119, 3) := by decide +kernel
theorem dX4_reopen_12 : decode cX4_reopen 12 = .ok (.aload_n 2, 1) := by decide +kernel
theorem dX4_reopen_13 : decode cX4_reopen 13 = .ok (.getfield 137, 3) := by decide +kernel
theorem dX4_reopen_16 : decode cX4_reopen 16 = .ok (.astore_n 3, 1) := by decide +kernel
theorem dX4_reopen_17 : decode cX4_reopen 17 = .ok (.aload_n 3, 1) := by decide +kernel
theorem dX4_reopen_18 : decode cX4_reopen 18 = .ok (.ifnull 22, 3) := by decide +kernel
theorem dX4_reopen_21 : decode cX4_reopen 21 = .ok (.aload_n 3, 1) := by decide +kernel
theorem dX4_reopen_22 : decode cX4_reopen 22 = .ok (.getfield 71, 3) := by decide +kernel
theorem dX4_reopen_25 : decode cX4_reopen 25 = .ok (.bipush 100, 2) := by decide +kernel
theorem dX4_reopen_27 : decode cX4_reopen 27 = .ok (.if_icmp .ne 13, 3) := by decide +kernel
theorem dX4_reopen_30 : decode cX4_reopen 30 = .ok (.new 77, 3) := by decide +kernel
theorem dX4_reopen_33 : decode cX4_reopen 33 = .ok (.dup, 1) := by decide +kernel
theorem dX4_reopen_34 : decode cX4_reopen 34 = .ok (.ldc 79, 2) := by decide +kernel
theorem dX4_reopen_36 : decode cX4_reopen 36 = .ok (.invokespecial 81, 3) := by decide +kernel
theorem dX4_reopen_39 : decode cX4_reopen 39 = .ok (.athrow, 1) := by decide +kernel
theorem dX4_reopen_40 : decode cX4_reopen 40 = .ok (.aload_n 2, 1) := by decide +kernel
theorem dX4_reopen_41 : decode cX4_reopen 41 = .ok (.bipush 119, 2) := by decide +kernel
theorem dX4_reopen_43 : decode cX4_reopen 43 = .ok (.putfield 71, 3) := by decide +kernel
theorem dX4_reopen_46 : decode cX4_reopen 46 = .ok (.aload_n 0, 1) := by decide +kernel
theorem dX4_reopen_47 : decode cX4_reopen 47 = .ok (.aload_n 2, 1) := by decide +kernel
theorem dX4_reopen_48 : decode cX4_reopen 48 = .ok (.invokevirtual 141, 3) := by decide +kernel
theorem dX4_reopen_51 : decode cX4_reopen 51 = .ok (.ireturn, 1) := by decide +kernel
set_option maxRecDepth 20000 in
theorem ggX4_state_X4_requireTask : GoodIn wsX4_state wsX4_requireTask := goodIn_ca (goodIn_r _ [6, 7, 8, 9, 10, 11, 12, 13, 14, 15, 16, 17, 18, 19, 20, 21, 22, 23, 24, 25, 26, 27, 28, 29, 30, 31, 32, 33, 40, 41, 42, 43, 44, 45, 46, 47, 48, 49] (by decide +kernel) (by decide +kernel)) (goodIn_sub (fun _ h => List.mem_cons_of_mem _ (List.mem_append_right _ h)) (by decide +kernel))
set_option maxRecDepth 20000 in
theorem gX4_state_X4_requireTask : GoodIn wsX4_state (wsV RX4 47 RX4 yX4_requireTask wsX4_requireTask) := goodIn_app (goodIn_of _ (by decide +kernel)) ggX4_state_X4_requireTask
theorem dX4_state_0 : decode cX4_state 0 = .ok (.aload_n 0, 1) := by decide +kernel
theorem dX4_state_1 : decode cX4_state 1 = .ok (.iload_n 1, 1) := by decide +kernel
theorem dX4_state_2 : decode cX4_state 2 = .ok (.invokevirtual 47, 3) := by decide +kernel
theorem dX4_state_5 : decode cX4_state 5 = .ok (.getfield 71, 3) := by decide +kernel
theorem dX4_state_8 : decode cX4_state 8 = .ok (.ireturn, 1) := by decide +kernel
set_option maxRecDepth 20000 in
theorem ggX4_parent_X4_requireTask : GoodIn wsX4_parent wsX4_requireTask := goodIn_ca (goodIn_r _ [9, 10, 11, 12, 13, 14, 15, 16, 17, 18, 19, 20, 21, 22, 23, 24, 25, 26, 27, 28, 29, 30, 31, 32, 33, 34, 35, 36, 43, 44, 45, 46, 47, 48, 49, 50, 51, 52] (by decide +kernel) (by decide +kernel)) (goodIn_sub (fun _ h => List.mem_cons_of_mem _ (List.mem_append_right _ h)) (by decide +kernel))
set_option maxRecDepth 20000 in
theorem gX4_parent_X4_requireTask : GoodIn wsX4_parent (wsV RX4 47 RX4 yX4_requireTask wsX4_requireTask) := goodIn_app (goodIn_of _ (by decide +kernel)) ggX4_parent_X4_requireTask
theorem dX4_parent_0 : decode cX4_parent 0 = .ok (.aload_n 0, 1) := by decide +kernel
theorem dX4_parent_1 : decode cX4_parent 1 = .ok (.iload_n 1, 1) := by decide +kernel
theorem dX4_parent_2 : decode cX4_parent 2 = .ok (.invokevirtual 47, 3) := by decide +kernel
theorem dX4_parent_5 : decode cX4_parent 5 = .ok (.getfield 137, 3) := by decide +kernel
theorem dX4_parent_8 : decode cX4_parent 8 = .ok (.astore_n 2, 1) := by decide +kernel
theorem dX4_parent_9 : decode cX4_parent 9 = .ok (.aload_n 2, 1) := by decide +kernel
theorem dX4_parent_10 : decode cX4_parent 10 = .ok (.ifnonnull 13, 3) := by decide +kernel
theorem dX4_parent_13 : decode cX4_parent 13 = .ok (.new 145, 3) := by decide +kernel
theorem dX4_parent_16 : decode cX4_parent 16 = .ok (.dup, 1) := by decide +kernel
theorem dX4_parent_17 : decode cX4_parent 17 = .ok (.ldc 147, 2) := by decide +kernel
theorem dX4_parent_19 : decode cX4_parent 19 = .ok (.invokespecial 149, 3) := by decide +kernel
theorem dX4_parent_22 : decode cX4_parent 22 = .ok (.athrow, 1) := by decide +kernel
theorem dX4_parent_23 : decode cX4_parent 23 = .ok (.aload_n 2, 1) := by decide +kernel
theorem dX4_parent_24 : decode cX4_parent 24 = .ok (.getfield 89, 3) := by decide +kernel
theorem dX4_parent_27 : decode cX4_parent 27 = .ok (.ireturn, 1) := by decide +kernel
set_option maxRecDepth 20000 in
theorem ggX4_treeSize_X4_requireTask : GoodIn wsX4_treeSize wsX4_requireTask := goodIn_ca (goodIn_r _ [7, 8, 9, 1, 2, 10, 11, 12, 13, 14, 15, 16, 17, 18, 19, 20, 21, 22, 23, 24, 25, 26, 27, 28, 29, 30, 31, 32, 39, 40, 41, 42, 43, 44, 45, 46, 47, 48] (by decide +kernel) (by decide +kernel)) (goodIn_sub (fun _ h => List.mem_cons_of_mem _ (List.mem_append_right _ h)) (by decide +kernel))
set_option maxRecDepth 20000 in
theorem gX4_treeSize_X4_requireTask : GoodIn wsX4_treeSize (wsV RX4 47 RX4 yX4_requireTask wsX4_requireTask) := goodIn_app (goodIn_of _ (by decide +kernel)) ggX4_treeSize_X4_requireTask
set_option maxRecDepth 20000 in
theorem ggX4_treeSize_Jx4a65c_size_8abf5 : GoodIn wsX4_treeSize wsJx4a65c_size_8abf5 := goodIn_r _ [14, 15, 46, 47, 48] (by decide +kernel) (by decide +kernel)
set_option maxRecDepth 20000 in
theorem gX4_treeSize_Jx4a65c_size_8abf5 : GoodIn wsX4_treeSize (wsV RX4 62 RJx4a65c yJx4a65c_size_8abf5 wsJx4a65c_size_8abf5) := goodIn_app (goodIn_of _ (by decide +kernel)) ggX4_treeSize_Jx4a65c_size_8abf5
set_option maxRecDepth 20000 in
theorem ggX4_treeSize_Jx4a65c_get_915e3 : GoodIn wsX4_treeSize wsJx4a65c_get_915e3 := goodIn_r _ [19, 15, 20, 21, 22, 23, 24, 25, 26, 27, 28, 29, 30, 13, 31, 32, 46, 47, 48] (by decide +kernel) (by decide +kernel)
set_option maxRecDepth 20000 in
theorem gX4_treeSize_Jx4a65c_get_915e3 : GoodIn wsX4_treeSize (wsV RX4 150 RJx4a65c yJx4a65c_get_915e3 wsJx4a65c_get_915e3) := goodIn_app (goodIn_of _ (by decide +kernel)) ggX4_treeSize_Jx4a65c_get_915e3
set_option maxRecDepth 20000 in
theorem ggX4_treeSize_X3_isInTreeOf : GoodIn wsX4_treeSize wsX3_isInTreeOf := goodIn_r _ [37, 38, 49, 50, 51, 52, 53, 54] (by decide +kernel) (by decide +kernel)
set_option maxRecDepth 20000 in
theorem gX4_treeSize_X3_isInTreeOf : GoodIn wsX4_treeSize (wsV RX4 154 RX3 yX3_isInTreeOf wsX3_isInTreeOf) := goodIn_app (goodIn_of _ (by decide +kernel)) ggX4_treeSize_X3_isInTreeOf
theorem dX4_treeSize_0 : decode cX4_treeSize 0 = .ok (.aload_n 0, 1) := by decide +kernel
theorem dX4_treeSize_1 : decode cX4_treeSize 1 = .ok (.iload_n 1, 1) := by decide +kernel
theorem dX4_treeSize_2 : decode cX4_treeSize 2 = .ok (.invokevirtual 47, 3) := by decide +kernel
theorem dX4_treeSize_5 : decode cX4_treeSize 5 = .ok (.astore_n 2, 1) := by decide +kernel
theorem dX4_treeSize_6 : decode cX4_treeSize 6 = .ok (.iconst 0, 1) := by decide +kernel
theorem dX4_treeSize_7 : decode cX4_treeSize 7 = .ok (.istore_n 3, 1) := by decide +kernel
theorem dX4_treeSize_8 : decode cX4_treeSize 8 = .ok (.iconst 0, 1) := by decide +kernel
theorem dX4_treeSize_9 : decode cX4_treeSize 9 = .ok (.istore 4, 2) := by decide +kernel
theorem dX4_treeSize_11 : decode cX4_treeSize 11 = .ok (.iload 4, 2) := by decide +kernel
theorem dX4_treeSize_13 : decode cX4_treeSize 13 = .ok (.aload_n 0, 1) := by decide +kernel
theorem dX4_treeSize_14 : decode cX4_treeSize 14 = .ok (.getfield 12, 3) := by decide +kernel
theorem dX4_treeSize_17 : decode cX4_treeSize 17 = .ok (.invokevirtual 62, 3) := by decide +kernel
theorem dX4_treeSize_20 : decode cX4_treeSize 20 = .ok (.if_icmp .ge 31, 3) := by decide +kernel
theorem dX4_treeSize_23 : decode cX4_treeSize 23 = .ok (.aload_n 0, 1) := by decide +kernel
theorem dX4_treeSize_24 : decode cX4_treeSize 24 = .ok (.getfield 12, 3) := by decide +kernel
theorem dX4_treeSize_27 : decode cX4_treeSize 27 = .ok (.iload 4, 2) := by decide +kernel
theorem dX4_treeSize_29 : decode cX4_treeSize 29 = .ok (.invokevirtual 150, 3) := by decide +kernel
theorem dX4_treeSize_32 : decode cX4_treeSize 32 = .ok (.checkcast 72, 3) := by decide +kernel
theorem dX4_treeSize_35 : decode cX4_treeSize 35 = .ok (.aload_n 2, 1) := by decide +kernel
theorem dX4_treeSize_36 : decode cX4_treeSize 36 = .ok (.invokevirtual 154, 3) := by decide +kernel
theorem dX4_treeSize_39 : decode cX4_treeSize 39 = .ok (.ifCond .eq 6, 3) := by decide +kernel
theorem dX4_treeSize_42 : decode cX4_treeSize 42 = .ok (.iinc 3 1, 3) := by decide +kernel
theorem dX4_treeSize_45 : decode cX4_treeSize 45 = .ok (.iinc 4 1, 3) := by decide +kernel
theorem dX4_treeSize_48 : decode cX4_treeSize 48 = .ok (.goto (-37), 3) := by decide +kernel
theorem dX4_treeSize_51 : decode cX4_treeSize 51 = .ok (.iload_n 3, 1) := by decide +kernel
theorem dX4_treeSize_52 : decode cX4_treeSize 52 = .ok (.ireturn, 1) := by decide +kernel
set_option maxRecDepth 20000 in
theorem ggX4_canBegin_X4_requireTask : GoodIn wsX4_canBegin wsX4_requireTask := goodIn_ca (goodIn_r _ [6, 7, 8, 9, 10, 11, 12, 13, 14, 15, 16, 17, 18, 19, 20, 21, 22, 23, 24, 25, 26, 27, 28, 29, 30, 31, 32, 33, 55, 56, 57, 58, 59, 60, 61, 62, 63, 64] (by decide +kernel) (by decide +kernel)) (goodIn_sub (fun _ h => List.mem_cons_of_mem _ (List.mem_append_right _ h)) (by decide +kernel))
set_option maxRecDepth 20000 in
theorem gX4_canBegin_X4_requireTask : GoodIn wsX4_canBegin (wsV RX4 47 RX4 yX4_requireTask wsX4_requireTask) := goodIn_app (goodIn_of _ (by decide +kernel)) ggX4_canBegin_X4_requireTask
set_option maxRecDepth 20000 in
theorem ggX4_canBegin_X4_areBlockersDone : GoodIn wsX4_canBegin wsX4_areBlockersDone := goodIn_r _ [37, 9, 10, 1, 11, 12, 13, 14, 15, 16, 17, 18, 19, 20, 21, 22, 23, 24, 25, 26, 27, 28, 29, 30, 31, 32, 33, 38, 39, 40, 41, 42, 43, 44, 45, 46, 47, 48, 55, 56, 57, 58, 59, 60, 61, 49, 50, 51, 52, 53, 54, 62, 63, 64] (by decide +kernel) (by decide +kernel)
set_option maxRecDepth 20000 in
theorem gX4_canBegin_X4_areBlockersDone : GoodIn wsX4_canBegin (wsV RX4 123 RX4 yX4_areBlockersDone wsX4_areBlockersDone) := goodIn_app (goodIn_of _ (by decide +kernel)) ggX4_canBegin_X4_areBlockersDone
theorem dX4_canBegin_0 : decode cX4_canBegin 0 = .ok (.aload_n 0, 1) := by decide +kernel
theorem dX4_canBegin_1 : decode cX4_canBegin 1 = .ok (.iload_n 1, 1) := by decide +kernel
theorem dX4_canBegin_2 : decode cX4_canBegin 2 = .ok (.invokevirtual 47, 3) := by decide +kernel
theorem dX4_canBegin_5 : decode cX4_canBegin 5 = .ok (.astore_n 2, 1) := by decide +kernel
theorem dX4_canBegin_6 : decode cX4_canBegin 6 = .ok (.aload_n 2, 1) := by decide +kernel
theorem dX4_canBegin_7 : decode cX4_canBegin 7 = .ok (.getfield 71, 3) := by decide +kernel
theorem dX4_canBegin_10 : decode cX4_canBegin 10 = .ok (.bipush 111, 2) := by decide +kernel
theorem dX4_canBegin_12 : decode cX4_canBegin 12 = .ok (.if_icmp .ne 15, 3) := by decide +kernel
theorem dX4_canBegin_15 : decode cX4_canBegin 15 = .ok (.aload_n 0, 1) := by decide +kernel
theorem dX4_canBegin_16 : decode cX4_canBegin 16 = .ok (.aload_n 2, 1) := by decide +kernel
theorem dX4_canBegin_17 : decode cX4_canBegin 17 = .ok (.invokevirtual 123, 3) := by decide +kernel
theorem dX4_canBegin_20 : decode cX4_canBegin 20 = .ok (.ifCond .eq 7, 3) := by decide +kernel
theorem dX4_canBegin_23 : decode cX4_canBegin 23 = .ok (.iconst 1, 1) := by decide +kernel
theorem dX4_canBegin_24 : decode cX4_canBegin 24 = .ok (.goto 4, 3) := by decide +kernel
theorem dX4_canBegin_27 : decode cX4_canBegin 27 = .ok (.iconst 0, 1) := by decide +kernel
theorem dX4_canBegin_28 : decode cX4_canBegin 28 = .ok (.ireturn, 1) := by decide +kernel
set_option maxRecDepth 20000 in
theorem ggX4_tasks_Jx4a65c_size_8abf5 : GoodIn wsX4_tasks wsJx4a65c_size_8abf5 := goodIn_r _ [6, 7, 15, 16, 17] (by decide +kernel) (by decide +kernel)
set_option maxRecDepth 20000 in
theorem gX4_tasks_Jx4a65c_size_8abf5 : GoodIn wsX4_tasks (wsV RX4 62 RJx4a65c yJx4a65c_size_8abf5 wsJx4a65c_size_8abf5) := goodIn_app (goodIn_of _ (by decide +kernel)) ggX4_tasks_Jx4a65c_size_8abf5
theorem dX4_tasks_0 : decode cX4_tasks 0 = .ok (.aload_n 0, 1) := by decide +kernel
theorem dX4_tasks_1 : decode cX4_tasks 1 = .ok (.getfield 12, 3) := by decide +kernel
theorem dX4_tasks_4 : decode cX4_tasks 4 = .ok (.invokevirtual 62, 3) := by decide +kernel
theorem dX4_tasks_7 : decode cX4_tasks 7 = .ok (.ireturn, 1) := by decide +kernel
set_option maxRecDepth 20000 in
theorem ggX4_note_X4_requireTask : GoodIn wsX4_note wsX4_requireTask := goodIn_ca (goodIn_r _ [16, 17, 18, 19, 20, 21, 22, 23, 24, 25, 26, 27, 28, 29, 30, 31, 32, 33, 34, 35, 36, 37, 38, 39, 40, 41, 42, 43, 150, 151, 152, 153, 154, 155, 156, 164, 165, 166] (by decide +kernel) (by decide +kernel)) (goodIn_sub (fun _ h => List.mem_cons_of_mem _ (List.mem_append_right _ h)) (by decide +kernel))
set_option maxRecDepth 20000 in
theorem gX4_note_X4_requireTask : GoodIn wsX4_note (wsV RX4 47 RX4 yX4_requireTask wsX4_requireTask) := goodIn_app (goodIn_of _ (by decide +kernel)) ggX4_note_X4_requireTask
set_option maxRecDepth 20000 in
theorem ggX4_note_X4_isPerson : GoodIn wsX4_note wsX4_isPerson := goodIn_r _ [46, 47, 48, 15, 49] (by decide +kernel) (by decide +kernel)
set_option maxRecDepth 20000 in
theorem gX4_note_X4_isPerson : GoodIn wsX4_note (va_wsS RX4 157 yX4_isPerson wsX4_isPerson) := goodIn_app (goodIn_of _ (by decide +kernel)) ggX4_note_X4_isPerson
set_option maxRecDepth 20000 in
theorem ggX4_note_X4_isWeek : GoodIn wsX4_note wsX4_isWeek := goodIn_r _ [52, 47, 48, 15, 49] (by decide +kernel) (by decide +kernel)
set_option maxRecDepth 20000 in
theorem gX4_note_X4_isWeek : GoodIn wsX4_note (va_wsS RX4 161 yX4_isWeek wsX4_isWeek) := goodIn_app (goodIn_of _ (by decide +kernel)) ggX4_note_X4_isWeek
set_option maxRecDepth 20000 in
theorem ggX4_note_X4_isBetween : GoodIn wsX4_note wsX4_isBetween := goodIn_r _ [49] (by decide +kernel) (by decide +kernel)
set_option maxRecDepth 20000 in
theorem gX4_note_X4_isBetween : GoodIn wsX4_note (va_wsS RX4 51 yX4_isBetween wsX4_isBetween) := goodIn_app (goodIn_of _ (by decide +kernel)) ggX4_note_X4_isBetween
set_option maxRecDepth 20000 in
theorem ggX4_note_X4_isLocked : GoodIn wsX4_note wsX4_isLocked := goodIn_r _ [56, 57, 150, 151, 152, 153, 154, 155, 156] (by decide +kernel) (by decide +kernel)
set_option maxRecDepth 20000 in
theorem gX4_note_X4_isLocked : GoodIn wsX4_note (wsV RX4 166 RX4 yX4_isLocked wsX4_isLocked) := goodIn_app (goodIn_of _ (by decide +kernel)) ggX4_note_X4_isLocked
set_option maxRecDepth 20000 in
theorem ggX4_note_X4_roomOf : GoodIn wsX4_note wsX4_roomOf := goodIn_r _ [61, 62, 63, 64, 65, 66, 67, 68, 69, 70, 15, 71, 8, 72, 73, 74, 21, 22, 23, 24, 25, 26, 27, 28, 29, 30, 31, 32, 33, 34, 35, 36, 37, 38, 39, 40, 41, 42, 43, 75, 76, 77, 78, 79, 80, 144, 145, 146, 147, 148, 149, 150, 151, 152, 153, 154, 155, 156, 157, 158, 159, 160, 161, 162, 163, 164, 165, 166] (by decide +kernel) (by decide +kernel)
set_option maxRecDepth 20000 in
theorem gX4_note_X4_roomOf : GoodIn wsX4_note (wsV RX4 173 RX4 yX4_roomOf wsX4_roomOf) := goodIn_app (goodIn_of _ (by decide +kernel)) ggX4_note_X4_roomOf
set_option maxRecDepth 20000 in
theorem ggX4_note_Jx4a65c_size_8abf5 : GoodIn wsX4_note wsJx4a65c_size_8abf5 := goodIn_r _ [25, 26, 164, 165, 166] (by decide +kernel) (by decide +kernel)
set_option maxRecDepth 20000 in
theorem gX4_note_Jx4a65c_size_8abf5 : GoodIn wsX4_note (wsV RX4 62 RJx4a65c yJx4a65c_size_8abf5 wsJx4a65c_size_8abf5) := goodIn_app (goodIn_of _ (by decide +kernel)) ggX4_note_Jx4a65c_size_8abf5
set_option maxRecDepth 20000 in
theorem ggX4_note_X0_init : GoodIn wsX4_note wsX0_init := goodIn_r _ [83, 84, 85, 86, 87, 88, 89, 90, 91, 92, 93, 157, 158, 159, 160, 161, 162, 163] (by decide +kernel) (by decide +kernel)
set_option maxRecDepth 20000 in
theorem gX4_note_X0_init : GoodIn wsX4_note (wsX0_init) := ggX4_note_X0_init
set_option maxRecDepth 20000 in
theorem ggX4_note_Jx4a65c_add_9ea2d : GoodIn wsX4_note wsJx4a65c_add_9ea2d := goodIn_r _ [97, 98, 99, 43, 26, 100, 101, 102, 24, 103, 104, 105, 106, 107, 108, 109, 110, 111, 112, 113, 114, 65, 115, 116, 117, 118, 119, 120, 121, 122, 123, 124, 125, 126, 127, 128, 129, 130, 131, 132, 133, 134, 135, 136, 137, 138, 139, 64, 66, 140, 141, 142, 143, 164, 165, 166] (by decide +kernel) (by decide +kernel)
set_option maxRecDepth 20000 in
theorem gX4_note_Jx4a65c_add_9ea2d : GoodIn wsX4_note (wsV RX4 85 RJx4a65c yJx4a65c_add_9ea2d wsJx4a65c_add_9ea2d) := goodIn_app (goodIn_of _ (by decide +kernel)) ggX4_note_Jx4a65c_add_9ea2d
theorem dX4_note_0 : decode cX4_note 0 = .ok (.aload_n 0, 1) := by decide +kernel
theorem dX4_note_1 : decode cX4_note 1 = .ok (.iload_n 1, 1) := by decide +kernel
theorem dX4_note_2 : decode cX4_note 2 = .ok (.invokevirtual 47, 3) := by decide +kernel
theorem dX4_note_5 : decode cX4_note 5 = .ok (.astore 5, 2) := by decide +kernel
theorem dX4_note_7 : decode cX4_note 7 = .ok (.iload_n 2, 1) := by decide +kernel
theorem dX4_note_8 : decode cX4_note 8 = .ok (.invokestatic 157, 3) := by decide +kernel
theorem dX4_note_11 : decode cX4_note 11 = .ok (.ifCond .eq 21, 3) := by decide +kernel
theorem dX4_note_14 : decode cX4_note 14 = .ok (.iload_n 3, 1) := by decide +kernel
theorem dX4_note_15 : decode cX4_note 15 = .ok (.invokestatic 161, 3) := by decide +kernel
theorem dX4_note_18 : decode cX4_note 18 = .ok (.ifCond .eq 14, 3) := by decide +kernel
theorem dX4_note_21 : decode cX4_note 21 = .ok (.iload 4, 2) := by decide +kernel
theorem dX4_note_23 : decode cX4_note 23 = .ok (.iconst 1, 1) := by decide +kernel
theorem dX4_note_24 : decode cX4_note 24 = .ok (.bipush 40, 2) := by decide +kernel
theorem dX4_note_26 : decode cX4_note 26 = .ok (.invokestatic 51, 3) := by decide +kernel
theorem dX4_note_29 : decode cX4_note 29 = .ok (.ifCond .ne 13, 3) := by decide +kernel
theorem dX4_note_32 : decode cX4_note 32 = .ok (.new 55, 3) := by decide +kernel
theorem dX4_note_35 : decode cX4_note 35 = .ok (.dup, 1) := by decide +kernel
theorem dX4_note_36 : decode cX4_note 36 = .ok (.ldc 164, 2) := by decide +kernel
theorem dX4_note_38 : decode cX4_note 38 = .ok (.invokespecial 59, 3) := by decide +kernel
theorem dX4_note_41 : decode cX4_note 41 = .ok (.athrow, 1) := by decide +kernel
theorem dX4_note_42 : decode cX4_note 42 = .ok (.aload_n 0, 1) := by decide +kernel
theorem dX4_note_43 : decode cX4_note 43 = .ok (.iload_n 3, 1) := by decide +kernel
theorem dX4_note_44 : decode cX4_note 44 = .ok (.invokevirtual 166, 3) := by decide +kernel
theorem dX4_note_47 : decode cX4_note 47 = .ok (.ifCond .eq 13, 3) := by decide +kernel
theorem dX4_note_50 : decode cX4_note 50 = .ok (.new 77, 3) := by decide +kernel
theorem dX4_note_53 : decode cX4_note 53 = .ok (.dup, 1) := by decide +kernel
theorem dX4_note_54 : decode cX4_note 54 = .ok (.ldc 169, 2) := by decide +kernel
theorem dX4_note_56 : decode cX4_note 56 = .ok (.invokespecial 81, 3) := by decide +kernel
theorem dX4_note_59 : decode cX4_note 59 = .ok (.athrow, 1) := by decide +kernel
theorem dX4_note_60 : decode cX4_note 60 = .ok (.aload 5, 2) := by decide +kernel
theorem dX4_note_62 : decode cX4_note 62 = .ok (.getfield 71, 3) := by decide +kernel
theorem dX4_note_65 : decode cX4_note 65 = .ok (.bipush 119, 2) := by decide +kernel
theorem dX4_note_67 : decode cX4_note 67 = .ok (.if_icmp .eq 23, 3) := by decide +kernel
theorem dX4_note_70 : decode cX4_note 70 = .ok (.aload 5, 2) := by decide +kernel
theorem dX4_note_72 : decode cX4_note 72 = .ok (.getfield 71, 3) := by decide +kernel
theorem dX4_note_75 : decode cX4_note 75 = .ok (.bipush 114, 2) := by decide +kernel
theorem dX4_note_77 : decode cX4_note 77 = .ok (.if_icmp .eq 13, 3) := by decide +kernel
theorem dX4_note_80 : decode cX4_note 80 = .ok (.new 66, 3) := by decide +kernel
theorem dX4_note_83 : decode cX4_note 83 = .ok (.dup, 1) := by decide +kernel
theorem dX4_note_84 : decode cX4_note 84 = .ok (.ldc 171, 2) := by decide +kernel
theorem dX4_note_86 : decode cX4_note 86 = .ok (.invokespecial 70, 3) := by decide +kernel
theorem dX4_note_89 : decode cX4_note 89 = .ok (.athrow, 1) := by decide +kernel
theorem dX4_note_90 : decode cX4_note 90 = .ok (.iload 4, 2) := by decide +kernel
theorem dX4_note_92 : decode cX4_note 92 = .ok (.aload_n 0, 1) := by decide +kernel
theorem dX4_note_93 : decode cX4_note 93 = .ok (.aload 5, 2) := by decide +kernel
theorem dX4_note_95 : decode cX4_note 95 = .ok (.invokevirtual 173, 3) := by decide +kernel
theorem dX4_note_98 : decode cX4_note 98 = .ok (.if_icmp .gt 15, 3) := by decide +kernel
theorem dX4_note_101 : decode cX4_note 101 = .ok (.aload_n 0, 1) := by decide +kernel
theorem dX4_note_102 : decode cX4_note 102 = .ok (.getfield 16, 3) := by decide +kernel
theorem dX4_note_105 : decode cX4_note 105 = .ok (.invokevirtual 62, 3) := by decide +kernel
theorem dX4_note_108 : decode cX4_note 108 = .ok (.bipush 60, 2) := by decide +kernel
theorem dX4_note_110 : decode cX4_note 110 = .ok (.if_icmp .lt 13, 3) := by decide +kernel
theorem dX4_note_113 : decode cX4_note 113 = .ok (.new 66, 3) := by decide +kernel
theorem dX4_note_116 : decode cX4_note 116 = .ok (.dup, 1) := by decide +kernel
theorem dX4_note_117 : decode cX4_note 117 = .ok (.ldc 176, 2) := by decide +kernel
theorem dX4_note_119 : decode cX4_note 119 = .ok (.invokespecial 70, 3) := by decide +kernel
theorem dX4_note_122 : decode cX4_note 122 = .ok (.athrow, 1) := by decide +kernel
theorem dX4_note_123 : decode cX4_note 123 = .ok (.aload_n 0, 1) := by decide +kernel
theorem dX4_note_124 : decode cX4_note 124 = .ok (.getfield 16, 3) := by decide +kernel
theorem dX4_note_127 : decode cX4_note 127 = .ok (.new 178, 3) := by decide +kernel
theorem dX4_note_130 : decode cX4_note 130 = .ok (.dup, 1) := by decide +kernel
theorem dX4_note_131 : decode cX4_note 131 = .ok (.aload 5, 2) := by decide +kernel
theorem dX4_note_133 : decode cX4_note 133 = .ok (.iload_n 2, 1) := by decide +kernel
theorem dX4_note_134 : decode cX4_note 134 = .ok (.iload_n 3, 1) := by decide +kernel
theorem dX4_note_135 : decode cX4_note 135 = .ok (.iload 4, 2) := by decide +kernel
theorem dX4_note_137 : decode cX4_note 137 = .ok (.invokespecial 180, 3) := by decide +kernel
theorem dX4_note_140 : decode cX4_note 140 = .ok (.invokevirtual 85, 3) := by decide +kernel
theorem dX4_note_143 : decode cX4_note 143 = .ok (.pop, 1) := by decide +kernel
theorem dX4_note_144 : decode cX4_note 144 = .ok (.aload_n 0, 1) := by decide +kernel
theorem dX4_note_145 : decode cX4_note 145 = .ok (.getfield 16, 3) := by decide +kernel
theorem dX4_note_148 : decode cX4_note 148 = .ok (.invokevirtual 62, 3) := by decide +kernel
theorem dX4_note_151 : decode cX4_note 151 = .ok (.iconst 1, 1) := by decide +kernel
theorem dX4_note_152 : decode cX4_note 152 = .ok (.isub, 1) := by decide +kernel
theorem dX4_note_153 : decode cX4_note 153 = .ok (.ireturn, 1) := by decide +kernel
set_option maxRecDepth 20000 in
theorem ggX4_approve_X4_requireEntry : GoodIn wsX4_approve wsX4_requireEntry := goodIn_ca (goodIn_r _ [11, 12, 13, 14, 15, 16, 17, 18, 19, 20, 21, 22, 23, 24, 25, 26, 27, 28, 29, 30, 31, 32, 33, 34, 35, 36, 37, 38, 56, 57, 58, 59, 60, 61, 62, 63, 64, 65] (by decide +kernel) (by decide +kernel)) (goodIn_sub (fun _ h => List.mem_cons_of_mem _ (List.mem_append_right _ h)) (by decide +kernel))
set_option maxRecDepth 20000 in
theorem gX4_approve_X4_requireEntry : GoodIn wsX4_approve (wsV RX4 183 RX4 yX4_requireEntry wsX4_requireEntry) := goodIn_app (goodIn_of _ (by decide +kernel)) ggX4_approve_X4_requireEntry
set_option maxRecDepth 20000 in
theorem ggX4_approve_X4_isLocked : GoodIn wsX4_approve wsX4_isLocked := goodIn_r _ [42, 43, 56, 57, 58, 59, 60, 61, 62] (by decide +kernel) (by decide +kernel)
set_option maxRecDepth 20000 in
theorem gX4_approve_X4_isLocked : GoodIn wsX4_approve (wsV RX4 166 RX4 yX4_isLocked wsX4_isLocked) := goodIn_app (goodIn_of _ (by decide +kernel)) ggX4_approve_X4_isLocked
set_option maxRecDepth 20000 in
theorem ggX4_approve_X4_approvedHours : GoodIn wsX4_approve wsX4_approvedHours := goodIn_r _ [47, 14, 15, 6, 5, 48, 16, 17, 18, 19, 20, 21, 22, 23, 24, 25, 26, 27, 28, 29, 30, 31, 32, 33, 34, 35, 36, 37, 38, 56, 57, 58, 59, 60, 61, 62, 49, 50, 51, 52, 53, 54, 55, 63, 64, 65] (by decide +kernel) (by decide +kernel)
set_option maxRecDepth 20000 in
theorem gX4_approve_X4_approvedHours : GoodIn wsX4_approve (wsV RX4 193 RX4 yX4_approvedHours wsX4_approvedHours) := goodIn_app (goodIn_of _ (by decide +kernel)) ggX4_approve_X4_approvedHours
theorem dX4_approve_0 : decode cX4_approve 0 = .ok (.aload_n 0, 1) := by decide +kernel
theorem dX4_approve_1 : decode cX4_approve 1 = .ok (.iload_n 1, 1) := by decide +kernel
theorem dX4_approve_2 : decode cX4_approve 2 = .ok (.invokevirtual 183, 3) := by decide +kernel
theorem dX4_approve_5 : decode cX4_approve 5 = .ok (.astore_n 2, 1) := by decide +kernel
theorem dX4_approve_6 : decode cX4_approve 6 = .ok (.aload_n 2, 1) := by decide +kernel
theorem dX4_approve_7 : decode cX4_approve 7 = .ok (.getfield 187, 3) := by decide +kernel
theorem dX4_approve_10 : decode cX4_approve 10 = .ok (.bipush 110, 2) := by decide +kernel
theorem dX4_approve_12 : decode cX4_approve 12 = .ok (.if_icmp .eq 13, 3) := by decide +kernel
theorem dX4_approve_15 : decode cX4_approve 15 = .ok (.new 66, 3) := by decide +kernel
theorem dX4_approve_18 : decode cX4_approve 18 = .ok (.dup, 1) := by decide +kernel
theorem dX4_approve_19 : decode cX4_approve 19 = .ok (.ldc 188, 2) := by decide +kernel
theorem dX4_approve_21 : decode cX4_approve 21 = .ok (.invokespecial 70, 3) := by decide +kernel
theorem dX4_approve_24 : decode cX4_approve 24 = .ok (.athrow, 1) := by decide +kernel
theorem dX4_approve_25 : decode cX4_approve 25 = .ok (.aload_n 0, 1) := by decide +kernel
theorem dX4_approve_26 : decode cX4_approve 26 = .ok (.aload_n 2, 1) := by decide +kernel
theorem dX4_approve_27 : decode cX4_approve 27 = .ok (.getfield 190, 3) := by decide +kernel
theorem dX4_approve_30 : decode cX4_approve 30 = .ok (.invokevirtual 166, 3) := by decide +kernel
theorem dX4_approve_33 : decode cX4_approve 33 = .ok (.ifCond .eq 13, 3) := by decide +kernel
theorem dX4_approve_36 : decode cX4_approve 36 = .ok (.new 77, 3) := by decide +kernel
theorem dX4_approve_39 : decode cX4_approve 39 = .ok (.dup, 1) := by decide +kernel
theorem dX4_approve_40 : decode cX4_approve 40 = .ok (.ldc 169, 2) := by decide +kernel
theorem dX4_approve_42 : decode cX4_approve 42 = .ok (.invokespecial 81, 3) := by decide +kernel
theorem dX4_approve_45 : decode cX4_approve 45 = .ok (.athrow, 1) := by decide +kernel
theorem dX4_approve_46 : decode cX4_approve 46 = .ok (.aload_n 2, 1) := by decide +kernel
theorem dX4_approve_47 : decode cX4_approve 47 = .ok (.bipush 97, 2) := by decide +kernel
theorem dX4_approve_49 : decode cX4_approve 49 = .ok (.putfield 187, 3) := by decide +kernel
theorem dX4_approve_52 : decode cX4_approve 52 = .ok (.aload_n 0, 1) := by decide +kernel
theorem dX4_approve_53 : decode cX4_approve 53 = .ok (.aload_n 2, 1) := by decide +kernel
theorem dX4_approve_54 : decode cX4_approve 54 = .ok (.getfield 190, 3) := by decide +kernel
theorem dX4_approve_57 : decode cX4_approve 57 = .ok (.invokevirtual 193, 3) := by decide +kernel
theorem dX4_approve_60 : decode cX4_approve 60 = .ok (.ireturn, 1) := by decide +kernel
set_option maxRecDepth 20000 in
theorem ggX4_lock_X4_requireWeek : GoodIn wsX4_lock wsX4_requireWeek := goodIn_ca (goodIn_r _ [7, 8, 9, 10, 11, 6, 12, 13, 14, 15] (by decide +kernel) (by decide +kernel)) (goodIn_sub (fun _ h => List.mem_cons_of_mem _ (List.mem_append_right _ h)) (by decide +kernel))
set_option maxRecDepth 20000 in
theorem gX4_lock_X4_requireWeek : GoodIn wsX4_lock (va_wsS RX4 196 yX4_requireWeek wsX4_requireWeek) := goodIn_app (goodIn_of _ (by decide +kernel)) ggX4_lock_X4_requireWeek
set_option maxRecDepth 20000 in
theorem ggX4_lock_X4_isLocked : GoodIn wsX4_lock wsX4_isLocked := goodIn_r _ [19, 3, 51, 52, 53, 54, 55, 56, 57] (by decide +kernel) (by decide +kernel)
set_option maxRecDepth 20000 in
theorem gX4_lock_X4_isLocked : GoodIn wsX4_lock (wsV RX4 166 RX4 yX4_isLocked wsX4_isLocked) := goodIn_app (goodIn_of _ (by decide +kernel)) ggX4_lock_X4_isLocked
set_option maxRecDepth 20000 in
theorem ggX4_lock_X4_dropNotedEntries : GoodIn wsX4_lock wsX4_dropNotedEntries := goodIn_r _ [23, 24, 25, 26, 27, 28, 29, 30, 31, 32, 33, 34, 35, 36, 37, 38, 39, 40, 41, 42, 43, 44, 45, 46, 47, 48, 49, 50, 51, 52, 53, 54, 55, 56, 57, 58, 59, 60, 61, 62, 63, 64, 65, 66, 67] (by decide +kernel) (by decide +kernel)
set_option maxRecDepth 20000 in
theorem gX4_lock_X4_dropNotedEntries : GoodIn wsX4_lock (wsV RX4 200 RX4 yX4_dropNotedEntries wsX4_dropNotedEntries) := goodIn_app (goodIn_of _ (by decide +kernel)) ggX4_lock_X4_dropNotedEntries
theorem dX4_lock_0 : decode cX4_lock 0 = .ok (.iload_n 1, 1) := by decide +kernel
theorem dX4_lock_1 : decode cX4_lock 1 = .ok (.invokestatic 196, 3) := by decide +kernel
theorem dX4_lock_4 : decode cX4_lock 4 = .ok (.aload_n 0, 1) := by decide +kernel
theorem dX4_lock_5 : decode cX4_lock 5 = .ok (.iload_n 1, 1) := by decide +kernel
theorem dX4_lock_6 : decode cX4_lock 6 = .ok (.invokevirtual 166, 3) := by decide +kernel
theorem dX4_lock_9 : decode cX4_lock 9 = .ok (.ifCond .eq 13, 3) := by decide +kernel
theorem dX4_lock_12 : decode cX4_lock 12 = .ok (.new 66, 3) := by decide +kernel
theorem dX4_lock_15 : decode cX4_lock 15 = .ok (.dup, 1) := by decide +kernel
theorem dX4_lock_16 : decode cX4_lock 16 = .ok (.ldc 169, 2) := by decide +kernel
theorem dX4_lock_18 : decode cX4_lock 18 = .ok (.invokespecial 70, 3) := by decide +kernel
theorem dX4_lock_21 : decode cX4_lock 21 = .ok (.athrow, 1) := by decide +kernel
theorem dX4_lock_22 : decode cX4_lock 22 = .ok (.aload_n 0, 1) := by decide +kernel
theorem dX4_lock_23 : decode cX4_lock 23 = .ok (.dup, 1) := by decide +kernel
theorem dX4_lock_24 : decode cX4_lock 24 = .ok (.getfield 44, 3) := by decide +kernel
theorem dX4_lock_27 : decode cX4_lock 27 = .ok (.iconst 1, 1) := by decide +kernel
theorem dX4_lock_28 : decode cX4_lock 28 = .ok (.iload_n 1, 1) := by decide +kernel
theorem dX4_lock_29 : decode cX4_lock 29 = .ok (.ishl, 1) := by decide +kernel
theorem dX4_lock_30 : decode cX4_lock 30 = .ok (.ior, 1) := by decide +kernel
theorem dX4_lock_31 : decode cX4_lock 31 = .ok (.putfield 44, 3) := by decide +kernel
theorem dX4_lock_34 : decode cX4_lock 34 = .ok (.aload_n 0, 1) := by decide +kernel
theorem dX4_lock_35 : decode cX4_lock 35 = .ok (.iload_n 1, 1) := by decide +kernel
theorem dX4_lock_36 : decode cX4_lock 36 = .ok (.invokevirtual 200, 3) := by decide +kernel
theorem dX4_lock_39 : decode cX4_lock 39 = .ok (.ireturn, 1) := by decide +kernel
set_option maxRecDepth 20000 in
theorem ggX4_entryState_X4_requireEntry : GoodIn wsX4_entryState wsX4_requireEntry := goodIn_ca (goodIn_r _ [6, 7, 8, 9, 10, 11, 12, 13, 14, 15, 16, 17, 18, 19, 20, 21, 22, 23, 24, 25, 26, 27, 28, 29, 30, 31, 32, 33, 41, 42, 43, 44, 45, 46, 47, 48, 49, 50] (by decide +kernel) (by decide +kernel)) (goodIn_sub (fun _ h => List.mem_cons_of_mem _ (List.mem_append_right _ h)) (by decide +kernel))
set_option maxRecDepth 20000 in
theorem gX4_entryState_X4_requireEntry : GoodIn wsX4_entryState (wsV RX4 183 RX4 yX4_requireEntry wsX4_requireEntry) := goodIn_app (goodIn_of _ (by decide +kernel)) ggX4_entryState_X4_requireEntry
theorem dX4_entryState_0 : decode cX4_entryState 0 = .ok (.aload_n 0, 1) := by decide +kernel
theorem dX4_entryState_1 : decode cX4_entryState 1 = .ok (.iload_n 1, 1) := by decide +kernel
theorem dX4_entryState_2 : decode cX4_entryState 2 = .ok (.invokevirtual 183, 3) := by decide +kernel
theorem dX4_entryState_5 : decode cX4_entryState 5 = .ok (.getfield 187, 3) := by decide +kernel
theorem dX4_entryState_8 : decode cX4_entryState 8 = .ok (.ireturn, 1) := by decide +kernel
set_option maxRecDepth 20000 in
theorem ggX4_price_X4_requireEntry : GoodIn wsX4_price wsX4_requireEntry := goodIn_ca (goodIn_r _ [6, 7, 8, 9, 10, 11, 12, 13, 14, 15, 16, 17, 18, 19, 20, 21, 22, 23, 24, 25, 26, 27, 28, 29, 30, 31, 32, 33, 47, 48, 49, 50, 51, 52, 53, 54, 55, 56] (by decide +kernel) (by decide +kernel)) (goodIn_sub (fun _ h => List.mem_cons_of_mem _ (List.mem_append_left _ (List.mem_append_right _ h))) (by decide +kernel))
set_option maxRecDepth 20000 in
theorem gX4_price_X4_requireEntry : GoodIn wsX4_price (wsV RX4 183 RX4 yX4_requireEntry wsX4_requireEntry) := goodIn_app (goodIn_of _ (by decide +kernel)) ggX4_price_X4_requireEntry
set_option maxRecDepth 20000 in
theorem ggX4_price_X4_requireInvoiceOf : GoodIn wsX4_price wsX4_requireInvoiceOf := goodIn_ca (goodIn_r _ [36, 37, 38, 39, 40, 41, 42, 43, 44, 45, 46] (by decide +kernel) (by decide +kernel)) (goodIn_sub (fun _ h => List.mem_cons_of_mem _ (List.mem_append_right _ h)) (by decide +kernel))
set_option maxRecDepth 20000 in
theorem gX4_price_X4_requireInvoiceOf : GoodIn wsX4_price (va_wsS RX4 203 yX4_requireInvoiceOf wsX4_requireInvoiceOf) := goodIn_app (goodIn_of _ (by decide +kernel)) ggX4_price_X4_requireInvoiceOf
theorem dX4_price_0 : decode cX4_price 0 = .ok (.aload_n 0, 1) := by decide +kernel
theorem dX4_price_1 : decode cX4_price 1 = .ok (.iload_n 1, 1) := by decide +kernel
theorem dX4_price_2 : decode cX4_price 2 = .ok (.invokevirtual 183, 3) := by decide +kernel
theorem dX4_price_5 : decode cX4_price 5 = .ok (.astore_n 2, 1) := by decide +kernel
theorem dX4_price_6 : decode cX4_price 6 = .ok (.aload_n 2, 1) := by decide +kernel
theorem dX4_price_7 : decode cX4_price 7 = .ok (.invokestatic 203, 3) := by decide +kernel
theorem dX4_price_10 : decode cX4_price 10 = .ok (.pop, 1) := by decide +kernel
theorem dX4_price_11 : decode cX4_price 11 = .ok (.aload_n 2, 1) := by decide +kernel
theorem dX4_price_12 : decode cX4_price 12 = .ok (.getfield 207, 3) := by decide +kernel
theorem dX4_price_15 : decode cX4_price 15 = .ok (.ireturn, 1) := by decide +kernel
set_option maxRecDepth 20000 in
theorem ggX4_entries_Jx4a65c_size_8abf5 : GoodIn wsX4_entries wsJx4a65c_size_8abf5 := goodIn_r _ [6, 7, 15, 16, 17] (by decide +kernel) (by decide +kernel)
set_option maxRecDepth 20000 in
theorem gX4_entries_Jx4a65c_size_8abf5 : GoodIn wsX4_entries (wsV RX4 62 RJx4a65c yJx4a65c_size_8abf5 wsJx4a65c_size_8abf5) := goodIn_app (goodIn_of _ (by decide +kernel)) ggX4_entries_Jx4a65c_size_8abf5
theorem dX4_entries_0 : decode cX4_entries 0 = .ok (.aload_n 0, 1) := by decide +kernel
theorem dX4_entries_1 : decode cX4_entries 1 = .ok (.getfield 16, 3) := by decide +kernel
theorem dX4_entries_4 : decode cX4_entries 4 = .ok (.invokevirtual 62, 3) := by decide +kernel
theorem dX4_entries_7 : decode cX4_entries 7 = .ok (.ireturn, 1) := by decide +kernel
set_option maxRecDepth 20000 in
theorem ggX4_hours_X4_requireTask : GoodIn wsX4_hours wsX4_requireTask := goodIn_ca (goodIn_r _ [5, 6, 7, 8, 9, 10, 11, 12, 13, 14, 15, 16, 17, 18, 19, 20, 21, 22, 23, 24, 25, 26, 27, 28, 29, 30, 31, 32, 47, 48, 49, 50, 51, 52, 53, 54, 55, 56] (by decide +kernel) (by decide +kernel)) (goodIn_sub (fun _ h => List.mem_cons_of_mem _ (List.mem_append_right _ h)) (by decide +kernel))
set_option maxRecDepth 20000 in
theorem gX4_hours_X4_requireTask : GoodIn wsX4_hours (wsV RX4 47 RX4 yX4_requireTask wsX4_requireTask) := goodIn_app (goodIn_of _ (by decide +kernel)) ggX4_hours_X4_requireTask
set_option maxRecDepth 20000 in
theorem ggX4_hours_X4_treeHours : GoodIn wsX4_hours wsX4_treeHours := goodIn_r _ [36, 37, 38, 39, 40, 10, 11, 12, 13, 14, 15, 16, 17, 18, 19, 20, 21, 22, 23, 24, 25, 26, 27, 28, 29, 30, 31, 32, 41, 42, 43, 44, 45, 46, 47, 48, 49, 50, 51, 52, 53, 57, 58, 59, 60, 61, 62, 63, 54, 55, 56, 64, 65, 66, 67, 68, 69] (by decide +kernel) (by decide +kernel)
set_option maxRecDepth 20000 in
theorem gX4_hours_X4_treeHours : GoodIn wsX4_hours (wsV RX4 210 RX4 yX4_treeHours wsX4_treeHours) := goodIn_app (goodIn_of _ (by decide +kernel)) ggX4_hours_X4_treeHours
theorem dX4_hours_0 : decode cX4_hours 0 = .ok (.aload_n 0, 1) := by decide +kernel
theorem dX4_hours_1 : decode cX4_hours 1 = .ok (.aload_n 0, 1) := by decide +kernel
theorem dX4_hours_2 : decode cX4_hours 2 = .ok (.iload_n 1, 1) := by decide +kernel
theorem dX4_hours_3 : decode cX4_hours 3 = .ok (.invokevirtual 47, 3) := by decide +kernel
theorem dX4_hours_6 : decode cX4_hours 6 = .ok (.invokevirtual 210, 3) := by decide +kernel
theorem dX4_hours_9 : decode cX4_hours 9 = .ok (.ireturn, 1) := by decide +kernel
set_option maxRecDepth 20000 in
theorem ggX4_room_X4_requireTask : GoodIn wsX4_room wsX4_requireTask := goodIn_ca (goodIn_r _ [7, 8, 9, 10, 11, 12, 13, 14, 15, 16, 17, 18, 19, 20, 21, 22, 23, 24, 25, 26, 27, 28, 29, 30, 31, 32, 33, 34, 59, 60, 61, 62, 63, 64, 65, 66, 67, 68] (by decide +kernel) (by decide +kernel)) (goodIn_sub (fun _ h => List.mem_cons_of_mem _ (List.mem_append_right _ h)) (by decide +kernel))
set_option maxRecDepth 20000 in
theorem gX4_room_X4_requireTask : GoodIn wsX4_room (wsV RX4 47 RX4 yX4_requireTask wsX4_requireTask) := goodIn_app (goodIn_of _ (by decide +kernel)) ggX4_room_X4_requireTask
set_option maxRecDepth 20000 in
theorem ggX4_room_X4_roomOf : GoodIn wsX4_room wsX4_roomOf := goodIn_r _ [38, 39, 40, 41, 42, 43, 44, 45, 46, 47, 6, 48, 49, 50, 51, 52, 12, 13, 14, 15, 16, 17, 18, 19, 20, 21, 22, 23, 24, 25, 26, 27, 28, 29, 30, 31, 32, 33, 34, 53, 54, 55, 56, 57, 58, 69, 70, 71, 72, 73, 74, 59, 60, 61, 62, 63, 64, 65, 75, 76, 77, 78, 79, 80, 81, 66, 67, 68] (by decide +kernel) (by decide +kernel)
set_option maxRecDepth 20000 in
theorem gX4_room_X4_roomOf : GoodIn wsX4_room (wsV RX4 173 RX4 yX4_roomOf wsX4_roomOf) := goodIn_app (goodIn_of _ (by decide +kernel)) ggX4_room_X4_roomOf
theorem dX4_room_0 : decode cX4_room 0 = .ok (.aload_n 0, 1) := by decide +kernel
theorem dX4_room_1 : decode cX4_room 1 = .ok (.aload_n 0, 1) := by decide +kernel
theorem dX4_room_2 : decode cX4_room 2 = .ok (.iload_n 1, 1) := by decide +kernel
theorem dX4_room_3 : decode cX4_room 3 = .ok (.invokevirtual 47, 3) := by decide +kernel
theorem dX4_room_6 : decode cX4_room 6 = .ok (.invokevirtual 173, 3) := by decide +kernel
theorem dX4_room_9 : decode cX4_room 9 = .ok (.istore_n 2, 1) := by decide +kernel
theorem dX4_room_10 : decode cX4_room 10 = .ok (.iload_n 2, 1) := by decide +kernel
theorem dX4_room_11 : decode cX4_room 11 = .ok (.sipush 401, 3) := by decide +kernel
theorem dX4_room_14 : decode cX4_room 14 = .ok (.if_icmp .ne 13, 3) := by decide +kernel
theorem dX4_room_17 : decode cX4_room 17 = .ok (.new 145, 3) := by decide +kernel
theorem dX4_room_20 : decode cX4_room 20 = .ok (.dup, 1) := by decide +kernel
theorem dX4_room_21 : decode cX4_room 21 = .ok (.ldc 213, 2) := by decide +kernel
theorem dX4_room_23 : decode cX4_room 23 = .ok (.invokespecial 149, 3) := by decide +kernel
theorem dX4_room_26 : decode cX4_room 26 = .ok (.athrow, 1) := by decide +kernel
theorem dX4_room_27 : decode cX4_room 27 = .ok (.iload_n 2, 1) := by decide +kernel
theorem dX4_room_28 : decode cX4_room 28 = .ok (.ireturn, 1) := by decide +kernel
set_option maxRecDepth 20000 in
theorem ggX4_setRate_X4_isPerson : GoodIn wsX4_setRate wsX4_isPerson := goodIn_r _ [7, 8, 9, 6, 10] (by decide +kernel) (by decide +kernel)
set_option maxRecDepth 20000 in
theorem gX4_setRate_X4_isPerson : GoodIn wsX4_setRate (va_wsS RX4 157 yX4_isPerson wsX4_isPerson) := goodIn_app (goodIn_of _ (by decide +kernel)) ggX4_setRate_X4_isPerson
set_option maxRecDepth 20000 in
theorem ggX4_setRate_X4_isBetween : GoodIn wsX4_setRate wsX4_isBetween := goodIn_r _ [10] (by decide +kernel) (by decide +kernel)
set_option maxRecDepth 20000 in
theorem gX4_setRate_X4_isBetween : GoodIn wsX4_setRate (va_wsS RX4 51 yX4_isBetween wsX4_isBetween) := goodIn_app (goodIn_of _ (by decide +kernel)) ggX4_setRate_X4_isBetween
set_option maxRecDepth 20000 in
theorem ggX4_setRate_X2_rateOf : GoodIn wsX4_setRate wsX2_rateOf := goodIn_ca (goodIn_r _ [15, 16, 28, 29, 30, 31] (by decide +kernel) (by decide +kernel)) (goodIn_sub (fun _ h => List.mem_cons_of_mem _ (List.mem_append_right _ h)) (by decide +kernel))
set_option maxRecDepth 20000 in
theorem gX4_setRate_X2_rateOf : GoodIn wsX4_setRate (wsV RX4 217 RX2 yX2_rateOf wsX2_rateOf) := goodIn_app (goodIn_of _ (by decide +kernel)) ggX4_setRate_X2_rateOf
set_option maxRecDepth 20000 in
theorem ggX4_setRate_X2_changeRate : GoodIn wsX4_setRate wsX2_changeRate := goodIn_ca (goodIn_r _ [20, 16, 28, 29, 30, 31] (by decide +kernel) (by decide +kernel)) (goodIn_sub (fun _ h => List.mem_cons_of_mem _ (List.mem_append_right _ h)) (by decide +kernel))
set_option maxRecDepth 20000 in
theorem gX4_setRate_X2_changeRate : GoodIn wsX4_setRate (wsV RX4 220 RX2 yX2_changeRate wsX2_changeRate) := goodIn_app (goodIn_of _ (by decide +kernel)) ggX4_setRate_X2_changeRate
theorem dX4_setRate_0 : decode cX4_setRate 0 = .ok (.iload_n 1, 1) := by decide +kernel
theorem dX4_setRate_1 : decode cX4_setRate 1 = .ok (.invokestatic 157, 3) := by decide +kernel
theorem dX4_setRate_4 : decode cX4_setRate 4 = .ok (.ifCond .eq 14, 3) := by decide +kernel
theorem dX4_setRate_7 : decode cX4_setRate 7 = .ok (.iload_n 2, 1) := by decide +kernel
theorem dX4_setRate_8 : decode cX4_setRate 8 = .ok (.iconst 0, 1) := by decide +kernel
theorem dX4_setRate_9 : decode cX4_setRate 9 = .ok (.sipush 200, 3) := by decide +kernel
theorem dX4_setRate_12 : decode cX4_setRate 12 = .ok (.invokestatic 51, 3) := by decide +kernel
theorem dX4_setRate_15 : decode cX4_setRate 15 = .ok (.ifCond .ne 13, 3) := by decide +kernel
theorem dX4_setRate_18 : decode cX4_setRate 18 = .ok (.new 55, 3) := by decide +kernel
theorem dX4_setRate_21 : decode cX4_setRate 21 = .ok (.dup, 1) := by decide +kernel
theorem dX4_setRate_22 : decode cX4_setRate 22 = .ok (.ldc 215, 2) := by decide +kernel
theorem dX4_setRate_24 : decode cX4_setRate 24 = .ok (.invokespecial 59, 3) := by decide +kernel
theorem dX4_setRate_27 : decode cX4_setRate 27 = .ok (.athrow, 1) := by decide +kernel
theorem dX4_setRate_28 : decode cX4_setRate 28 = .ok (.aload_n 0, 1) := by decide +kernel
theorem dX4_setRate_29 : decode cX4_setRate 29 = .ok (.getfield 33, 3) := by decide +kernel
theorem dX4_setRate_32 : decode cX4_setRate 32 = .ok (.iload_n 1, 1) := by decide +kernel
theorem dX4_setRate_33 : decode cX4_setRate 33 = .ok (.invokevirtual 217, 3) := by decide +kernel
theorem dX4_setRate_36 : decode cX4_setRate 36 = .ok (.istore_n 3, 1) := by decide +kernel
theorem dX4_setRate_37 : decode cX4_setRate 37 = .ok (.aload_n 0, 1) := by decide +kernel
theorem dX4_setRate_38 : decode cX4_setRate 38 = .ok (.getfield 33, 3) := by decide +kernel
theorem dX4_setRate_41 : decode cX4_setRate 41 = .ok (.iload_n 1, 1) := by decide +kernel
theorem dX4_setRate_42 : decode cX4_setRate 42 = .ok (.iload_n 2, 1) := by decide +kernel
theorem dX4_setRate_43 : decode cX4_setRate 43 = .ok (.invokevirtual 220, 3) := by decide +kernel
theorem dX4_setRate_46 : decode cX4_setRate 46 = .ok (.iload_n 3, 1) := by decide +kernel
theorem dX4_setRate_47 : decode cX4_setRate 47 = .ok (.ireturn, 1) := by decide +kernel
set_option maxRecDepth 20000 in
theorem ggX4_setCap_X4_isBetween : GoodIn wsX4_setCap wsX4_isBetween := goodIn_r _ [13] (by decide +kernel) (by decide +kernel)
set_option maxRecDepth 20000 in
theorem gX4_setCap_X4_isBetween : GoodIn wsX4_setCap (va_wsS RX4 51 yX4_isBetween wsX4_isBetween) := goodIn_app (goodIn_of _ (by decide +kernel)) ggX4_setCap_X4_isBetween
theorem dX4_setCap_0 : decode cX4_setCap 0 = .ok (.iload_n 1, 1) := by decide +kernel
theorem dX4_setCap_1 : decode cX4_setCap 1 = .ok (.iconst 0, 1) := by decide +kernel
theorem dX4_setCap_2 : decode cX4_setCap 2 = .ok (.bipush 60, 2) := by decide +kernel
theorem dX4_setCap_4 : decode cX4_setCap 4 = .ok (.invokestatic 51, 3) := by decide +kernel
theorem dX4_setCap_7 : decode cX4_setCap 7 = .ok (.ifCond .ne 13, 3) := by decide +kernel
theorem dX4_setCap_10 : decode cX4_setCap 10 = .ok (.new 55, 3) := by decide +kernel
theorem dX4_setCap_13 : decode cX4_setCap 13 = .ok (.dup, 1) := by decide +kernel
theorem dX4_setCap_14 : decode cX4_setCap 14 = .ok (.ldc 224, 2) := by decide +kernel
theorem dX4_setCap_16 : decode cX4_setCap 16 = .ok (.invokespecial 59, 3) := by decide +kernel
theorem dX4_setCap_19 : decode cX4_setCap 19 = .ok (.athrow, 1) := by decide +kernel
theorem dX4_setCap_20 : decode cX4_setCap 20 = .ok (.aload_n 0, 1) := by decide +kernel
theorem dX4_setCap_21 : decode cX4_setCap 21 = .ok (.getfield 33, 3) := by decide +kernel
theorem dX4_setCap_24 : decode cX4_setCap 24 = .ok (.getfield 226, 3) := by decide +kernel
theorem dX4_setCap_27 : decode cX4_setCap 27 = .ok (.istore_n 2, 1) := by decide +kernel
theorem dX4_setCap_28 : decode cX4_setCap 28 = .ok (.aload_n 0, 1) := by decide +kernel
theorem dX4_setCap_29 : decode cX4_setCap 29 = .ok (.getfield 33, 3) := by decide +kernel
theorem dX4_setCap_32 : decode cX4_setCap 32 = .ok (.iload_n 1, 1) := by decide +kernel
theorem dX4_setCap_33 : decode cX4_setCap 33 = .ok (.putfield 226, 3) := by decide +kernel
theorem dX4_setCap_36 : decode cX4_setCap 36 = .ok (.aload_n 0, 1) := by decide +kernel
theorem dX4_setCap_37 : decode cX4_setCap 37 = .ok (.aload_n 0, 1) := by decide +kernel
theorem dX4_setCap_38 : decode cX4_setCap 38 = .ok (.getfield 37, 3) := by decide +kernel
theorem dX4_setCap_41 : decode cX4_setCap 41 = .ok (.iload_n 1, 1) := by decide +kernel
theorem dX4_setCap_42 : decode cX4_setCap 42 = .ok (.invokestatic 229, 3) := by decide +kernel
theorem dX4_setCap_45 : decode cX4_setCap 45 = .ok (.putfield 37, 3) := by decide +kernel
theorem dX4_setCap_48 : decode cX4_setCap 48 = .ok (.iload_n 2, 1) := by decide +kernel
theorem dX4_setCap_49 : decode cX4_setCap 49 = .ok (.ireturn, 1) := by decide +kernel
set_option maxRecDepth 20000 in
theorem ggX4_setDiscount_X4_isBetween : GoodIn wsX4_setDiscount wsX4_isBetween := goodIn_r _ [10] (by decide +kernel) (by decide +kernel)
set_option maxRecDepth 20000 in
theorem gX4_setDiscount_X4_isBetween : GoodIn wsX4_setDiscount (va_wsS RX4 51 yX4_isBetween wsX4_isBetween) := goodIn_app (goodIn_of _ (by decide +kernel)) ggX4_setDiscount_X4_isBetween
theorem dX4_setDiscount_0 : decode cX4_setDiscount 0 = .ok (.iload_n 1, 1) := by decide +kernel
theorem dX4_setDiscount_1 : decode cX4_setDiscount 1 = .ok (.iconst 0, 1) := by decide +kernel
theorem dX4_setDiscount_2 : decode cX4_setDiscount 2 = .ok (.ldc 235, 2) := by decide +kernel
theorem dX4_setDiscount_4 : decode cX4_setDiscount 4 = .ok (.invokestatic 51, 3) := by decide +kernel
theorem dX4_setDiscount_7 : decode cX4_setDiscount 7 = .ok (.ifCond .eq 13, 3) := by decide +kernel
theorem dX4_setDiscount_10 : decode cX4_setDiscount 10 = .ok (.iload_n 2, 1) := by decide +kernel
theorem dX4_setDiscount_11 : decode cX4_setDiscount 11 = .ok (.iconst 0, 1) := by decide +kernel
theorem dX4_setDiscount_12 : decode cX4_setDiscount 12 = .ok (.bipush 50, 2) := by decide +kernel
theorem dX4_setDiscount_14 : decode cX4_setDiscount 14 = .ok (.invokestatic 51, 3) := by decide +kernel
theorem dX4_setDiscount_17 : decode cX4_setDiscount 17 = .ok (.ifCond .ne 13, 3) := by decide +kernel
theorem dX4_setDiscount_20 : decode cX4_setDiscount 20 = .ok (.new 55, 3) := by decide +kernel
theorem dX4_setDiscount_23 : decode cX4_setDiscount 23 = .ok (.dup, 1) := by decide +kernel
