theorem dX4_hasEntryToInvoice_37 : decode cX4_hasEntryToInvoice 37 = .ok (.goto (-35), 3) := by decide +kernel
theorem dX4_hasEntryToInvoice_40 : decode cX4_hasEntryToInvoice 40 = .ok (.iconst 0, 1) := by decide +kernel
theorem dX4_hasEntryToInvoice_41 : decode cX4_hasEntryToInvoice 41 = .ok (.ireturn, 1) := by decide +kernel
set_option maxRecDepth 20000 in
theorem ggX4_chargedHours_Jx4a65c_size_8abf5 : GoodIn wsX4_chargedHours wsJx4a65c_size_8abf5 := goodIn_r _ [11, 12, 44, 45, 46] (by decide +kernel) (by decide +kernel)
set_option maxRecDepth 20000 in
theorem gX4_chargedHours_Jx4a65c_size_8abf5 : GoodIn wsX4_chargedHours (wsV RX4 62 RJx4a65c yJx4a65c_size_8abf5 wsJx4a65c_size_8abf5) := goodIn_app (goodIn_of _ (by decide +kernel)) ggX4_chargedHours_Jx4a65c_size_8abf5
set_option maxRecDepth 20000 in
theorem ggX4_chargedHours_Jx4a65c_get_915e3 : GoodIn wsX4_chargedHours wsJx4a65c_get_915e3 := goodIn_r _ [16, 12, 17, 18, 19, 20, 21, 22, 23, 24, 25, 26, 27, 10, 28, 29, 44, 45, 46] (by decide +kernel) (by decide +kernel)
set_option maxRecDepth 20000 in
theorem gX4_chargedHours_Jx4a65c_get_915e3 : GoodIn wsX4_chargedHours (wsV RX4 150 RJx4a65c yJx4a65c_get_915e3 wsJx4a65c_get_915e3) := goodIn_app (goodIn_of _ (by decide +kernel)) ggX4_chargedHours_Jx4a65c_get_915e3
theorem dX4_chargedHours_0 : decode cX4_chargedHours 0 = .ok (.iconst 0, 1) := by decide +kernel
theorem dX4_chargedHours_1 : decode cX4_chargedHours 1 = .ok (.istore_n 3, 1) := by decide +kernel
theorem dX4_chargedHours_2 : decode cX4_chargedHours 2 = .ok (.iconst 0, 1) := by decide +kernel
theorem dX4_chargedHours_3 : decode cX4_chargedHours 3 = .ok (.istore 4, 2) := by decide +kernel
theorem dX4_chargedHours_5 : decode cX4_chargedHours 5 = .ok (.iload 4, 2) := by decide +kernel
theorem dX4_chargedHours_7 : decode cX4_chargedHours 7 = .ok (.aload_n 0, 1) := by decide +kernel
theorem dX4_chargedHours_8 : decode cX4_chargedHours 8 = .ok (.getfield 16, 3) := by decide +kernel
theorem dX4_chargedHours_11 : decode cX4_chargedHours 11 = .ok (.invokevirtual 62, 3) := by decide +kernel
theorem dX4_chargedHours_14 : decode cX4_chargedHours 14 = .ok (.if_icmp .ge 57, 3) := by decide +kernel
theorem dX4_chargedHours_17 : decode cX4_chargedHours 17 = .ok (.aload_n 0, 1) := by decide +kernel
theorem dX4_chargedHours_18 : decode cX4_chargedHours 18 = .ok (.getfield 16, 3) := by decide +kernel
theorem dX4_chargedHours_21 : decode cX4_chargedHours 21 = .ok (.iload 4, 2) := by decide +kernel
theorem dX4_chargedHours_23 : decode cX4_chargedHours 23 = .ok (.invokevirtual 150, 3) := by decide +kernel
theorem dX4_chargedHours_26 : decode cX4_chargedHours 26 = .ok (.checkcast 178, 3) := by decide +kernel
theorem dX4_chargedHours_29 : decode cX4_chargedHours 29 = .ok (.astore 5, 2) := by decide +kernel
theorem dX4_chargedHours_31 : decode cX4_chargedHours 31 = .ok (.aload 5, 2) := by decide +kernel
theorem dX4_chargedHours_33 : decode cX4_chargedHours 33 = .ok (.getfield 284, 3) := by decide +kernel
theorem dX4_chargedHours_36 : decode cX4_chargedHours 36 = .ok (.ifnull 29, 3) := by decide +kernel
theorem dX4_chargedHours_39 : decode cX4_chargedHours 39 = .ok (.aload 5, 2) := by decide +kernel
theorem dX4_chargedHours_41 : decode cX4_chargedHours 41 = .ok (.getfield 345, 3) := by decide +kernel
theorem dX4_chargedHours_44 : decode cX4_chargedHours 44 = .ok (.iload_n 1, 1) := by decide +kernel
theorem dX4_chargedHours_45 : decode cX4_chargedHours 45 = .ok (.if_icmp .ne 20, 3) := by decide +kernel
theorem dX4_chargedHours_48 : decode cX4_chargedHours 48 = .ok (.aload 5, 2) := by decide +kernel
theorem dX4_chargedHours_50 : decode cX4_chargedHours 50 = .ok (.getfield 190, 3) := by decide +kernel
theorem dX4_chargedHours_53 : decode cX4_chargedHours 53 = .ok (.iload_n 2, 1) := by decide +kernel
theorem dX4_chargedHours_54 : decode cX4_chargedHours 54 = .ok (.if_icmp .ne 11, 3) := by decide +kernel
theorem dX4_chargedHours_57 : decode cX4_chargedHours 57 = .ok (.iload_n 3, 1) := by decide +kernel
theorem dX4_chargedHours_58 : decode cX4_chargedHours 58 = .ok (.aload 5, 2) := by decide +kernel
theorem dX4_chargedHours_60 : decode cX4_chargedHours 60 = .ok (.getfield 300, 3) := by decide +kernel
theorem dX4_chargedHours_63 : decode cX4_chargedHours 63 = .ok (.iadd, 1) := by decide +kernel
theorem dX4_chargedHours_64 : decode cX4_chargedHours 64 = .ok (.istore_n 3, 1) := by decide +kernel
theorem dX4_chargedHours_65 : decode cX4_chargedHours 65 = .ok (.iinc 4 1, 3) := by decide +kernel
theorem dX4_chargedHours_68 : decode cX4_chargedHours 68 = .ok (.goto (-63), 3) := by decide +kernel
theorem dX4_chargedHours_71 : decode cX4_chargedHours 71 = .ok (.iload_n 3, 1) := by decide +kernel
theorem dX4_chargedHours_72 : decode cX4_chargedHours 72 = .ok (.ireturn, 1) := by decide +kernel
set_option maxRecDepth 20000 in
theorem ggX4_billEntries_Jx4a65c_size_8abf5 : GoodIn wsX4_billEntries wsJx4a65c_size_8abf5 := goodIn_r _ [15, 16, 84, 85, 86] (by decide +kernel) (by decide +kernel)
set_option maxRecDepth 20000 in
theorem gX4_billEntries_Jx4a65c_size_8abf5 : GoodIn wsX4_billEntries (wsV RX4 62 RJx4a65c yJx4a65c_size_8abf5 wsJx4a65c_size_8abf5) := goodIn_app (goodIn_of _ (by decide +kernel)) ggX4_billEntries_Jx4a65c_size_8abf5
set_option maxRecDepth 20000 in
theorem ggX4_billEntries_Jx4a65c_get_915e3 : GoodIn wsX4_billEntries wsJx4a65c_get_915e3 := goodIn_r _ [20, 16, 21, 22, 23, 24, 25, 26, 27, 28, 29, 30, 31, 14, 32, 33, 84, 85, 86] (by decide +kernel) (by decide +kernel)
set_option maxRecDepth 20000 in
theorem gX4_billEntries_Jx4a65c_get_915e3 : GoodIn wsX4_billEntries (wsV RX4 150 RJx4a65c yJx4a65c_get_915e3 wsJx4a65c_get_915e3) := goodIn_app (goodIn_of _ (by decide +kernel)) ggX4_billEntries_Jx4a65c_get_915e3
set_option maxRecDepth 20000 in
theorem ggX4_billEntries_X4_isToInvoice : GoodIn wsX4_billEntries wsX4_isToInvoice := goodIn_r _ [37, 8, 4, 38, 39, 40, 41, 42, 43, 44, 45, 69, 70, 71, 72, 73, 74, 75, 87, 88, 89, 90, 91, 92] (by decide +kernel) (by decide +kernel)
set_option maxRecDepth 20000 in
theorem gX4_billEntries_X4_isToInvoice : GoodIn wsX4_billEntries (va_wsS RX4 341 yX4_isToInvoice wsX4_isToInvoice) := goodIn_app (goodIn_of _ (by decide +kernel)) ggX4_billEntries_X4_isToInvoice
set_option maxRecDepth 20000 in
theorem ggX4_billEntries_X4_chargedHours : GoodIn wsX4_billEntries wsX4_chargedHours := goodIn_r _ [49, 1, 2, 9, 3, 4, 5, 11, 12, 13, 14, 15, 16, 17, 18, 19, 20, 21, 22, 23, 24, 25, 26, 27, 28, 29, 30, 31, 32, 33, 62, 63, 64, 65, 66, 67, 68, 69, 70, 71, 72, 73, 74, 75, 84, 85, 86] (by decide +kernel) (by decide +kernel)
set_option maxRecDepth 20000 in
theorem gX4_billEntries_X4_chargedHours : GoodIn wsX4_billEntries (wsV RX4 348 RX4 yX4_chargedHours wsX4_chargedHours) := goodIn_app (goodIn_of _ (by decide +kernel)) ggX4_billEntries_X4_chargedHours
set_option maxRecDepth 20000 in
theorem ggX4_billEntries_X2_fullPrice : GoodIn wsX4_billEntries wsX2_fullPrice := goodIn_ca (goodIn_r _ [54, 55, 56, 57, 58, 59, 53, 60, 61, 69, 70, 71, 72, 73, 74, 75, 80, 81, 82, 83] (by decide +kernel) (by decide +kernel)) (goodIn_sub (fun _ h => List.mem_cons_of_mem _ (List.mem_append_right _ h)) (by decide +kernel))
set_option maxRecDepth 20000 in
theorem gX4_billEntries_X2_fullPrice : GoodIn wsX4_billEntries (wsV RX4 352 RX2 yX2_fullPrice wsX2_fullPrice) := goodIn_app (goodIn_of _ (by decide +kernel)) ggX4_billEntries_X2_fullPrice
theorem dX4_billEntries_0 : decode cX4_billEntries 0 = .ok (.iconst 0, 1) := by decide +kernel
theorem dX4_billEntries_1 : decode cX4_billEntries 1 = .ok (.istore 4, 2) := by decide +kernel
theorem dX4_billEntries_3 : decode cX4_billEntries 3 = .ok (.iconst 0, 1) := by decide +kernel
theorem dX4_billEntries_4 : decode cX4_billEntries 4 = .ok (.istore 5, 2) := by decide +kernel
theorem dX4_billEntries_6 : decode cX4_billEntries 6 = .ok (.iload 5, 2) := by decide +kernel
theorem dX4_billEntries_8 : decode cX4_billEntries 8 = .ok (.aload_n 0, 1) := by decide +kernel
theorem dX4_billEntries_9 : decode cX4_billEntries 9 = .ok (.getfield 16, 3) := by decide +kernel
theorem dX4_billEntries_12 : decode cX4_billEntries 12 = .ok (.invokevirtual 62, 3) := by decide +kernel
theorem dX4_billEntries_15 : decode cX4_billEntries 15 = .ok (.if_icmp .ge 113, 3) := by decide +kernel
theorem dX4_billEntries_18 : decode cX4_billEntries 18 = .ok (.aload_n 0, 1) := by decide +kernel
theorem dX4_billEntries_19 : decode cX4_billEntries 19 = .ok (.getfield 16, 3) := by decide +kernel
theorem dX4_billEntries_22 : decode cX4_billEntries 22 = .ok (.iload 5, 2) := by decide +kernel
theorem dX4_billEntries_24 : decode cX4_billEntries 24 = .ok (.invokevirtual 150, 3) := by decide +kernel
theorem dX4_billEntries_27 : decode cX4_billEntries 27 = .ok (.checkcast 178, 3) := by decide +kernel
theorem dX4_billEntries_30 : decode cX4_billEntries 30 = .ok (.astore 6, 2) := by decide +kernel
theorem dX4_billEntries_32 : decode cX4_billEntries 32 = .ok (.aload 6, 2) := by decide +kernel
theorem dX4_billEntries_34 : decode cX4_billEntries 34 = .ok (.aload_n 2, 1) := by decide +kernel
theorem dX4_billEntries_35 : decode cX4_billEntries 35 = .ok (.iload_n 3, 1) := by decide +kernel
theorem dX4_billEntries_36 : decode cX4_billEntries 36 = .ok (.invokestatic 341, 3) := by decide +kernel
theorem dX4_billEntries_39 : decode cX4_billEntries 39 = .ok (.ifCond .ne 6, 3) := by decide +kernel
theorem dX4_billEntries_42 : decode cX4_billEntries 42 = .ok (.goto 80, 3) := by decide +kernel
theorem dX4_billEntries_45 : decode cX4_billEntries 45 = .ok (.aload_n 0, 1) := by decide +kernel
theorem dX4_billEntries_46 : decode cX4_billEntries 46 = .ok (.aload 6, 2) := by decide +kernel
theorem dX4_billEntries_48 : decode cX4_billEntries 48 = .ok (.getfield 345, 3) := by decide +kernel
theorem dX4_billEntries_51 : decode cX4_billEntries 51 = .ok (.aload 6, 2) := by decide +kernel
theorem dX4_billEntries_53 : decode cX4_billEntries 53 = .ok (.getfield 190, 3) := by decide +kernel
theorem dX4_billEntries_56 : decode cX4_billEntries 56 = .ok (.invokevirtual 348, 3) := by decide +kernel
theorem dX4_billEntries_59 : decode cX4_billEntries 59 = .ok (.aload 6, 2) := by decide +kernel
theorem dX4_billEntries_61 : decode cX4_billEntries 61 = .ok (.getfield 300, 3) := by decide +kernel
theorem dX4_billEntries_64 : decode cX4_billEntries 64 = .ok (.iadd, 1) := by decide +kernel
theorem dX4_billEntries_65 : decode cX4_billEntries 65 = .ok (.aload_n 1, 1) := by decide +kernel
theorem dX4_billEntries_66 : decode cX4_billEntries 66 = .ok (.getfield 351, 3) := by decide +kernel
theorem dX4_billEntries_69 : decode cX4_billEntries 69 = .ok (.getfield 226, 3) := by decide +kernel
theorem dX4_billEntries_72 : decode cX4_billEntries 72 = .ok (.if_icmp .le 13, 3) := by decide +kernel
theorem dX4_billEntries_75 : decode cX4_billEntries 75 = .ok (.aload 6, 2) := by decide +kernel
theorem dX4_billEntries_77 : decode cX4_billEntries 77 = .ok (.bipush 120, 2) := by decide +kernel
theorem dX4_billEntries_79 : decode cX4_billEntries 79 = .ok (.putfield 187, 3) := by decide +kernel
theorem dX4_billEntries_82 : decode cX4_billEntries 82 = .ok (.goto 40, 3) := by decide +kernel
theorem dX4_billEntries_85 : decode cX4_billEntries 85 = .ok (.aload 6, 2) := by decide +kernel
theorem dX4_billEntries_87 : decode cX4_billEntries 87 = .ok (.bipush 98, 2) := by decide +kernel
theorem dX4_billEntries_89 : decode cX4_billEntries 89 = .ok (.putfield 187, 3) := by decide +kernel
theorem dX4_billEntries_92 : decode cX4_billEntries 92 = .ok (.aload 6, 2) := by decide +kernel
theorem dX4_billEntries_94 : decode cX4_billEntries 94 = .ok (.aload_n 1, 1) := by decide +kernel
theorem dX4_billEntries_95 : decode cX4_billEntries 95 = .ok (.putfield 284, 3) := by decide +kernel
theorem dX4_billEntries_98 : decode cX4_billEntries 98 = .ok (.aload 6, 2) := by decide +kernel
theorem dX4_billEntries_100 : decode cX4_billEntries 100 = .ok (.aload_n 1, 1) := by decide +kernel
theorem dX4_billEntries_101 : decode cX4_billEntries 101 = .ok (.getfield 351, 3) := by decide +kernel
theorem dX4_billEntries_104 : decode cX4_billEntries 104 = .ok (.aload 6, 2) := by decide +kernel
theorem dX4_billEntries_106 : decode cX4_billEntries 106 = .ok (.invokevirtual 352, 3) := by decide +kernel
theorem dX4_billEntries_109 : decode cX4_billEntries 109 = .ok (.putfield 207, 3) := by decide +kernel
theorem dX4_billEntries_112 : decode cX4_billEntries 112 = .ok (.iload 4, 2) := by decide +kernel
theorem dX4_billEntries_114 : decode cX4_billEntries 114 = .ok (.aload 6, 2) := by decide +kernel
theorem dX4_billEntries_116 : decode cX4_billEntries 116 = .ok (.getfield 207, 3) := by decide +kernel
theorem dX4_billEntries_119 : decode cX4_billEntries 119 = .ok (.iadd, 1) := by decide +kernel
theorem dX4_billEntries_120 : decode cX4_billEntries 120 = .ok (.istore 4, 2) := by decide +kernel
theorem dX4_billEntries_122 : decode cX4_billEntries 122 = .ok (.iinc 5 1, 3) := by decide +kernel
theorem dX4_billEntries_125 : decode cX4_billEntries 125 = .ok (.goto (-119), 3) := by decide +kernel
theorem dX4_billEntries_128 : decode cX4_billEntries 128 = .ok (.iload 4, 2) := by decide +kernel
theorem dX4_billEntries_130 : decode cX4_billEntries 130 = .ok (.ireturn, 1) := by decide +kernel
set_option maxRecDepth 20000 in
theorem ggX4_discountPrices_Jx4a65c_size_8abf5 : GoodIn wsX4_discountPrices wsJx4a65c_size_8abf5 := goodIn_r _ [10, 11, 54, 55, 56] (by decide +kernel) (by decide +kernel)
set_option maxRecDepth 20000 in
theorem gX4_discountPrices_Jx4a65c_size_8abf5 : GoodIn wsX4_discountPrices (wsV RX4 62 RJx4a65c yJx4a65c_size_8abf5 wsJx4a65c_size_8abf5) := goodIn_app (goodIn_of _ (by decide +kernel)) ggX4_discountPrices_Jx4a65c_size_8abf5
set_option maxRecDepth 20000 in
theorem ggX4_discountPrices_Jx4a65c_get_915e3 : GoodIn wsX4_discountPrices wsJx4a65c_get_915e3 := goodIn_r _ [15, 11, 16, 17, 18, 19, 20, 21, 22, 23, 24, 25, 26, 9, 27, 28, 54, 55, 56] (by decide +kernel) (by decide +kernel)
set_option maxRecDepth 20000 in
theorem gX4_discountPrices_Jx4a65c_get_915e3 : GoodIn wsX4_discountPrices (wsV RX4 150 RJx4a65c yJx4a65c_get_915e3 wsJx4a65c_get_915e3) := goodIn_app (goodIn_of _ (by decide +kernel)) ggX4_discountPrices_Jx4a65c_get_915e3
set_option maxRecDepth 20000 in
theorem ggX4_discountPrices_X2_discounted : GoodIn wsX4_discountPrices wsX2_discounted := goodIn_r _ [33, 34, 35, 57, 58, 59, 60] (by decide +kernel) (by decide +kernel)
set_option maxRecDepth 20000 in
theorem gX4_discountPrices_X2_discounted : GoodIn wsX4_discountPrices (wsV RX4 356 RX2 yX2_discounted wsX2_discounted) := goodIn_app (goodIn_of _ (by decide +kernel)) ggX4_discountPrices_X2_discounted
theorem dX4_discountPrices_0 : decode cX4_discountPrices 0 = .ok (.iconst 0, 1) := by decide +kernel
theorem dX4_discountPrices_1 : decode cX4_discountPrices 1 = .ok (.istore_n 3, 1) := by decide +kernel
theorem dX4_discountPrices_2 : decode cX4_discountPrices 2 = .ok (.iconst 0, 1) := by decide +kernel
theorem dX4_discountPrices_3 : decode cX4_discountPrices 3 = .ok (.istore 4, 2) := by decide +kernel
theorem dX4_discountPrices_5 : decode cX4_discountPrices 5 = .ok (.iload 4, 2) := by decide +kernel
theorem dX4_discountPrices_7 : decode cX4_discountPrices 7 = .ok (.aload_n 0, 1) := by decide +kernel
theorem dX4_discountPrices_8 : decode cX4_discountPrices 8 = .ok (.getfield 16, 3) := by decide +kernel
theorem dX4_discountPrices_11 : decode cX4_discountPrices 11 = .ok (.invokevirtual 62, 3) := by decide +kernel
theorem dX4_discountPrices_14 : decode cX4_discountPrices 14 = .ok (.if_icmp .ge 58, 3) := by decide +kernel
theorem dX4_discountPrices_17 : decode cX4_discountPrices 17 = .ok (.aload_n 0, 1) := by decide +kernel
theorem dX4_discountPrices_18 : decode cX4_discountPrices 18 = .ok (.getfield 16, 3) := by decide +kernel
theorem dX4_discountPrices_21 : decode cX4_discountPrices 21 = .ok (.iload 4, 2) := by decide +kernel
theorem dX4_discountPrices_23 : decode cX4_discountPrices 23 = .ok (.invokevirtual 150, 3) := by decide +kernel
theorem dX4_discountPrices_26 : decode cX4_discountPrices 26 = .ok (.checkcast 178, 3) := by decide +kernel
theorem dX4_discountPrices_29 : decode cX4_discountPrices 29 = .ok (.astore 5, 2) := by decide +kernel
theorem dX4_discountPrices_31 : decode cX4_discountPrices 31 = .ok (.aload 5, 2) := by decide +kernel
theorem dX4_discountPrices_33 : decode cX4_discountPrices 33 = .ok (.getfield 284, 3) := by decide +kernel
theorem dX4_discountPrices_36 : decode cX4_discountPrices 36 = .ok (.aload_n 1, 1) := by decide +kernel
theorem dX4_discountPrices_37 : decode cX4_discountPrices 37 = .ok (.if_acmp .ne 29, 3) := by decide +kernel
theorem dX4_discountPrices_40 : decode cX4_discountPrices 40 = .ok (.aload 5, 2) := by decide +kernel
theorem dX4_discountPrices_42 : decode cX4_discountPrices 42 = .ok (.aload_n 1, 1) := by decide +kernel
theorem dX4_discountPrices_43 : decode cX4_discountPrices 43 = .ok (.getfield 351, 3) := by decide +kernel
theorem dX4_discountPrices_46 : decode cX4_discountPrices 46 = .ok (.aload 5, 2) := by decide +kernel
theorem dX4_discountPrices_48 : decode cX4_discountPrices 48 = .ok (.getfield 207, 3) := by decide +kernel
theorem dX4_discountPrices_51 : decode cX4_discountPrices 51 = .ok (.iload_n 2, 1) := by decide +kernel
theorem dX4_discountPrices_52 : decode cX4_discountPrices 52 = .ok (.invokevirtual 356, 3) := by decide +kernel
theorem dX4_discountPrices_55 : decode cX4_discountPrices 55 = .ok (.putfield 207, 3) := by decide +kernel
theorem dX4_discountPrices_58 : decode cX4_discountPrices 58 = .ok (.iload_n 3, 1) := by decide +kernel
theorem dX4_discountPrices_59 : decode cX4_discountPrices 59 = .ok (.aload 5, 2) := by decide +kernel
theorem dX4_discountPrices_61 : decode cX4_discountPrices 61 = .ok (.getfield 207, 3) := by decide +kernel
theorem dX4_discountPrices_64 : decode cX4_discountPrices 64 = .ok (.iadd, 1) := by decide +kernel
theorem dX4_discountPrices_65 : decode cX4_discountPrices 65 = .ok (.istore_n 3, 1) := by decide +kernel
theorem dX4_discountPrices_66 : decode cX4_discountPrices 66 = .ok (.iinc 4 1, 3) := by decide +kernel
theorem dX4_discountPrices_69 : decode cX4_discountPrices 69 = .ok (.goto (-64), 3) := by decide +kernel
theorem dX4_discountPrices_72 : decode cX4_discountPrices 72 = .ok (.iload_n 3, 1) := by decide +kernel
theorem dX4_discountPrices_73 : decode cX4_discountPrices 73 = .ok (.ireturn, 1) := by decide +kernel
set_option maxRecDepth 20000 in
theorem ggX4_recomputeTotal_Jx4a65c_size_8abf5 : GoodIn wsX4_recomputeTotal wsJx4a65c_size_8abf5 := goodIn_r _ [9, 10, 64, 65, 66] (by decide +kernel) (by decide +kernel)
set_option maxRecDepth 20000 in
theorem gX4_recomputeTotal_Jx4a65c_size_8abf5 : GoodIn wsX4_recomputeTotal (wsV RX4 62 RJx4a65c yJx4a65c_size_8abf5 wsJx4a65c_size_8abf5) := goodIn_app (goodIn_of _ (by decide +kernel)) ggX4_recomputeTotal_Jx4a65c_size_8abf5
set_option maxRecDepth 20000 in
theorem ggX4_recomputeTotal_Jx4a65c_get_915e3 : GoodIn wsX4_recomputeTotal wsJx4a65c_get_915e3 := goodIn_r _ [14, 10, 15, 16, 17, 18, 19, 20, 21, 22, 23, 24, 25, 8, 26, 27, 64, 65, 66] (by decide +kernel) (by decide +kernel)
set_option maxRecDepth 20000 in
theorem gX4_recomputeTotal_Jx4a65c_get_915e3 : GoodIn wsX4_recomputeTotal (wsV RX4 150 RJx4a65c yJx4a65c_get_915e3 wsJx4a65c_get_915e3) := goodIn_app (goodIn_of _ (by decide +kernel)) ggX4_recomputeTotal_Jx4a65c_get_915e3
set_option maxRecDepth 20000 in
theorem ggX4_recomputeTotal_X2_fullPrice : GoodIn wsX4_recomputeTotal wsX2_fullPrice := goodIn_ca (goodIn_r _ [32, 33, 34, 35, 36, 37, 31, 38, 39, 53, 54, 55, 56, 57, 58, 59, 67, 68, 69, 70] (by decide +kernel) (by decide +kernel)) (goodIn_sub (fun _ h => List.mem_cons_of_mem _ (List.mem_append_right _ h)) (by decide +kernel))
set_option maxRecDepth 20000 in
theorem gX4_recomputeTotal_X2_fullPrice : GoodIn wsX4_recomputeTotal (wsV RX4 352 RX2 yX2_fullPrice wsX2_fullPrice) := goodIn_app (goodIn_of _ (by decide +kernel)) ggX4_recomputeTotal_X2_fullPrice
set_option maxRecDepth 20000 in
theorem ggX4_recomputeTotal_X2_discounted : GoodIn wsX4_recomputeTotal wsX2_discounted := goodIn_r _ [43, 44, 45, 67, 68, 69, 70] (by decide +kernel) (by decide +kernel)
set_option maxRecDepth 20000 in
theorem gX4_recomputeTotal_X2_discounted : GoodIn wsX4_recomputeTotal (wsV RX4 356 RX2 yX2_discounted wsX2_discounted) := goodIn_app (goodIn_of _ (by decide +kernel)) ggX4_recomputeTotal_X2_discounted
theorem dX4_recomputeTotal_0 : decode cX4_recomputeTotal 0 = .ok (.iconst 0, 1) := by decide +kernel
theorem dX4_recomputeTotal_1 : decode cX4_recomputeTotal 1 = .ok (.istore_n 2, 1) := by decide +kernel
theorem dX4_recomputeTotal_2 : decode cX4_recomputeTotal 2 = .ok (.iconst 0, 1) := by decide +kernel
theorem dX4_recomputeTotal_3 : decode cX4_recomputeTotal 3 = .ok (.istore_n 3, 1) := by decide +kernel
theorem dX4_recomputeTotal_4 : decode cX4_recomputeTotal 4 = .ok (.iload_n 3, 1) := by decide +kernel
theorem dX4_recomputeTotal_5 : decode cX4_recomputeTotal 5 = .ok (.aload_n 0, 1) := by decide +kernel
theorem dX4_recomputeTotal_6 : decode cX4_recomputeTotal 6 = .ok (.getfield 16, 3) := by decide +kernel
theorem dX4_recomputeTotal_9 : decode cX4_recomputeTotal 9 = .ok (.invokevirtual 62, 3) := by decide +kernel
theorem dX4_recomputeTotal_12 : decode cX4_recomputeTotal 12 = .ok (.if_icmp .ge 43, 3) := by decide +kernel
theorem dX4_recomputeTotal_15 : decode cX4_recomputeTotal 15 = .ok (.aload_n 0, 1) := by decide +kernel
theorem dX4_recomputeTotal_16 : decode cX4_recomputeTotal 16 = .ok (.getfield 16, 3) := by decide +kernel
theorem dX4_recomputeTotal_19 : decode cX4_recomputeTotal 19 = .ok (.iload_n 3, 1) := by decide +kernel
theorem dX4_recomputeTotal_20 : decode cX4_recomputeTotal 20 = .ok (.invokevirtual 150, 3) := by decide +kernel
theorem dX4_recomputeTotal_23 : decode cX4_recomputeTotal 23 = .ok (.checkcast 178, 3) := by decide +kernel
theorem dX4_recomputeTotal_26 : decode cX4_recomputeTotal 26 = .ok (.astore 4, 2) := by decide +kernel
theorem dX4_recomputeTotal_28 : decode cX4_recomputeTotal 28 = .ok (.aload 4, 2) := by decide +kernel
theorem dX4_recomputeTotal_30 : decode cX4_recomputeTotal 30 = .ok (.getfield 284, 3) := by decide +kernel
theorem dX4_recomputeTotal_33 : decode cX4_recomputeTotal 33 = .ok (.aload_n 1, 1) := by decide +kernel
theorem dX4_recomputeTotal_34 : decode cX4_recomputeTotal 34 = .ok (.if_acmp .ne 15, 3) := by decide +kernel
theorem dX4_recomputeTotal_37 : decode cX4_recomputeTotal 37 = .ok (.iload_n 2, 1) := by decide +kernel
theorem dX4_recomputeTotal_38 : decode cX4_recomputeTotal 38 = .ok (.aload_n 1, 1) := by decide +kernel
theorem dX4_recomputeTotal_39 : decode cX4_recomputeTotal 39 = .ok (.getfield 351, 3) := by decide +kernel
theorem dX4_recomputeTotal_42 : decode cX4_recomputeTotal 42 = .ok (.aload 4, 2) := by decide +kernel
theorem dX4_recomputeTotal_44 : decode cX4_recomputeTotal 44 = .ok (.invokevirtual 352, 3) := by decide +kernel
theorem dX4_recomputeTotal_47 : decode cX4_recomputeTotal 47 = .ok (.iadd, 1) := by decide +kernel
theorem dX4_recomputeTotal_48 : decode cX4_recomputeTotal 48 = .ok (.istore_n 2, 1) := by decide +kernel
theorem dX4_recomputeTotal_49 : decode cX4_recomputeTotal 49 = .ok (.iinc 3 1, 3) := by decide +kernel
theorem dX4_recomputeTotal_52 : decode cX4_recomputeTotal 52 = .ok (.goto (-48), 3) := by decide +kernel
theorem dX4_recomputeTotal_55 : decode cX4_recomputeTotal 55 = .ok (.iconst 0, 1) := by decide +kernel
theorem dX4_recomputeTotal_56 : decode cX4_recomputeTotal 56 = .ok (.istore_n 3, 1) := by decide +kernel
theorem dX4_recomputeTotal_57 : decode cX4_recomputeTotal 57 = .ok (.iconst 0, 1) := by decide +kernel
theorem dX4_recomputeTotal_58 : decode cX4_recomputeTotal 58 = .ok (.istore 4, 2) := by decide +kernel
theorem dX4_recomputeTotal_60 : decode cX4_recomputeTotal 60 = .ok (.iload 4, 2) := by decide +kernel
theorem dX4_recomputeTotal_62 : decode cX4_recomputeTotal 62 = .ok (.aload_n 0, 1) := by decide +kernel
theorem dX4_recomputeTotal_63 : decode cX4_recomputeTotal 63 = .ok (.getfield 16, 3) := by decide +kernel
theorem dX4_recomputeTotal_66 : decode cX4_recomputeTotal 66 = .ok (.invokevirtual 62, 3) := by decide +kernel
theorem dX4_recomputeTotal_69 : decode cX4_recomputeTotal 69 = .ok (.if_icmp .ge 52, 3) := by decide +kernel
theorem dX4_recomputeTotal_72 : decode cX4_recomputeTotal 72 = .ok (.aload_n 0, 1) := by decide +kernel
theorem dX4_recomputeTotal_73 : decode cX4_recomputeTotal 73 = .ok (.getfield 16, 3) := by decide +kernel
theorem dX4_recomputeTotal_76 : decode cX4_recomputeTotal 76 = .ok (.iload 4, 2) := by decide +kernel
theorem dX4_recomputeTotal_78 : decode cX4_recomputeTotal 78 = .ok (.invokevirtual 150, 3) := by decide +kernel
theorem dX4_recomputeTotal_81 : decode cX4_recomputeTotal 81 = .ok (.checkcast 178, 3) := by decide +kernel
theorem dX4_recomputeTotal_84 : decode cX4_recomputeTotal 84 = .ok (.astore 5, 2) := by decide +kernel
theorem dX4_recomputeTotal_86 : decode cX4_recomputeTotal 86 = .ok (.aload 5, 2) := by decide +kernel
theorem dX4_recomputeTotal_88 : decode cX4_recomputeTotal 88 = .ok (.getfield 284, 3) := by decide +kernel
theorem dX4_recomputeTotal_91 : decode cX4_recomputeTotal 91 = .ok (.aload_n 1, 1) := by decide +kernel
theorem dX4_recomputeTotal_92 : decode cX4_recomputeTotal 92 = .ok (.if_acmp .ne 23, 3) := by decide +kernel
theorem dX4_recomputeTotal_95 : decode cX4_recomputeTotal 95 = .ok (.iload_n 3, 1) := by decide +kernel
theorem dX4_recomputeTotal_96 : decode cX4_recomputeTotal 96 = .ok (.aload_n 1, 1) := by decide +kernel
theorem dX4_recomputeTotal_97 : decode cX4_recomputeTotal 97 = .ok (.getfield 351, 3) := by decide +kernel
theorem dX4_recomputeTotal_100 : decode cX4_recomputeTotal 100 = .ok (.aload_n 1, 1) := by decide +kernel
theorem dX4_recomputeTotal_101 : decode cX4_recomputeTotal 101 = .ok (.getfield 351, 3) := by decide +kernel
theorem dX4_recomputeTotal_104 : decode cX4_recomputeTotal 104 = .ok (.aload 5, 2) := by decide +kernel
theorem dX4_recomputeTotal_106 : decode cX4_recomputeTotal 106 = .ok (.invokevirtual 352, 3) := by decide +kernel
theorem dX4_recomputeTotal_109 : decode cX4_recomputeTotal 109 = .ok (.iload_n 2, 1) := by decide +kernel
theorem dX4_recomputeTotal_110 : decode cX4_recomputeTotal 110 = .ok (.invokevirtual 356, 3) := by decide +kernel
theorem dX4_recomputeTotal_113 : decode cX4_recomputeTotal 113 = .ok (.iadd, 1) := by decide +kernel
theorem dX4_recomputeTotal_114 : decode cX4_recomputeTotal 114 = .ok (.istore_n 3, 1) := by decide +kernel
theorem dX4_recomputeTotal_115 : decode cX4_recomputeTotal 115 = .ok (.iinc 4 1, 3) := by decide +kernel
theorem dX4_recomputeTotal_118 : decode cX4_recomputeTotal 118 = .ok (.goto (-58), 3) := by decide +kernel
theorem dX4_recomputeTotal_121 : decode cX4_recomputeTotal 121 = .ok (.iload_n 3, 1) := by decide +kernel
theorem dX4_recomputeTotal_122 : decode cX4_recomputeTotal 122 = .ok (.ireturn, 1) := by decide +kernel
set_option maxRecDepth 20000 in
theorem ggX4_creditEntries_Jx4a65c_size_8abf5 : GoodIn wsX4_creditEntries wsJx4a65c_size_8abf5 := goodIn_r _ [12, 13, 49, 50, 51] (by decide +kernel) (by decide +kernel)
set_option maxRecDepth 20000 in
theorem gX4_creditEntries_Jx4a65c_size_8abf5 : GoodIn wsX4_creditEntries (wsV RX4 62 RJx4a65c yJx4a65c_size_8abf5 wsJx4a65c_size_8abf5) := goodIn_app (goodIn_of _ (by decide +kernel)) ggX4_creditEntries_Jx4a65c_size_8abf5
set_option maxRecDepth 20000 in
theorem ggX4_creditEntries_Jx4a65c_get_915e3 : GoodIn wsX4_creditEntries wsJx4a65c_get_915e3 := goodIn_r _ [17, 13, 18, 19, 20, 21, 22, 23, 24, 25, 26, 27, 28, 11, 29, 30, 49, 50, 51] (by decide +kernel) (by decide +kernel)
set_option maxRecDepth 20000 in
theorem gX4_creditEntries_Jx4a65c_get_915e3 : GoodIn wsX4_creditEntries (wsV RX4 150 RJx4a65c yJx4a65c_get_915e3 wsJx4a65c_get_915e3) := goodIn_app (goodIn_of _ (by decide +kernel)) ggX4_creditEntries_Jx4a65c_get_915e3
theorem dX4_creditEntries_0 : decode cX4_creditEntries 0 = .ok (.iconst 0, 1) := by decide +kernel
theorem dX4_creditEntries_1 : decode cX4_creditEntries 1 = .ok (.istore_n 2, 1) := by decide +kernel
theorem dX4_creditEntries_2 : decode cX4_creditEntries 2 = .ok (.iconst 0, 1) := by decide +kernel
theorem dX4_creditEntries_3 : decode cX4_creditEntries 3 = .ok (.istore_n 3, 1) := by decide +kernel
theorem dX4_creditEntries_4 : decode cX4_creditEntries 4 = .ok (.iload_n 3, 1) := by decide +kernel
theorem dX4_creditEntries_5 : decode cX4_creditEntries 5 = .ok (.aload_n 0, 1) := by decide +kernel
theorem dX4_creditEntries_6 : decode cX4_creditEntries 6 = .ok (.getfield 16, 3) := by decide +kernel
theorem dX4_creditEntries_9 : decode cX4_creditEntries 9 = .ok (.invokevirtual 62, 3) := by decide +kernel
theorem dX4_creditEntries_12 : decode cX4_creditEntries 12 = .ok (.if_icmp .ge 83, 3) := by decide +kernel
theorem dX4_creditEntries_15 : decode cX4_creditEntries 15 = .ok (.aload_n 0, 1) := by decide +kernel
theorem dX4_creditEntries_16 : decode cX4_creditEntries 16 = .ok (.getfield 16, 3) := by decide +kernel
theorem dX4_creditEntries_19 : decode cX4_creditEntries 19 = .ok (.iload_n 3, 1) := by decide +kernel
theorem dX4_creditEntries_20 : decode cX4_creditEntries 20 = .ok (.invokevirtual 150, 3) := by decide +kernel
theorem dX4_creditEntries_23 : decode cX4_creditEntries 23 = .ok (.checkcast 178, 3) := by decide +kernel
theorem dX4_creditEntries_26 : decode cX4_creditEntries 26 = .ok (.astore 4, 2) := by decide +kernel
theorem dX4_creditEntries_28 : decode cX4_creditEntries 28 = .ok (.aload 4, 2) := by decide +kernel
theorem dX4_creditEntries_30 : decode cX4_creditEntries 30 = .ok (.getfield 284, 3) := by decide +kernel
theorem dX4_creditEntries_33 : decode cX4_creditEntries 33 = .ok (.astore 5, 2) := by decide +kernel
theorem dX4_creditEntries_35 : decode cX4_creditEntries 35 = .ok (.aload 4, 2) := by decide +kernel
theorem dX4_creditEntries_37 : decode cX4_creditEntries 37 = .ok (.getfield 329, 3) := by decide +kernel
theorem dX4_creditEntries_40 : decode cX4_creditEntries 40 = .ok (.aload_n 1, 1) := by decide +kernel
theorem dX4_creditEntries_41 : decode cX4_creditEntries 41 = .ok (.if_acmp .ne 48, 3) := by decide +kernel
theorem dX4_creditEntries_44 : decode cX4_creditEntries 44 = .ok (.aload 4, 2) := by decide +kernel
theorem dX4_creditEntries_46 : decode cX4_creditEntries 46 = .ok (.getfield 187, 3) := by decide +kernel
theorem dX4_creditEntries_49 : decode cX4_creditEntries 49 = .ok (.bipush 98, 2) := by decide +kernel
theorem dX4_creditEntries_51 : decode cX4_creditEntries 51 = .ok (.if_icmp .ne 38, 3) := by decide +kernel
theorem dX4_creditEntries_54 : decode cX4_creditEntries 54 = .ok (.aload 5, 2) := by decide +kernel
theorem dX4_creditEntries_56 : decode cX4_creditEntries 56 = .ok (.ifnull 33, 3) := by decide +kernel
theorem dX4_creditEntries_59 : decode cX4_creditEntries 59 = .ok (.aload 4, 2) := by decide +kernel
theorem dX4_creditEntries_61 : decode cX4_creditEntries 61 = .ok (.bipush 99, 2) := by decide +kernel
theorem dX4_creditEntries_63 : decode cX4_creditEntries 63 = .ok (.putfield 187, 3) := by decide +kernel
theorem dX4_creditEntries_66 : decode cX4_creditEntries 66 = .ok (.aload 5, 2) := by decide +kernel
theorem dX4_creditEntries_68 : decode cX4_creditEntries 68 = .ok (.dup, 1) := by decide +kernel
theorem dX4_creditEntries_69 : decode cX4_creditEntries 69 = .ok (.getfield 281, 3) := by decide +kernel
theorem dX4_creditEntries_72 : decode cX4_creditEntries 72 = .ok (.aload 4, 2) := by decide +kernel
theorem dX4_creditEntries_74 : decode cX4_creditEntries 74 = .ok (.getfield 207, 3) := by decide +kernel
theorem dX4_creditEntries_77 : decode cX4_creditEntries 77 = .ok (.iadd, 1) := by decide +kernel
theorem dX4_creditEntries_78 : decode cX4_creditEntries 78 = .ok (.putfield 281, 3) := by decide +kernel
theorem dX4_creditEntries_81 : decode cX4_creditEntries 81 = .ok (.iload_n 2, 1) := by decide +kernel
theorem dX4_creditEntries_82 : decode cX4_creditEntries 82 = .ok (.aload 4, 2) := by decide +kernel
theorem dX4_creditEntries_84 : decode cX4_creditEntries 84 = .ok (.getfield 207, 3) := by decide +kernel
theorem dX4_creditEntries_87 : decode cX4_creditEntries 87 = .ok (.iadd, 1) := by decide +kernel
theorem dX4_creditEntries_88 : decode cX4_creditEntries 88 = .ok (.istore_n 2, 1) := by decide +kernel
theorem dX4_creditEntries_89 : decode cX4_creditEntries 89 = .ok (.iinc 3 1, 3) := by decide +kernel
theorem dX4_creditEntries_92 : decode cX4_creditEntries 92 = .ok (.goto (-88), 3) := by decide +kernel
theorem dX4_creditEntries_95 : decode cX4_creditEntries 95 = .ok (.iload_n 2, 1) := by decide +kernel
theorem dX4_creditEntries_96 : decode cX4_creditEntries 96 = .ok (.ireturn, 1) := by decide +kernel
set_option maxRecDepth 20000 in
theorem ggX4_creditedPrices_Jx4a65c_size_8abf5 : GoodIn wsX4_creditedPrices wsJx4a65c_size_8abf5 := goodIn_r _ [10, 11, 43, 44, 45] (by decide +kernel) (by decide +kernel)
set_option maxRecDepth 20000 in
theorem gX4_creditedPrices_Jx4a65c_size_8abf5 : GoodIn wsX4_creditedPrices (wsV RX4 62 RJx4a65c yJx4a65c_size_8abf5 wsJx4a65c_size_8abf5) := goodIn_app (goodIn_of _ (by decide +kernel)) ggX4_creditedPrices_Jx4a65c_size_8abf5
set_option maxRecDepth 20000 in
theorem ggX4_creditedPrices_Jx4a65c_get_915e3 : GoodIn wsX4_creditedPrices wsJx4a65c_get_915e3 := goodIn_r _ [15, 11, 16, 17, 18, 19, 20, 21, 22, 23, 24, 25, 26, 9, 27, 28, 43, 44, 45] (by decide +kernel) (by decide +kernel)
set_option maxRecDepth 20000 in
theorem gX4_creditedPrices_Jx4a65c_get_915e3 : GoodIn wsX4_creditedPrices (wsV RX4 150 RJx4a65c yJx4a65c_get_915e3 wsJx4a65c_get_915e3) := goodIn_app (goodIn_of _ (by decide +kernel)) ggX4_creditedPrices_Jx4a65c_get_915e3
theorem dX4_creditedPrices_0 : decode cX4_creditedPrices 0 = .ok (.iconst 0, 1) := by decide +kernel
theorem dX4_creditedPrices_1 : decode cX4_creditedPrices 1 = .ok (.istore_n 2, 1) := by decide +kernel
theorem dX4_creditedPrices_2 : decode cX4_creditedPrices 2 = .ok (.iconst 0, 1) := by decide +kernel
theorem dX4_creditedPrices_3 : decode cX4_creditedPrices 3 = .ok (.istore_n 3, 1) := by decide +kernel
theorem dX4_creditedPrices_4 : decode cX4_creditedPrices 4 = .ok (.iload_n 3, 1) := by decide +kernel
theorem dX4_creditedPrices_5 : decode cX4_creditedPrices 5 = .ok (.aload_n 0, 1) := by decide +kernel
theorem dX4_creditedPrices_6 : decode cX4_creditedPrices 6 = .ok (.getfield 16, 3) := by decide +kernel
theorem dX4_creditedPrices_9 : decode cX4_creditedPrices 9 = .ok (.invokevirtual 62, 3) := by decide +kernel
theorem dX4_creditedPrices_12 : decode cX4_creditedPrices 12 = .ok (.if_icmp .ge 49, 3) := by decide +kernel
theorem dX4_creditedPrices_15 : decode cX4_creditedPrices 15 = .ok (.aload_n 0, 1) := by decide +kernel
theorem dX4_creditedPrices_16 : decode cX4_creditedPrices 16 = .ok (.getfield 16, 3) := by decide +kernel
theorem dX4_creditedPrices_19 : decode cX4_creditedPrices 19 = .ok (.iload_n 3, 1) := by decide +kernel
theorem dX4_creditedPrices_20 : decode cX4_creditedPrices 20 = .ok (.invokevirtual 150, 3) := by decide +kernel
theorem dX4_creditedPrices_23 : decode cX4_creditedPrices 23 = .ok (.checkcast 178, 3) := by decide +kernel
theorem dX4_creditedPrices_26 : decode cX4_creditedPrices 26 = .ok (.astore 4, 2) := by decide +kernel
theorem dX4_creditedPrices_28 : decode cX4_creditedPrices 28 = .ok (.aload 4, 2) := by decide +kernel
theorem dX4_creditedPrices_30 : decode cX4_creditedPrices 30 = .ok (.getfield 284, 3) := by decide +kernel
theorem dX4_creditedPrices_33 : decode cX4_creditedPrices 33 = .ok (.aload_n 1, 1) := by decide +kernel
theorem dX4_creditedPrices_34 : decode cX4_creditedPrices 34 = .ok (.if_acmp .ne 21, 3) := by decide +kernel
theorem dX4_creditedPrices_37 : decode cX4_creditedPrices 37 = .ok (.aload 4, 2) := by decide +kernel
theorem dX4_creditedPrices_39 : decode cX4_creditedPrices 39 = .ok (.getfield 187, 3) := by decide +kernel
theorem dX4_creditedPrices_42 : decode cX4_creditedPrices 42 = .ok (.bipush 99, 2) := by decide +kernel
theorem dX4_creditedPrices_44 : decode cX4_creditedPrices 44 = .ok (.if_icmp .ne 11, 3) := by decide +kernel
theorem dX4_creditedPrices_47 : decode cX4_creditedPrices 47 = .ok (.iload_n 2, 1) := by decide +kernel
theorem dX4_creditedPrices_48 : decode cX4_creditedPrices 48 = .ok (.aload 4, 2) := by decide +kernel
theorem dX4_creditedPrices_50 : decode cX4_creditedPrices 50 = .ok (.getfield 207, 3) := by decide +kernel
theorem dX4_creditedPrices_53 : decode cX4_creditedPrices 53 = .ok (.iadd, 1) := by decide +kernel
theorem dX4_creditedPrices_54 : decode cX4_creditedPrices 54 = .ok (.istore_n 2, 1) := by decide +kernel
theorem dX4_creditedPrices_55 : decode cX4_creditedPrices 55 = .ok (.iinc 3 1, 3) := by decide +kernel
theorem dX4_creditedPrices_58 : decode cX4_creditedPrices 58 = .ok (.goto (-54), 3) := by decide +kernel
theorem dX4_creditedPrices_61 : decode cX4_creditedPrices 61 = .ok (.iload_n 2, 1) := by decide +kernel
theorem dX4_creditedPrices_62 : decode cX4_creditedPrices 62 = .ok (.ireturn, 1) := by decide +kernel
set_option maxRecDepth 20000 in
theorem ggX4_areChargedHoursWithin_Jx4a65c_size_8abf5 : GoodIn wsX4_areChargedHoursWithin wsJx4a65c_size_8abf5 := goodIn_r _ [10, 11, 49, 50, 51] (by decide +kernel) (by decide +kernel)
set_option maxRecDepth 20000 in
theorem gX4_areChargedHoursWithin_Jx4a65c_size_8abf5 : GoodIn wsX4_areChargedHoursWithin (wsV RX4 62 RJx4a65c yJx4a65c_size_8abf5 wsJx4a65c_size_8abf5) := goodIn_app (goodIn_of _ (by decide +kernel)) ggX4_areChargedHoursWithin_Jx4a65c_size_8abf5
set_option maxRecDepth 20000 in
theorem ggX4_areChargedHoursWithin_Jx4a65c_get_915e3 : GoodIn wsX4_areChargedHoursWithin wsJx4a65c_get_915e3 := goodIn_r _ [15, 11, 16, 17, 18, 19, 20, 21, 22, 23, 24, 25, 26, 9, 27, 28, 49, 50, 51] (by decide +kernel) (by decide +kernel)
set_option maxRecDepth 20000 in
theorem gX4_areChargedHoursWithin_Jx4a65c_get_915e3 : GoodIn wsX4_areChargedHoursWithin (wsV RX4 150 RJx4a65c yJx4a65c_get_915e3 wsJx4a65c_get_915e3) := goodIn_app (goodIn_of _ (by decide +kernel)) ggX4_areChargedHoursWithin_Jx4a65c_get_915e3
set_option maxRecDepth 20000 in
theorem ggX4_areChargedHoursWithin_X4_chargedHours : GoodIn wsX4_areChargedHoursWithin wsX4_chargedHours := goodIn_r _ [33, 1, 2, 3, 4, 5, 34, 6, 7, 8, 9, 10, 11, 12, 13, 14, 15, 16, 17, 18, 19, 20, 21, 22, 23, 24, 25, 26, 27, 28, 35, 36, 37, 38, 39, 40, 41, 42, 43, 44, 45, 46, 47, 48, 49, 50, 51] (by decide +kernel) (by decide +kernel)
set_option maxRecDepth 20000 in
theorem gX4_areChargedHoursWithin_X4_chargedHours : GoodIn wsX4_areChargedHoursWithin (wsV RX4 348 RX4 yX4_chargedHours wsX4_chargedHours) := goodIn_app (goodIn_of _ (by decide +kernel)) ggX4_areChargedHoursWithin_X4_chargedHours
theorem dX4_areChargedHoursWithin_0 : decode cX4_areChargedHoursWithin 0 = .ok (.iconst 0, 1) := by decide +kernel
theorem dX4_areChargedHoursWithin_1 : decode cX4_areChargedHoursWithin 1 = .ok (.istore_n 2, 1) := by decide +kernel
theorem dX4_areChargedHoursWithin_2 : decode cX4_areChargedHoursWithin 2 = .ok (.iload_n 2, 1) := by decide +kernel
theorem dX4_areChargedHoursWithin_3 : decode cX4_areChargedHoursWithin 3 = .ok (.aload_n 0, 1) := by decide +kernel
theorem dX4_areChargedHoursWithin_4 : decode cX4_areChargedHoursWithin 4 = .ok (.getfield 16, 3) := by decide +kernel
theorem dX4_areChargedHoursWithin_7 : decode cX4_areChargedHoursWithin 7 = .ok (.invokevirtual 62, 3) := by decide +kernel
theorem dX4_areChargedHoursWithin_10 : decode cX4_areChargedHoursWithin 10 = .ok (.if_icmp .ge 46, 3) := by decide +kernel
theorem dX4_areChargedHoursWithin_13 : decode cX4_areChargedHoursWithin 13 = .ok (.aload_n 0, 1) := by decide +kernel
theorem dX4_areChargedHoursWithin_14 : decode cX4_areChargedHoursWithin 14 = .ok (.getfield 16, 3) := by decide +kernel
theorem dX4_areChargedHoursWithin_17 : decode cX4_areChargedHoursWithin 17 = .ok (.iload_n 2, 1) := by decide +kernel
theorem dX4_areChargedHoursWithin_18 : decode cX4_areChargedHoursWithin 18 = .ok (.invokevirtual 150, 3) := by decide +kernel
theorem dX4_areChargedHoursWithin_21 : decode cX4_areChargedHoursWithin 21 = .ok (.checkcast 178, 3) := by decide +kernel
theorem dX4_areChargedHoursWithin_24 : decode cX4_areChargedHoursWithin 24 = .ok (.astore_n 3, 1) := by decide +kernel
theorem dX4_areChargedHoursWithin_25 : decode cX4_areChargedHoursWithin 25 = .ok (.aload_n 3, 1) := by decide +kernel
theorem dX4_areChargedHoursWithin_26 : decode cX4_areChargedHoursWithin 26 = .ok (.getfield 284, 3) := by decide +kernel
theorem dX4_areChargedHoursWithin_29 : decode cX4_areChargedHoursWithin 29 = .ok (.ifnull 21, 3) := by decide +kernel
theorem dX4_areChargedHoursWithin_32 : decode cX4_areChargedHoursWithin 32 = .ok (.aload_n 0, 1) := by decide +kernel
theorem dX4_areChargedHoursWithin_33 : decode cX4_areChargedHoursWithin 33 = .ok (.aload_n 3, 1) := by decide +kernel
theorem dX4_areChargedHoursWithin_34 : decode cX4_areChargedHoursWithin 34 = .ok (.getfield 345, 3) := by decide +kernel
theorem dX4_areChargedHoursWithin_37 : decode cX4_areChargedHoursWithin 37 = .ok (.aload_n 3, 1) := by decide +kernel
theorem dX4_areChargedHoursWithin_38 : decode cX4_areChargedHoursWithin 38 = .ok (.getfield 190, 3) := by decide +kernel
theorem dX4_areChargedHoursWithin_41 : decode cX4_areChargedHoursWithin 41 = .ok (.invokevirtual 348, 3) := by decide +kernel
theorem dX4_areChargedHoursWithin_44 : decode cX4_areChargedHoursWithin 44 = .ok (.iload_n 1, 1) := by decide +kernel
theorem dX4_areChargedHoursWithin_45 : decode cX4_areChargedHoursWithin 45 = .ok (.if_icmp .le 5, 3) := by decide +kernel
theorem dX4_areChargedHoursWithin_48 : decode cX4_areChargedHoursWithin 48 = .ok (.iconst 0, 1) := by decide +kernel
theorem dX4_areChargedHoursWithin_49 : decode cX4_areChargedHoursWithin 49 = .ok (.ireturn, 1) := by decide +kernel
theorem dX4_areChargedHoursWithin_50 : decode cX4_areChargedHoursWithin 50 = .ok (.iinc 2 1, 3) := by decide +kernel
theorem dX4_areChargedHoursWithin_53 : decode cX4_areChargedHoursWithin 53 = .ok (.goto (-51), 3) := by decide +kernel
theorem dX4_areChargedHoursWithin_56 : decode cX4_areChargedHoursWithin 56 = .ok (.iconst 1, 1) := by decide +kernel
theorem dX4_areChargedHoursWithin_57 : decode cX4_areChargedHoursWithin 57 = .ok (.ireturn, 1) := by decide +kernel
theorem dX5_init_0 : decode cX5_init 0 = .ok (.aload_n 0, 1) := by decide +kernel
theorem dX5_init_1 : decode cX5_init 1 = .ok (.invokespecial 1, 3) := by decide +kernel
theorem dX5_init_4 : decode cX5_init 4 = .ok (.aload_n 0, 1) := by decide +kernel
theorem dX5_init_5 : decode cX5_init 5 = .ok (.bipush 16, 2) := by decide +kernel
theorem dX5_init_7 : decode cX5_init 7 = .ok (.newarray .int, 2) := by decide +kernel
theorem dX5_init_9 : decode cX5_init 9 = .ok (.putfield 7, 3) := by decide +kernel
theorem dX5_init_12 : decode cX5_init 12 = .ok (.aload_n 0, 1) := by decide +kernel
theorem dX5_init_13 : decode cX5_init 13 = .ok (.bipush 16, 2) := by decide +kernel
theorem dX5_init_15 : decode cX5_init 15 = .ok (.newarray .int, 2) := by decide +kernel
theorem dX5_init_17 : decode cX5_init 17 = .ok (.putfield 13, 3) := by decide +kernel
theorem dX5_init_20 : decode cX5_init 20 = .ok (.aload_n 0, 1) := by decide +kernel
theorem dX5_init_21 : decode cX5_init 21 = .ok (.bipush 16, 2) := by decide +kernel
theorem dX5_init_23 : decode cX5_init 23 = .ok (.newarray .int, 2) := by decide +kernel
theorem dX5_init_25 : decode cX5_init 25 = .ok (.putfield 16, 3) := by decide +kernel
theorem dX5_init_28 : decode cX5_init 28 = .ok (.aload_n 0, 1) := by decide +kernel
theorem dX5_init_29 : decode cX5_init 29 = .ok (.bipush 16, 2) := by decide +kernel
theorem dX5_init_31 : decode cX5_init 31 = .ok (.newarray .char, 2) := by decide +kernel
theorem dX5_init_33 : decode cX5_init 33 = .ok (.putfield 19, 3) := by decide +kernel
theorem dX5_init_36 : decode cX5_init 36 = .ok (.aload_n 0, 1) := by decide +kernel
theorem dX5_init_37 : decode cX5_init 37 = .ok (.bipush 60, 2) := by decide +kernel
theorem dX5_init_39 : decode cX5_init 39 = .ok (.newarray .char, 2) := by decide +kernel
theorem dX5_init_41 : decode cX5_init 41 = .ok (.putfield 23, 3) := by decide +kernel
theorem dX5_init_44 : decode cX5_init 44 = .ok (.aload_n 0, 1) := by decide +kernel
theorem dX5_init_45 : decode cX5_init 45 = .ok (.sipush 256, 3) := by decide +kernel
theorem dX5_init_48 : decode cX5_init 48 = .ok (.newarray .boolean, 2) := by decide +kernel
theorem dX5_init_50 : decode cX5_init 50 = .ok (.putfield 26, 3) := by decide +kernel
theorem dX5_init_53 : decode cX5_init 53 = .ok (.aload_n 0, 1) := by decide +kernel
theorem dX5_init_54 : decode cX5_init 54 = .ok (.bipush 30, 2) := by decide +kernel
theorem dX5_init_56 : decode cX5_init 56 = .ok (.newarray .boolean, 2) := by decide +kernel
theorem dX5_init_58 : decode cX5_init 58 = .ok (.putfield 30, 3) := by decide +kernel
theorem dX5_init_61 : decode cX5_init 61 = .ok (.aload_n 0, 1) := by decide +kernel
theorem dX5_init_62 : decode cX5_init 62 = .ok (.bipush 16, 2) := by decide +kernel
theorem dX5_init_64 : decode cX5_init 64 = .ok (.newarray .boolean, 2) := by decide +kernel
theorem dX5_init_66 : decode cX5_init 66 = .ok (.putfield 33, 3) := by decide +kernel
theorem dX5_init_69 : decode cX5_init 69 = .ok (.aload_n 0, 1) := by decide +kernel
theorem dX5_init_70 : decode cX5_init 70 = .ok (.bipush 60, 2) := by decide +kernel
theorem dX5_init_72 : decode cX5_init 72 = .ok (.newarray .int, 2) := by decide +kernel
theorem dX5_init_74 : decode cX5_init 74 = .ok (.putfield 36, 3) := by decide +kernel
theorem dX5_init_77 : decode cX5_init 77 = .ok (.aload_n 0, 1) := by decide +kernel
theorem dX5_init_78 : decode cX5_init 78 = .ok (.bipush 60, 2) := by decide +kernel
theorem dX5_init_80 : decode cX5_init 80 = .ok (.newarray .int, 2) := by decide +kernel
theorem dX5_init_82 : decode cX5_init 82 = .ok (.putfield 39, 3) := by decide +kernel
theorem dX5_init_85 : decode cX5_init 85 = .ok (.aload_n 0, 1) := by decide +kernel
theorem dX5_init_86 : decode cX5_init 86 = .ok (.bipush 60, 2) := by decide +kernel
theorem dX5_init_88 : decode cX5_init 88 = .ok (.newarray .int, 2) := by decide +kernel
theorem dX5_init_90 : decode cX5_init 90 = .ok (.putfield 42, 3) := by decide +kernel
theorem dX5_init_93 : decode cX5_init 93 = .ok (.aload_n 0, 1) := by decide +kernel
theorem dX5_init_94 : decode cX5_init 94 = .ok (.bipush 60, 2) := by decide +kernel
theorem dX5_init_96 : decode cX5_init 96 = .ok (.newarray .int, 2) := by decide +kernel
theorem dX5_init_98 : decode cX5_init 98 = .ok (.putfield 45, 3) := by decide +kernel
theorem dX5_init_101 : decode cX5_init 101 = .ok (.aload_n 0, 1) := by decide +kernel
theorem dX5_init_102 : decode cX5_init 102 = .ok (.bipush 60, 2) := by decide +kernel
theorem dX5_init_104 : decode cX5_init 104 = .ok (.newarray .int, 2) := by decide +kernel
theorem dX5_init_106 : decode cX5_init 106 = .ok (.putfield 48, 3) := by decide +kernel
theorem dX5_init_109 : decode cX5_init 109 = .ok (.aload_n 0, 1) := by decide +kernel
theorem dX5_init_110 : decode cX5_init 110 = .ok (.bipush 60, 2) := by decide +kernel
theorem dX5_init_112 : decode cX5_init 112 = .ok (.newarray .int, 2) := by decide +kernel
theorem dX5_init_114 : decode cX5_init 114 = .ok (.putfield 51, 3) := by decide +kernel
theorem dX5_init_117 : decode cX5_init 117 = .ok (.aload_n 0, 1) := by decide +kernel
theorem dX5_init_118 : decode cX5_init 118 = .ok (.iconst 4, 1) := by decide +kernel
theorem dX5_init_119 : decode cX5_init 119 = .ok (.newarray .int, 2) := by decide +kernel
theorem dX5_init_121 : decode cX5_init 121 = .ok (.putfield 54, 3) := by decide +kernel
theorem dX5_init_124 : decode cX5_init 124 = .ok (.aload_n 0, 1) := by decide +kernel
theorem dX5_init_125 : decode cX5_init 125 = .ok (.bipush 20, 2) := by decide +kernel
theorem dX5_init_127 : decode cX5_init 127 = .ok (.newarray .int, 2) := by decide +kernel
theorem dX5_init_129 : decode cX5_init 129 = .ok (.putfield 57, 3) := by decide +kernel
theorem dX5_init_132 : decode cX5_init 132 = .ok (.aload_n 0, 1) := by decide +kernel
theorem dX5_init_133 : decode cX5_init 133 = .ok (.bipush 20, 2) := by decide +kernel
theorem dX5_init_135 : decode cX5_init 135 = .ok (.newarray .int, 2) := by decide +kernel
theorem dX5_init_137 : decode cX5_init 137 = .ok (.putfield 60, 3) := by decide +kernel
theorem dX5_init_140 : decode cX5_init 140 = .ok (.aload_n 0, 1) := by decide +kernel
theorem dX5_init_141 : decode cX5_init 141 = .ok (.bipush 20, 2) := by decide +kernel
theorem dX5_init_143 : decode cX5_init 143 = .ok (.newarray .int, 2) := by decide +kernel
theorem dX5_init_145 : decode cX5_init 145 = .ok (.putfield 63, 3) := by decide +kernel
theorem dX5_init_148 : decode cX5_init 148 = .ok (.aload_n 0, 1) := by decide +kernel
theorem dX5_init_149 : decode cX5_init 149 = .ok (.iconst 0, 1) := by decide +kernel
theorem dX5_init_150 : decode cX5_init 150 = .ok (.putfield 66, 3) := by decide +kernel
theorem dX5_init_153 : decode cX5_init 153 = .ok (.aload_n 0, 1) := by decide +kernel
theorem dX5_init_154 : decode cX5_init 154 = .ok (.iconst 0, 1) := by decide +kernel
theorem dX5_init_155 : decode cX5_init 155 = .ok (.putfield 70, 3) := by decide +kernel
theorem dX5_init_158 : decode cX5_init 158 = .ok (.aload_n 0, 1) := by decide +kernel
theorem dX5_init_159 : decode cX5_init 159 = .ok (.iconst 0, 1) := by decide +kernel
theorem dX5_init_160 : decode cX5_init 160 = .ok (.putfield 73, 3) := by decide +kernel
theorem dX5_init_163 : decode cX5_init 163 = .ok (.aload_n 0, 1) := by decide +kernel
theorem dX5_init_164 : decode cX5_init 164 = .ok (.iconst 0, 1) := by decide +kernel
theorem dX5_init_165 : decode cX5_init 165 = .ok (.putfield 76, 3) := by decide +kernel
theorem dX5_init_168 : decode cX5_init 168 = .ok (.aload_n 0, 1) := by decide +kernel
theorem dX5_init_169 : decode cX5_init 169 = .ok (.iconst 0, 1) := by decide +kernel
theorem dX5_init_170 : decode cX5_init 170 = .ok (.putfield 79, 3) := by decide +kernel
theorem dX5_init_173 : decode cX5_init 173 = .ok (.aload_n 0, 1) := by decide +kernel
theorem dX5_init_174 : decode cX5_init 174 = .ok (.bipush 40, 2) := by decide +kernel
theorem dX5_init_176 : decode cX5_init 176 = .ok (.putfield 82, 3) := by decide +kernel
theorem dX5_init_179 : decode cX5_init 179 = .ok (.aload_n 0, 1) := by decide +kernel
theorem dX5_init_180 : decode cX5_init 180 = .ok (.iconst 0, 1) := by decide +kernel
theorem dX5_init_181 : decode cX5_init 181 = .ok (.putfield 85, 3) := by decide +kernel
theorem dX5_init_184 : decode cX5_init 184 = .ok (.aload_n 0, 1) := by decide +kernel
theorem dX5_init_185 : decode cX5_init 185 = .ok (.iconst 0, 1) := by decide +kernel
theorem dX5_init_186 : decode cX5_init 186 = .ok (.putfield 88, 3) := by decide +kernel
theorem dX5_init_189 : decode cX5_init 189 = .ok (.iconst 0, 1) := by decide +kernel
theorem dX5_init_190 : decode cX5_init 190 = .ok (.istore_n 1, 1) := by decide +kernel
theorem dX5_init_191 : decode cX5_init 191 = .ok (.iload_n 1, 1) := by decide +kernel
theorem dX5_init_192 : decode cX5_init 192 = .ok (.iconst 4, 1) := by decide +kernel
theorem dX5_init_193 : decode cX5_init 193 = .ok (.if_icmp .ge 17, 3) := by decide +kernel
theorem dX5_init_196 : decode cX5_init 196 = .ok (.aload_n 0, 1) := by decide +kernel
theorem dX5_init_197 : decode cX5_init 197 = .ok (.getfield 54, 3) := by decide +kernel
theorem dX5_init_200 : decode cX5_init 200 = .ok (.iload_n 1, 1) := by decide +kernel
theorem dX5_init_201 : decode cX5_init 201 = .ok (.bipush 50, 2) := by decide +kernel
theorem dX5_init_203 : decode cX5_init 203 = .ok (.iastore, 1) := by decide +kernel
theorem dX5_init_204 : decode cX5_init 204 = .ok (.iinc 1 1, 3) := by decide +kernel
theorem dX5_init_207 : decode cX5_init 207 = .ok (.goto (-16), 3) := by decide +kernel
theorem dX5_init_210 : decode cX5_init 210 = .ok (.return_, 1) := by decide +kernel
theorem dX5_thrown_0 : decode cX5_thrown 0 = .ok (.aload_n 0, 1) := by decide +kernel
theorem dX5_thrown_1 : decode cX5_thrown 1 = .ok (.getfield 66, 3) := by decide +kernel
theorem dX5_thrown_4 : decode cX5_thrown 4 = .ok (.ireturn, 1) := by decide +kernel
theorem dX5_in_0 : decode cX5_in 0 = .ok (.iload_n 0, 1) := by decide +kernel
theorem dX5_in_1 : decode cX5_in 1 = .ok (.iload_n 1, 1) := by decide +kernel
theorem dX5_in_2 : decode cX5_in 2 = .ok (.if_icmp .lt 12, 3) := by decide +kernel
theorem dX5_in_5 : decode cX5_in 5 = .ok (.iload_n 0, 1) := by decide +kernel
theorem dX5_in_6 : decode cX5_in 6 = .ok (.iload_n 2, 1) := by decide +kernel
theorem dX5_in_7 : decode cX5_in 7 = .ok (.if_icmp .gt 7, 3) := by decide +kernel
theorem dX5_in_10 : decode cX5_in 10 = .ok (.iconst 1, 1) := by decide +kernel
theorem dX5_in_11 : decode cX5_in 11 = .ok (.goto 4, 3) := by decide +kernel
theorem dX5_in_14 : decode cX5_in 14 = .ok (.iconst 0, 1) := by decide +kernel
theorem dX5_in_15 : decode cX5_in 15 = .ok (.ireturn, 1) := by decide +kernel
theorem dX5_plain_0 : decode cX5_plain 0 = .ok (.aload_n 0, 1) := by decide +kernel
theorem dX5_plain_1 : decode cX5_plain 1 = .ok (.iconst 0, 1) := by decide +kernel
theorem dX5_plain_2 : decode cX5_plain 2 = .ok (.putfield 66, 3) := by decide +kernel
theorem dX5_plain_5 : decode cX5_plain 5 = .ok (.iload_n 1, 1) := by decide +kernel
theorem dX5_plain_6 : decode cX5_plain 6 = .ok (.ireturn, 1) := by decide +kernel
theorem dX5_checked_0 : decode cX5_checked 0 = .ok (.aload_n 0, 1) := by decide +kernel
theorem dX5_checked_1 : decode cX5_checked 1 = .ok (.iload_n 1, 1) := by decide +kernel
theorem dX5_checked_2 : decode cX5_checked 2 = .ok (.ifCond .eq 7, 3) := by decide +kernel
theorem dX5_checked_5 : decode cX5_checked 5 = .ok (.iconst 0, 1) := by decide +kernel
theorem dX5_checked_6 : decode cX5_checked 6 = .ok (.goto 4, 3) := by decide +kernel
theorem dX5_checked_9 : decode cX5_checked 9 = .ok (.iconst 1, 1) := by decide +kernel
theorem dX5_checked_10 : decode cX5_checked 10 = .ok (.putfield 66, 3) := by decide +kernel
theorem dX5_checked_13 : decode cX5_checked 13 = .ok (.aload_n 0, 1) := by decide +kernel
theorem dX5_checked_14 : decode cX5_checked 14 = .ok (.getfield 66, 3) := by decide +kernel
theorem dX5_checked_17 : decode cX5_checked 17 = .ok (.ireturn, 1) := by decide +kernel
set_option maxRecDepth 20000 in
theorem ggX5_isTask_X5_in : GoodIn wsX5_isTask wsX5_in := goodIn_r _ [5] (by decide +kernel) (by decide +kernel)
set_option maxRecDepth 20000 in
theorem gX5_isTask_X5_in : GoodIn wsX5_isTask (va_wsS RX5 91 yX5_in wsX5_in) := goodIn_app (goodIn_of _ (by decide +kernel)) ggX5_isTask_X5_in
theorem dX5_isTask_0 : decode cX5_isTask 0 = .ok (.iload_n 1, 1) := by decide +kernel
theorem dX5_isTask_1 : decode cX5_isTask 1 = .ok (.iconst 0, 1) := by decide +kernel
theorem dX5_isTask_2 : decode cX5_isTask 2 = .ok (.aload_n 0, 1) := by decide +kernel
theorem dX5_isTask_3 : decode cX5_isTask 3 = .ok (.getfield 70, 3) := by decide +kernel
theorem dX5_isTask_6 : decode cX5_isTask 6 = .ok (.iconst 1, 1) := by decide +kernel
theorem dX5_isTask_7 : decode cX5_isTask 7 = .ok (.isub, 1) := by decide +kernel
theorem dX5_isTask_8 : decode cX5_isTask 8 = .ok (.invokestatic 91, 3) := by decide +kernel
theorem dX5_isTask_11 : decode cX5_isTask 11 = .ok (.ireturn, 1) := by decide +kernel
set_option maxRecDepth 20000 in
theorem ggX5_isEntry_X5_in : GoodIn wsX5_isEntry wsX5_in := goodIn_r _ [5] (by decide +kernel) (by decide +kernel)
set_option maxRecDepth 20000 in
theorem gX5_isEntry_X5_in : GoodIn wsX5_isEntry (va_wsS RX5 91 yX5_in wsX5_in) := goodIn_app (goodIn_of _ (by decide +kernel)) ggX5_isEntry_X5_in
theorem dX5_isEntry_0 : decode cX5_isEntry 0 = .ok (.iload_n 1, 1) := by decide +kernel
theorem dX5_isEntry_1 : decode cX5_isEntry 1 = .ok (.iconst 0, 1) := by decide +kernel
theorem dX5_isEntry_2 : decode cX5_isEntry 2 = .ok (.aload_n 0, 1) := by decide +kernel
theorem dX5_isEntry_3 : decode cX5_isEntry 3 = .ok (.getfield 76, 3) := by decide +kernel
theorem dX5_isEntry_6 : decode cX5_isEntry 6 = .ok (.iconst 1, 1) := by decide +kernel
theorem dX5_isEntry_7 : decode cX5_isEntry 7 = .ok (.isub, 1) := by decide +kernel
theorem dX5_isEntry_8 : decode cX5_isEntry 8 = .ok (.invokestatic 91, 3) := by decide +kernel
theorem dX5_isEntry_11 : decode cX5_isEntry 11 = .ok (.ireturn, 1) := by decide +kernel
set_option maxRecDepth 20000 in
theorem ggX5_isInvoice_X5_in : GoodIn wsX5_isInvoice wsX5_in := goodIn_r _ [5] (by decide +kernel) (by decide +kernel)
set_option maxRecDepth 20000 in
theorem gX5_isInvoice_X5_in : GoodIn wsX5_isInvoice (va_wsS RX5 91 yX5_in wsX5_in) := goodIn_app (goodIn_of _ (by decide +kernel)) ggX5_isInvoice_X5_in
theorem dX5_isInvoice_0 : decode cX5_isInvoice 0 = .ok (.iload_n 1, 1) := by decide +kernel
theorem dX5_isInvoice_1 : decode cX5_isInvoice 1 = .ok (.iconst 0, 1) := by decide +kernel
theorem dX5_isInvoice_2 : decode cX5_isInvoice 2 = .ok (.aload_n 0, 1) := by decide +kernel
theorem dX5_isInvoice_3 : decode cX5_isInvoice 3 = .ok (.getfield 79, 3) := by decide +kernel
theorem dX5_isInvoice_6 : decode cX5_isInvoice 6 = .ok (.iconst 1, 1) := by decide +kernel
theorem dX5_isInvoice_7 : decode cX5_isInvoice 7 = .ok (.isub, 1) := by decide +kernel
theorem dX5_isInvoice_8 : decode cX5_isInvoice 8 = .ok (.invokestatic 91, 3) := by decide +kernel
theorem dX5_isInvoice_11 : decode cX5_isInvoice 11 = .ok (.ireturn, 1) := by decide +kernel
set_option maxRecDepth 20000 in
theorem ggX5_isWeek_X5_in : GoodIn wsX5_isWeek wsX5_in := goodIn_r _ [4] (by decide +kernel) (by decide +kernel)
set_option maxRecDepth 20000 in
theorem gX5_isWeek_X5_in : GoodIn wsX5_isWeek (va_wsS RX5 91 yX5_in wsX5_in) := goodIn_app (goodIn_of _ (by decide +kernel)) ggX5_isWeek_X5_in
theorem dX5_isWeek_0 : decode cX5_isWeek 0 = .ok (.iload_n 0, 1) := by decide +kernel
theorem dX5_isWeek_1 : decode cX5_isWeek 1 = .ok (.iconst 0, 1) := by decide +kernel
theorem dX5_isWeek_2 : decode cX5_isWeek 2 = .ok (.bipush 29, 2) := by decide +kernel
theorem dX5_isWeek_4 : decode cX5_isWeek 4 = .ok (.invokestatic 91, 3) := by decide +kernel
theorem dX5_isWeek_7 : decode cX5_isWeek 7 = .ok (.ireturn, 1) := by decide +kernel
theorem dX5_manyIn_0 : decode cX5_manyIn 0 = .ok (.iconst 0, 1) := by decide +kernel
theorem dX5_manyIn_1 : decode cX5_manyIn 1 = .ok (.istore_n 2, 1) := by decide +kernel
theorem dX5_manyIn_2 : decode cX5_manyIn 2 = .ok (.iconst 0, 1) := by decide +kernel
theorem dX5_manyIn_3 : decode cX5_manyIn 3 = .ok (.istore_n 3, 1) := by decide +kernel
theorem dX5_manyIn_4 : decode cX5_manyIn 4 = .ok (.iload_n 3, 1) := by decide +kernel
theorem dX5_manyIn_5 : decode cX5_manyIn 5 = .ok (.aload_n 0, 1) := by decide +kernel
theorem dX5_manyIn_6 : decode cX5_manyIn 6 = .ok (.getfield 70, 3) := by decide +kernel
theorem dX5_manyIn_9 : decode cX5_manyIn 9 = .ok (.if_icmp .ge 27, 3) := by decide +kernel
theorem dX5_manyIn_12 : decode cX5_manyIn 12 = .ok (.iload_n 2, 1) := by decide +kernel
theorem dX5_manyIn_13 : decode cX5_manyIn 13 = .ok (.aload_n 0, 1) := by decide +kernel
theorem dX5_manyIn_14 : decode cX5_manyIn 14 = .ok (.getfield 19, 3) := by decide +kernel
theorem dX5_manyIn_17 : decode cX5_manyIn 17 = .ok (.iload_n 3, 1) := by decide +kernel
theorem dX5_manyIn_18 : decode cX5_manyIn 18 = .ok (.caload, 1) := by decide +kernel
theorem dX5_manyIn_19 : decode cX5_manyIn 19 = .ok (.iload_n 1, 1) := by decide +kernel
theorem dX5_manyIn_20 : decode cX5_manyIn 20 = .ok (.if_icmp .ne 7, 3) := by decide +kernel
theorem dX5_manyIn_23 : decode cX5_manyIn 23 = .ok (.iconst 1, 1) := by decide +kernel
theorem dX5_manyIn_24 : decode cX5_manyIn 24 = .ok (.goto 4, 3) := by decide +kernel
theorem dX5_manyIn_27 : decode cX5_manyIn 27 = .ok (.iconst 0, 1) := by decide +kernel
theorem dX5_manyIn_28 : decode cX5_manyIn 28 = .ok (.iadd, 1) := by decide +kernel
theorem dX5_manyIn_29 : decode cX5_manyIn 29 = .ok (.istore_n 2, 1) := by decide +kernel
theorem dX5_manyIn_30 : decode cX5_manyIn 30 = .ok (.iinc 3 1, 3) := by decide +kernel
theorem dX5_manyIn_33 : decode cX5_manyIn 33 = .ok (.goto (-29), 3) := by decide +kernel
theorem dX5_manyIn_36 : decode cX5_manyIn 36 = .ok (.iload_n 2, 1) := by decide +kernel
theorem dX5_manyIn_37 : decode cX5_manyIn 37 = .ok (.ireturn, 1) := by decide +kernel
set_option maxRecDepth 20000 in
theorem ggX5_addTask_X5_isTask : GoodIn wsX5_addTask wsX5_isTask := goodIn_r _ [11, 1, 12, 13, 10, 14, 15, 16, 17, 18, 19, 20, 21, 22, 23, 24, 25, 26, 27, 28, 29, 30, 31, 32, 33, 34, 35, 36, 37, 38, 39, 40] (by decide +kernel) (by decide +kernel)
set_option maxRecDepth 20000 in
theorem gX5_addTask_X5_isTask : GoodIn wsX5_addTask (wsV RX5 95 RX5 yX5_isTask wsX5_isTask) := goodIn_app (goodIn_of _ (by decide +kernel)) ggX5_addTask_X5_isTask
set_option maxRecDepth 20000 in
theorem ggX5_addTask_X5_in : GoodIn wsX5_addTask wsX5_in := goodIn_r _ [14] (by decide +kernel) (by decide +kernel)
set_option maxRecDepth 20000 in
theorem gX5_addTask_X5_in : GoodIn wsX5_addTask (va_wsS RX5 91 yX5_in wsX5_in) := goodIn_app (goodIn_of _ (by decide +kernel)) ggX5_addTask_X5_in
theorem dX5_addTask_0 : decode cX5_addTask 0 = .ok (.aload_n 0, 1) := by decide +kernel
theorem dX5_addTask_1 : decode cX5_addTask 1 = .ok (.iload_n 1, 1) := by decide +kernel
theorem dX5_addTask_2 : decode cX5_addTask 2 = .ok (.iconst (-1), 1) := by decide +kernel
theorem dX5_addTask_3 : decode cX5_addTask 3 = .ok (.if_icmp .eq 15, 3) := by decide +kernel
theorem dX5_addTask_6 : decode cX5_addTask 6 = .ok (.aload_n 0, 1) := by decide +kernel
theorem dX5_addTask_7 : decode cX5_addTask 7 = .ok (.iload_n 1, 1) := by decide +kernel
theorem dX5_addTask_8 : decode cX5_addTask 8 = .ok (.invokevirtual 95, 3) := by decide +kernel
theorem dX5_addTask_11 : decode cX5_addTask 11 = .ok (.ifCond .ne 7, 3) := by decide +kernel
theorem dX5_addTask_14 : decode cX5_addTask 14 = .ok (.iconst 1, 1) := by decide +kernel
theorem dX5_addTask_15 : decode cX5_addTask 15 = .ok (.goto 63, 3) := by decide +kernel
theorem dX5_addTask_18 : decode cX5_addTask 18 = .ok (.iload_n 2, 1) := by decide +kernel
theorem dX5_addTask_19 : decode cX5_addTask 19 = .ok (.iconst 1, 1) := by decide +kernel
theorem dX5_addTask_20 : decode cX5_addTask 20 = .ok (.sipush 400, 3) := by decide +kernel
theorem dX5_addTask_23 : decode cX5_addTask 23 = .ok (.invokestatic 91, 3) := by decide +kernel
theorem dX5_addTask_26 : decode cX5_addTask 26 = .ok (.ifCond .eq 14, 3) := by decide +kernel
theorem dX5_addTask_29 : decode cX5_addTask 29 = .ok (.iload_n 3, 1) := by decide +kernel
theorem dX5_addTask_30 : decode cX5_addTask 30 = .ok (.iconst 0, 1) := by decide +kernel
theorem dX5_addTask_31 : decode cX5_addTask 31 = .ok (.sipush 400, 3) := by decide +kernel
theorem dX5_addTask_34 : decode cX5_addTask 34 = .ok (.invokestatic 91, 3) := by decide +kernel
theorem dX5_addTask_37 : decode cX5_addTask 37 = .ok (.ifCond .ne 7, 3) := by decide +kernel
theorem dX5_addTask_40 : decode cX5_addTask 40 = .ok (.iconst 2, 1) := by decide +kernel
theorem dX5_addTask_41 : decode cX5_addTask 41 = .ok (.goto 37, 3) := by decide +kernel
theorem dX5_addTask_44 : decode cX5_addTask 44 = .ok (.aload_n 0, 1) := by decide +kernel
theorem dX5_addTask_45 : decode cX5_addTask 45 = .ok (.getfield 70, 3) := by decide +kernel
theorem dX5_addTask_48 : decode cX5_addTask 48 = .ok (.bipush 16, 2) := by decide +kernel
theorem dX5_addTask_50 : decode cX5_addTask 50 = .ok (.if_icmp .ne 7, 3) := by decide +kernel
theorem dX5_addTask_53 : decode cX5_addTask 53 = .ok (.iconst 3, 1) := by decide +kernel
theorem dX5_addTask_54 : decode cX5_addTask 54 = .ok (.goto 24, 3) := by decide +kernel
theorem dX5_addTask_57 : decode cX5_addTask 57 = .ok (.iload_n 1, 1) := by decide +kernel
theorem dX5_addTask_58 : decode cX5_addTask 58 = .ok (.iconst (-1), 1) := by decide +kernel
theorem dX5_addTask_59 : decode cX5_addTask 59 = .ok (.if_icmp .eq 18, 3) := by decide +kernel
theorem dX5_addTask_62 : decode cX5_addTask 62 = .ok (.aload_n 0, 1) := by decide +kernel
theorem dX5_addTask_63 : decode cX5_addTask 63 = .ok (.getfield 19, 3) := by decide +kernel
theorem dX5_addTask_66 : decode cX5_addTask 66 = .ok (.iload_n 1, 1) := by decide +kernel
theorem dX5_addTask_67 : decode cX5_addTask 67 = .ok (.caload, 1) := by decide +kernel
theorem dX5_addTask_68 : decode cX5_addTask 68 = .ok (.bipush 100, 2) := by decide +kernel
theorem dX5_addTask_70 : decode cX5_addTask 70 = .ok (.if_icmp .ne 7, 3) := by decide +kernel
theorem dX5_addTask_73 : decode cX5_addTask 73 = .ok (.iconst 4, 1) := by decide +kernel
theorem dX5_addTask_74 : decode cX5_addTask 74 = .ok (.goto 4, 3) := by decide +kernel
theorem dX5_addTask_77 : decode cX5_addTask 77 = .ok (.iconst 0, 1) := by decide +kernel
theorem dX5_addTask_78 : decode cX5_addTask 78 = .ok (.putfield 66, 3) := by decide +kernel
theorem dX5_addTask_81 : decode cX5_addTask 81 = .ok (.aload_n 0, 1) := by decide +kernel
theorem dX5_addTask_82 : decode cX5_addTask 82 = .ok (.getfield 66, 3) := by decide +kernel
theorem dX5_addTask_85 : decode cX5_addTask 85 = .ok (.ifCond .le 5, 3) := by decide +kernel
theorem dX5_addTask_88 : decode cX5_addTask 88 = .ok (.iconst 0, 1) := by decide +kernel
theorem dX5_addTask_89 : decode cX5_addTask 89 = .ok (.ireturn, 1) := by decide +kernel
theorem dX5_addTask_90 : decode cX5_addTask 90 = .ok (.aload_n 0, 1) := by decide +kernel
theorem dX5_addTask_91 : decode cX5_addTask 91 = .ok (.getfield 7, 3) := by decide +kernel
theorem dX5_addTask_94 : decode cX5_addTask 94 = .ok (.aload_n 0, 1) := by decide +kernel
theorem dX5_addTask_95 : decode cX5_addTask 95 = .ok (.getfield 70, 3) := by decide +kernel
theorem dX5_addTask_98 : decode cX5_addTask 98 = .ok (.iload_n 1, 1) := by decide +kernel
theorem dX5_addTask_99 : decode cX5_addTask 99 = .ok (.iastore, 1) := by decide +kernel
theorem dX5_addTask_100 : decode cX5_addTask 100 = .ok (.aload_n 0, 1) := by decide +kernel
theorem dX5_addTask_101 : decode cX5_addTask 101 = .ok (.getfield 13, 3) := by decide +kernel
theorem dX5_addTask_104 : decode cX5_addTask 104 = .ok (.aload_n 0, 1) := by decide +kernel
theorem dX5_addTask_105 : decode cX5_addTask 105 = .ok (.getfield 70, 3) := by decide +kernel
theorem dX5_addTask_108 : decode cX5_addTask 108 = .ok (.iload_n 2, 1) := by decide +kernel
theorem dX5_addTask_109 : decode cX5_addTask 109 = .ok (.iastore, 1) := by decide +kernel
theorem dX5_addTask_110 : decode cX5_addTask 110 = .ok (.aload_n 0, 1) := by decide +kernel
theorem dX5_addTask_111 : decode cX5_addTask 111 = .ok (.getfield 16, 3) := by decide +kernel
theorem dX5_addTask_114 : decode cX5_addTask 114 = .ok (.aload_n 0, 1) := by decide +kernel
theorem dX5_addTask_115 : decode cX5_addTask 115 = .ok (.getfield 70, 3) := by decide +kernel
theorem dX5_addTask_118 : decode cX5_addTask 118 = .ok (.iload_n 3, 1) := by decide +kernel
theorem dX5_addTask_119 : decode cX5_addTask 119 = .ok (.iastore, 1) := by decide +kernel
theorem dX5_addTask_120 : decode cX5_addTask 120 = .ok (.aload_n 0, 1) := by decide +kernel
theorem dX5_addTask_121 : decode cX5_addTask 121 = .ok (.getfield 19, 3) := by decide +kernel
theorem dX5_addTask_124 : decode cX5_addTask 124 = .ok (.aload_n 0, 1) := by decide +kernel
theorem dX5_addTask_125 : decode cX5_addTask 125 = .ok (.getfield 70, 3) := by decide +kernel
theorem dX5_addTask_128 : decode cX5_addTask 128 = .ok (.bipush 111, 2) := by decide +kernel
theorem dX5_addTask_130 : decode cX5_addTask 130 = .ok (.castore, 1) := by decide +kernel
theorem dX5_addTask_131 : decode cX5_addTask 131 = .ok (.aload_n 0, 1) := by decide +kernel
theorem dX5_addTask_132 : decode cX5_addTask 132 = .ok (.dup, 1) := by decide +kernel
theorem dX5_addTask_133 : decode cX5_addTask 133 = .ok (.getfield 70, 3) := by decide +kernel
theorem dX5_addTask_136 : decode cX5_addTask 136 = .ok (.iconst 1, 1) := by decide +kernel
theorem dX5_addTask_137 : decode cX5_addTask 137 = .ok (.iadd, 1) := by decide +kernel
theorem dX5_addTask_138 : decode cX5_addTask 138 = .ok (.putfield 70, 3) := by decide +kernel
theorem dX5_addTask_141 : decode cX5_addTask 141 = .ok (.aload_n 0, 1) := by decide +kernel
theorem dX5_addTask_142 : decode cX5_addTask 142 = .ok (.getfield 70, 3) := by decide +kernel
theorem dX5_addTask_145 : decode cX5_addTask 145 = .ok (.iconst 1, 1) := by decide +kernel
theorem dX5_addTask_146 : decode cX5_addTask 146 = .ok (.isub, 1) := by decide +kernel
theorem dX5_addTask_147 : decode cX5_addTask 147 = .ok (.ireturn, 1) := by decide +kernel
theorem dX5_blocks_0 : decode cX5_blocks 0 = .ok (.aload_n 0, 1) := by decide +kernel
theorem dX5_blocks_1 : decode cX5_blocks 1 = .ok (.getfield 26, 3) := by decide +kernel
theorem dX5_blocks_4 : decode cX5_blocks 4 = .ok (.bipush 16, 2) := by decide +kernel
theorem dX5_blocks_6 : decode cX5_blocks 6 = .ok (.iload_n 1, 1) := by decide +kernel
theorem dX5_blocks_7 : decode cX5_blocks 7 = .ok (.imul, 1) := by decide +kernel
theorem dX5_blocks_8 : decode cX5_blocks 8 = .ok (.iload_n 2, 1) := by decide +kernel
theorem dX5_blocks_9 : decode cX5_blocks 9 = .ok (.iadd, 1) := by decide +kernel
theorem dX5_blocks_10 : decode cX5_blocks 10 = .ok (.baload, 1) := by decide +kernel
theorem dX5_blocks_11 : decode cX5_blocks 11 = .ok (.ireturn, 1) := by decide +kernel
set_option maxRecDepth 20000 in
theorem ggX5_leads_X5_blocks : GoodIn wsX5_leads wsX5_blocks := goodIn_ca (goodIn_r _ [7, 8, 9, 10, 11, 12, 13, 14, 15, 16, 17, 18, 19, 20, 21, 22, 23, 24, 25, 26, 27, 28, 29, 30, 31, 32, 33, 34] (by decide +kernel) (by decide +kernel)) (goodIn_sub (fun _ h => List.mem_cons_of_mem _ (List.mem_append_right _ h)) (by decide +kernel))
set_option maxRecDepth 20000 in
theorem gX5_leads_X5_blocks : GoodIn wsX5_leads (wsV RX5 99 RX5 yX5_blocks wsX5_blocks) := goodIn_app (goodIn_of _ (by decide +kernel)) ggX5_leads_X5_blocks
theorem dX5_leads_0 : decode cX5_leads 0 = .ok (.iconst 0, 1) := by decide +kernel
theorem dX5_leads_1 : decode cX5_leads 1 = .ok (.istore_n 3, 1) := by decide +kernel
theorem dX5_leads_2 : decode cX5_leads 2 = .ok (.iload_n 3, 1) := by decide +kernel
theorem dX5_leads_3 : decode cX5_leads 3 = .ok (.bipush 16, 2) := by decide +kernel
theorem dX5_leads_5 : decode cX5_leads 5 = .ok (.if_icmp .ge 25, 3) := by decide +kernel
theorem dX5_leads_8 : decode cX5_leads 8 = .ok (.aload_n 0, 1) := by decide +kernel
theorem dX5_leads_9 : decode cX5_leads 9 = .ok (.getfield 33, 3) := by decide +kernel
theorem dX5_leads_12 : decode cX5_leads 12 = .ok (.iload_n 3, 1) := by decide +kernel
theorem dX5_leads_13 : decode cX5_leads 13 = .ok (.iload_n 3, 1) := by decide +kernel
theorem dX5_leads_14 : decode cX5_leads 14 = .ok (.iload_n 1, 1) := by decide +kernel
theorem dX5_leads_15 : decode cX5_leads 15 = .ok (.if_icmp .ne 7, 3) := by decide +kernel
theorem dX5_leads_18 : decode cX5_leads 18 = .ok (.iconst 1, 1) := by decide +kernel
theorem dX5_leads_19 : decode cX5_leads 19 = .ok (.goto 4, 3) := by decide +kernel
theorem dX5_leads_22 : decode cX5_leads 22 = .ok (.iconst 0, 1) := by decide +kernel
theorem dX5_leads_23 : decode cX5_leads 23 = .ok (.bastore, 1) := by decide +kernel
theorem dX5_leads_24 : decode cX5_leads 24 = .ok (.iinc 3 1, 3) := by decide +kernel
theorem dX5_leads_27 : decode cX5_leads 27 = .ok (.goto (-25), 3) := by decide +kernel
theorem dX5_leads_30 : decode cX5_leads 30 = .ok (.iconst 0, 1) := by decide +kernel
theorem dX5_leads_31 : decode cX5_leads 31 = .ok (.istore_n 3, 1) := by decide +kernel
theorem dX5_leads_32 : decode cX5_leads 32 = .ok (.iload_n 3, 1) := by decide +kernel
theorem dX5_leads_33 : decode cX5_leads 33 = .ok (.bipush 16, 2) := by decide +kernel
theorem dX5_leads_35 : decode cX5_leads 35 = .ok (.if_icmp .ge 74, 3) := by decide +kernel
theorem dX5_leads_38 : decode cX5_leads 38 = .ok (.iconst 0, 1) := by decide +kernel
theorem dX5_leads_39 : decode cX5_leads 39 = .ok (.istore 4, 2) := by decide +kernel
theorem dX5_leads_41 : decode cX5_leads 41 = .ok (.iload 4, 2) := by decide +kernel
theorem dX5_leads_43 : decode cX5_leads 43 = .ok (.aload_n 0, 1) := by decide +kernel
theorem dX5_leads_44 : decode cX5_leads 44 = .ok (.getfield 70, 3) := by decide +kernel
theorem dX5_leads_47 : decode cX5_leads 47 = .ok (.if_icmp .ge 56, 3) := by decide +kernel
theorem dX5_leads_50 : decode cX5_leads 50 = .ok (.iconst 0, 1) := by decide +kernel
theorem dX5_leads_51 : decode cX5_leads 51 = .ok (.istore 5, 2) := by decide +kernel
theorem dX5_leads_53 : decode cX5_leads 53 = .ok (.iload 5, 2) := by decide +kernel
theorem dX5_leads_55 : decode cX5_leads 55 = .ok (.aload_n 0, 1) := by decide +kernel
theorem dX5_leads_56 : decode cX5_leads 56 = .ok (.getfield 70, 3) := by decide +kernel
theorem dX5_leads_59 : decode cX5_leads 59 = .ok (.if_icmp .ge 38, 3) := by decide +kernel
theorem dX5_leads_62 : decode cX5_leads 62 = .ok (.aload_n 0, 1) := by decide +kernel
theorem dX5_leads_63 : decode cX5_leads 63 = .ok (.getfield 33, 3) := by decide +kernel
theorem dX5_leads_66 : decode cX5_leads 66 = .ok (.iload 4, 2) := by decide +kernel
theorem dX5_leads_68 : decode cX5_leads 68 = .ok (.baload, 1) := by decide +kernel
theorem dX5_leads_69 : decode cX5_leads 69 = .ok (.ifCond .eq 22, 3) := by decide +kernel
theorem dX5_leads_72 : decode cX5_leads 72 = .ok (.aload_n 0, 1) := by decide +kernel
theorem dX5_leads_73 : decode cX5_leads 73 = .ok (.iload 4, 2) := by decide +kernel
theorem dX5_leads_75 : decode cX5_leads 75 = .ok (.iload 5, 2) := by decide +kernel
theorem dX5_leads_77 : decode cX5_leads 77 = .ok (.invokevirtual 99, 3) := by decide +kernel
theorem dX5_leads_80 : decode cX5_leads 80 = .ok (.ifCond .eq 11, 3) := by decide +kernel
theorem dX5_leads_83 : decode cX5_leads 83 = .ok (.aload_n 0, 1) := by decide +kernel
theorem dX5_leads_84 : decode cX5_leads 84 = .ok (.getfield 33, 3) := by decide +kernel
theorem dX5_leads_87 : decode cX5_leads 87 = .ok (.iload 5, 2) := by decide +kernel
theorem dX5_leads_89 : decode cX5_leads 89 = .ok (.iconst 1, 1) := by decide +kernel
theorem dX5_leads_90 : decode cX5_leads 90 = .ok (.bastore, 1) := by decide +kernel
theorem dX5_leads_91 : decode cX5_leads 91 = .ok (.iinc 5 1, 3) := by decide +kernel
theorem dX5_leads_94 : decode cX5_leads 94 = .ok (.goto (-41), 3) := by decide +kernel
theorem dX5_leads_97 : decode cX5_leads 97 = .ok (.iinc 4 1, 3) := by decide +kernel
theorem dX5_leads_100 : decode cX5_leads 100 = .ok (.goto (-59), 3) := by decide +kernel
theorem dX5_leads_103 : decode cX5_leads 103 = .ok (.iinc 3 1, 3) := by decide +kernel
theorem dX5_leads_106 : decode cX5_leads 106 = .ok (.goto (-74), 3) := by decide +kernel
theorem dX5_leads_109 : decode cX5_leads 109 = .ok (.aload_n 0, 1) := by decide +kernel
theorem dX5_leads_110 : decode cX5_leads 110 = .ok (.getfield 33, 3) := by decide +kernel
theorem dX5_leads_113 : decode cX5_leads 113 = .ok (.iload_n 2, 1) := by decide +kernel
theorem dX5_leads_114 : decode cX5_leads 114 = .ok (.baload, 1) := by decide +kernel
theorem dX5_leads_115 : decode cX5_leads 115 = .ok (.ireturn, 1) := by decide +kernel
set_option maxRecDepth 20000 in
theorem ggX5_block_X5_isTask : GoodIn wsX5_block wsX5_isTask := goodIn_r _ [9, 4, 10, 11, 8, 12, 22, 23, 24, 25, 26, 27, 28, 29, 30, 31, 32, 33, 34, 35, 36, 37, 38, 39, 40, 41, 42, 43, 44, 45, 46, 47] (by decide +kernel) (by decide +kernel)
set_option maxRecDepth 20000 in
theorem gX5_block_X5_isTask : GoodIn wsX5_block (wsV RX5 95 RX5 yX5_isTask wsX5_isTask) := goodIn_app (goodIn_of _ (by decide +kernel)) ggX5_block_X5_isTask
set_option maxRecDepth 20000 in
theorem ggX5_block_X5_blocks : GoodIn wsX5_block wsX5_blocks := goodIn_ca (goodIn_r _ [16, 3, 22, 23, 24, 25, 26, 27, 28, 29, 30, 31, 32, 33, 34, 35, 36, 37, 38, 39, 40, 41, 42, 43, 44, 45, 46, 47] (by decide +kernel) (by decide +kernel)) (goodIn_sub (fun _ h => List.mem_cons_of_mem _ (List.mem_append_right _ h)) (by decide +kernel))
set_option maxRecDepth 20000 in
theorem gX5_block_X5_blocks : GoodIn wsX5_block (wsV RX5 99 RX5 yX5_blocks wsX5_blocks) := goodIn_app (goodIn_of _ (by decide +kernel)) ggX5_block_X5_blocks
set_option maxRecDepth 20000 in
theorem ggX5_block_X5_leads : GoodIn wsX5_block wsX5_leads := goodIn_ca (goodIn_r _ [20, 21, 4, 13, 14, 15, 8, 16, 3, 22, 23, 24, 25, 26, 27, 28, 29, 30, 31, 32, 33, 34, 35, 36, 37, 38, 39, 40, 41, 42, 43, 44, 45, 46, 47] (by decide +kernel) (by decide +kernel)) (goodIn_sub (fun _ h => List.mem_cons_of_mem _ (List.mem_append_right _ h)) (by decide +kernel))
set_option maxRecDepth 20000 in
theorem gX5_block_X5_leads : GoodIn wsX5_block (wsV RX5 102 RX5 yX5_leads wsX5_leads) := goodIn_app (goodIn_of _ (by decide +kernel)) ggX5_block_X5_leads
theorem dX5_block_0 : decode cX5_block 0 = .ok (.aload_n 0, 1) := by decide +kernel
theorem dX5_block_1 : decode cX5_block 1 = .ok (.aload_n 0, 1) := by decide +kernel
theorem dX5_block_2 : decode cX5_block 2 = .ok (.iload_n 1, 1) := by decide +kernel
theorem dX5_block_3 : decode cX5_block 3 = .ok (.invokevirtual 95, 3) := by decide +kernel
theorem dX5_block_6 : decode cX5_block 6 = .ok (.ifCond .eq 11, 3) := by decide +kernel
theorem dX5_block_9 : decode cX5_block 9 = .ok (.aload_n 0, 1) := by decide +kernel
theorem dX5_block_10 : decode cX5_block 10 = .ok (.iload_n 2, 1) := by decide +kernel
theorem dX5_block_11 : decode cX5_block 11 = .ok (.invokevirtual 95, 3) := by decide +kernel
theorem dX5_block_14 : decode cX5_block 14 = .ok (.ifCond .ne 7, 3) := by decide +kernel
theorem dX5_block_17 : decode cX5_block 17 = .ok (.iconst 1, 1) := by decide +kernel
theorem dX5_block_18 : decode cX5_block 18 = .ok (.goto 48, 3) := by decide +kernel
theorem dX5_block_21 : decode cX5_block 21 = .ok (.iload_n 1, 1) := by decide +kernel
theorem dX5_block_22 : decode cX5_block 22 = .ok (.iload_n 2, 1) := by decide +kernel
theorem dX5_block_23 : decode cX5_block 23 = .ok (.if_icmp .ne 7, 3) := by decide +kernel
theorem dX5_block_26 : decode cX5_block 26 = .ok (.iconst 2, 1) := by decide +kernel
theorem dX5_block_27 : decode cX5_block 27 = .ok (.goto 39, 3) := by decide +kernel
theorem dX5_block_30 : decode cX5_block 30 = .ok (.aload_n 0, 1) := by decide +kernel
theorem dX5_block_31 : decode cX5_block 31 = .ok (.iload_n 1, 1) := by decide +kernel
theorem dX5_block_32 : decode cX5_block 32 = .ok (.iload_n 2, 1) := by decide +kernel
theorem dX5_block_33 : decode cX5_block 33 = .ok (.invokevirtual 99, 3) := by decide +kernel
theorem dX5_block_36 : decode cX5_block 36 = .ok (.ifCond .ne 12, 3) := by decide +kernel
theorem dX5_block_39 : decode cX5_block 39 = .ok (.aload_n 0, 1) := by decide +kernel
theorem dX5_block_40 : decode cX5_block 40 = .ok (.getfield 73, 3) := by decide +kernel
theorem dX5_block_43 : decode cX5_block 43 = .ok (.bipush 20, 2) := by decide +kernel
theorem dX5_block_45 : decode cX5_block 45 = .ok (.if_icmp .ne 7, 3) := by decide +kernel
theorem dX5_block_48 : decode cX5_block 48 = .ok (.iconst 3, 1) := by decide +kernel
theorem dX5_block_49 : decode cX5_block 49 = .ok (.goto 17, 3) := by decide +kernel
theorem dX5_block_52 : decode cX5_block 52 = .ok (.aload_n 0, 1) := by decide +kernel
theorem dX5_block_53 : decode cX5_block 53 = .ok (.iload_n 2, 1) := by decide +kernel
theorem dX5_block_54 : decode cX5_block 54 = .ok (.iload_n 1, 1) := by decide +kernel
theorem dX5_block_55 : decode cX5_block 55 = .ok (.invokevirtual 102, 3) := by decide +kernel
theorem dX5_block_58 : decode cX5_block 58 = .ok (.ifCond .eq 7, 3) := by decide +kernel
theorem dX5_block_61 : decode cX5_block 61 = .ok (.iconst 4, 1) := by decide +kernel
theorem dX5_block_62 : decode cX5_block 62 = .ok (.goto 4, 3) := by decide +kernel
theorem dX5_block_65 : decode cX5_block 65 = .ok (.iconst 0, 1) := by decide +kernel
theorem dX5_block_66 : decode cX5_block 66 = .ok (.putfield 66, 3) := by decide +kernel
theorem dX5_block_69 : decode cX5_block 69 = .ok (.aload_n 0, 1) := by decide +kernel
theorem dX5_block_70 : decode cX5_block 70 = .ok (.getfield 66, 3) := by decide +kernel
theorem dX5_block_73 : decode cX5_block 73 = .ok (.ifCond .le 5, 3) := by decide +kernel
theorem dX5_block_76 : decode cX5_block 76 = .ok (.iconst 0, 1) := by decide +kernel
theorem dX5_block_77 : decode cX5_block 77 = .ok (.ireturn, 1) := by decide +kernel
theorem dX5_block_78 : decode cX5_block 78 = .ok (.aload_n 0, 1) := by decide +kernel
theorem dX5_block_79 : decode cX5_block 79 = .ok (.getfield 26, 3) := by decide +kernel
theorem dX5_block_82 : decode cX5_block 82 = .ok (.bipush 16, 2) := by decide +kernel
theorem dX5_block_84 : decode cX5_block 84 = .ok (.iload_n 1, 1) := by decide +kernel
theorem dX5_block_85 : decode cX5_block 85 = .ok (.imul, 1) := by decide +kernel
theorem dX5_block_86 : decode cX5_block 86 = .ok (.iload_n 2, 1) := by decide +kernel
theorem dX5_block_87 : decode cX5_block 87 = .ok (.iadd, 1) := by decide +kernel
theorem dX5_block_88 : decode cX5_block 88 = .ok (.iconst 1, 1) := by decide +kernel
theorem dX5_block_89 : decode cX5_block 89 = .ok (.bastore, 1) := by decide +kernel
theorem dX5_block_90 : decode cX5_block 90 = .ok (.aload_n 0, 1) := by decide +kernel
theorem dX5_block_91 : decode cX5_block 91 = .ok (.dup, 1) := by decide +kernel
theorem dX5_block_92 : decode cX5_block 92 = .ok (.getfield 73, 3) := by decide +kernel
theorem dX5_block_95 : decode cX5_block 95 = .ok (.iconst 1, 1) := by decide +kernel
theorem dX5_block_96 : decode cX5_block 96 = .ok (.iadd, 1) := by decide +kernel
theorem dX5_block_97 : decode cX5_block 97 = .ok (.putfield 73, 3) := by decide +kernel
theorem dX5_block_100 : decode cX5_block 100 = .ok (.iconst 0, 1) := by decide +kernel
theorem dX5_block_101 : decode cX5_block 101 = .ok (.istore_n 3, 1) := by decide +kernel
theorem dX5_block_102 : decode cX5_block 102 = .ok (.iconst 0, 1) := by decide +kernel
theorem dX5_block_103 : decode cX5_block 103 = .ok (.istore 4, 2) := by decide +kernel
theorem dX5_block_105 : decode cX5_block 105 = .ok (.iload 4, 2) := by decide +kernel
theorem dX5_block_107 : decode cX5_block 107 = .ok (.aload_n 0, 1) := by decide +kernel
theorem dX5_block_108 : decode cX5_block 108 = .ok (.getfield 70, 3) := by decide +kernel
theorem dX5_block_111 : decode cX5_block 111 = .ok (.if_icmp .ge 27, 3) := by decide +kernel
theorem dX5_block_114 : decode cX5_block 114 = .ok (.iload_n 3, 1) := by decide +kernel
theorem dX5_block_115 : decode cX5_block 115 = .ok (.aload_n 0, 1) := by decide +kernel
theorem dX5_block_116 : decode cX5_block 116 = .ok (.iload 4, 2) := by decide +kernel
theorem dX5_block_118 : decode cX5_block 118 = .ok (.iload_n 2, 1) := by decide +kernel
theorem dX5_block_119 : decode cX5_block 119 = .ok (.invokevirtual 99, 3) := by decide +kernel
theorem dX5_block_122 : decode cX5_block 122 = .ok (.ifCond .eq 7, 3) := by decide +kernel
theorem dX5_block_125 : decode cX5_block 125 = .ok (.iconst 1, 1) := by decide +kernel
theorem dX5_block_126 : decode cX5_block 126 = .ok (.goto 4, 3) := by decide +kernel
theorem dX5_block_129 : decode cX5_block 129 = .ok (.iconst 0, 1) := by decide +kernel
theorem dX5_block_130 : decode cX5_block 130 = .ok (.iadd, 1) := by decide +kernel
theorem dX5_block_131 : decode cX5_block 131 = .ok (.istore_n 3, 1) := by decide +kernel
theorem dX5_block_132 : decode cX5_block 132 = .ok (.iinc 4 1, 3) := by decide +kernel
theorem dX5_block_135 : decode cX5_block 135 = .ok (.goto (-30), 3) := by decide +kernel
theorem dX5_block_138 : decode cX5_block 138 = .ok (.iload_n 3, 1) := by decide +kernel
theorem dX5_block_139 : decode cX5_block 139 = .ok (.ireturn, 1) := by decide +kernel
set_option maxRecDepth 20000 in
theorem ggX5_isFree_X5_blocks : GoodIn wsX5_isFree wsX5_blocks := goodIn_ca (goodIn_r _ [7, 8, 9, 10, 11, 12, 13, 14, 15, 16, 17, 18, 19, 20, 21, 22, 23, 24, 25, 26, 27, 28, 29, 30, 31, 32, 33, 34] (by decide +kernel) (by decide +kernel)) (goodIn_sub (fun _ h => List.mem_cons_of_mem _ (List.mem_append_right _ h)) (by decide +kernel))
set_option maxRecDepth 20000 in
theorem gX5_isFree_X5_blocks : GoodIn wsX5_isFree (wsV RX5 99 RX5 yX5_blocks wsX5_blocks) := goodIn_app (goodIn_of _ (by decide +kernel)) ggX5_isFree_X5_blocks
theorem dX5_isFree_0 : decode cX5_isFree 0 = .ok (.iconst 0, 1) := by decide +kernel
theorem dX5_isFree_1 : decode cX5_isFree 1 = .ok (.istore_n 2, 1) := by decide +kernel
theorem dX5_isFree_2 : decode cX5_isFree 2 = .ok (.iload_n 2, 1) := by decide +kernel
theorem dX5_isFree_3 : decode cX5_isFree 3 = .ok (.aload_n 0, 1) := by decide +kernel
theorem dX5_isFree_4 : decode cX5_isFree 4 = .ok (.getfield 70, 3) := by decide +kernel
theorem dX5_isFree_7 : decode cX5_isFree 7 = .ok (.if_icmp .ge 31, 3) := by decide +kernel
theorem dX5_isFree_10 : decode cX5_isFree 10 = .ok (.aload_n 0, 1) := by decide +kernel
theorem dX5_isFree_11 : decode cX5_isFree 11 = .ok (.iload_n 2, 1) := by decide +kernel
theorem dX5_isFree_12 : decode cX5_isFree 12 = .ok (.iload_n 1, 1) := by decide +kernel
theorem dX5_isFree_13 : decode cX5_isFree 13 = .ok (.invokevirtual 99, 3) := by decide +kernel
theorem dX5_isFree_16 : decode cX5_isFree 16 = .ok (.ifCond .eq 16, 3) := by decide +kernel
theorem dX5_isFree_19 : decode cX5_isFree 19 = .ok (.aload_n 0, 1) := by decide +kernel
theorem dX5_isFree_20 : decode cX5_isFree 20 = .ok (.getfield 19, 3) := by decide +kernel
theorem dX5_isFree_23 : decode cX5_isFree 23 = .ok (.iload_n 2, 1) := by decide +kernel
theorem dX5_isFree_24 : decode cX5_isFree 24 = .ok (.caload, 1) := by decide +kernel
theorem dX5_isFree_25 : decode cX5_isFree 25 = .ok (.bipush 100, 2) := by decide +kernel
theorem dX5_isFree_27 : decode cX5_isFree 27 = .ok (.if_icmp .eq 5, 3) := by decide +kernel
theorem dX5_isFree_30 : decode cX5_isFree 30 = .ok (.iconst 0, 1) := by decide +kernel
theorem dX5_isFree_31 : decode cX5_isFree 31 = .ok (.ireturn, 1) := by decide +kernel
theorem dX5_isFree_32 : decode cX5_isFree 32 = .ok (.iinc 2 1, 3) := by decide +kernel
theorem dX5_isFree_35 : decode cX5_isFree 35 = .ok (.goto (-33), 3) := by decide +kernel
theorem dX5_isFree_38 : decode cX5_isFree 38 = .ok (.iconst 1, 1) := by decide +kernel
theorem dX5_isFree_39 : decode cX5_isFree 39 = .ok (.ireturn, 1) := by decide +kernel
set_option maxRecDepth 20000 in
theorem ggX5_begin_X5_isTask : GoodIn wsX5_begin wsX5_isTask := goodIn_r _ [7, 8, 9, 10, 6, 11, 25, 26, 27, 28, 29, 30, 31, 32, 33, 34, 35, 36, 37, 38, 39, 40, 41, 42, 43, 44, 45, 46, 47, 48, 49, 50] (by decide +kernel) (by decide +kernel)
set_option maxRecDepth 20000 in
theorem gX5_begin_X5_isTask : GoodIn wsX5_begin (wsV RX5 95 RX5 yX5_isTask wsX5_isTask) := goodIn_app (goodIn_of _ (by decide +kernel)) ggX5_begin_X5_isTask
set_option maxRecDepth 20000 in
theorem ggX5_begin_X5_isFree : GoodIn wsX5_begin wsX5_isFree := goodIn_ca (goodIn_r _ [15, 8, 1, 16, 17, 18, 6, 19, 20, 25, 26, 27, 28, 29, 30, 31, 32, 33, 34, 35, 36, 37, 38, 39, 40, 41, 42, 43, 44, 45, 46, 47, 48, 49, 50] (by decide +kernel) (by decide +kernel)) (goodIn_sub (fun _ h => List.mem_cons_of_mem _ (List.mem_append_right _ h)) (by decide +kernel))
set_option maxRecDepth 20000 in
theorem gX5_begin_X5_isFree : GoodIn wsX5_begin (wsV RX5 105 RX5 yX5_isFree wsX5_isFree) := goodIn_app (goodIn_of _ (by decide +kernel)) ggX5_begin_X5_isFree
set_option maxRecDepth 20000 in
theorem ggX5_begin_X5_manyIn : GoodIn wsX5_begin wsX5_manyIn := goodIn_ca (goodIn_r _ [24, 8, 1, 25, 26, 27, 28, 29, 30, 31, 32, 33, 34, 35, 36, 37, 38, 39, 40, 41, 42, 43, 44, 45, 46, 47, 48, 49, 50] (by decide +kernel) (by decide +kernel)) (goodIn_sub (fun _ h => List.mem_cons_of_mem _ (List.mem_append_right _ h)) (by decide +kernel))
set_option maxRecDepth 20000 in
theorem gX5_begin_X5_manyIn : GoodIn wsX5_begin (wsV RX5 108 RX5 yX5_manyIn wsX5_manyIn) := goodIn_app (goodIn_of _ (by decide +kernel)) ggX5_begin_X5_manyIn
theorem dX5_begin_0 : decode cX5_begin 0 = .ok (.aload_n 0, 1) := by decide +kernel
theorem dX5_begin_1 : decode cX5_begin 1 = .ok (.aload_n 0, 1) := by decide +kernel
theorem dX5_begin_2 : decode cX5_begin 2 = .ok (.iload_n 1, 1) := by decide +kernel
theorem dX5_begin_3 : decode cX5_begin 3 = .ok (.invokevirtual 95, 3) := by decide +kernel
theorem dX5_begin_6 : decode cX5_begin 6 = .ok (.ifCond .ne 7, 3) := by decide +kernel
theorem dX5_begin_9 : decode cX5_begin 9 = .ok (.iconst 1, 1) := by decide +kernel
theorem dX5_begin_10 : decode cX5_begin 10 = .ok (.goto 31, 3) := by decide +kernel
theorem dX5_begin_13 : decode cX5_begin 13 = .ok (.aload_n 0, 1) := by decide +kernel
theorem dX5_begin_14 : decode cX5_begin 14 = .ok (.getfield 19, 3) := by decide +kernel
theorem dX5_begin_17 : decode cX5_begin 17 = .ok (.iload_n 1, 1) := by decide +kernel
theorem dX5_begin_18 : decode cX5_begin 18 = .ok (.caload, 1) := by decide +kernel
theorem dX5_begin_19 : decode cX5_begin 19 = .ok (.bipush 111, 2) := by decide +kernel
theorem dX5_begin_21 : decode cX5_begin 21 = .ok (.if_icmp .eq 7, 3) := by decide +kernel
theorem dX5_begin_24 : decode cX5_begin 24 = .ok (.iconst 2, 1) := by decide +kernel
theorem dX5_begin_25 : decode cX5_begin 25 = .ok (.goto 16, 3) := by decide +kernel
theorem dX5_begin_28 : decode cX5_begin 28 = .ok (.aload_n 0, 1) := by decide +kernel
theorem dX5_begin_29 : decode cX5_begin 29 = .ok (.iload_n 1, 1) := by decide +kernel
theorem dX5_begin_30 : decode cX5_begin 30 = .ok (.invokevirtual 105, 3) := by decide +kernel
theorem dX5_begin_33 : decode cX5_begin 33 = .ok (.ifCond .ne 7, 3) := by decide +kernel
theorem dX5_begin_36 : decode cX5_begin 36 = .ok (.iconst 3, 1) := by decide +kernel
theorem dX5_begin_37 : decode cX5_begin 37 = .ok (.goto 4, 3) := by decide +kernel
theorem dX5_begin_40 : decode cX5_begin 40 = .ok (.iconst 0, 1) := by decide +kernel
theorem dX5_begin_41 : decode cX5_begin 41 = .ok (.putfield 66, 3) := by decide +kernel
theorem dX5_begin_44 : decode cX5_begin 44 = .ok (.aload_n 0, 1) := by decide +kernel
theorem dX5_begin_45 : decode cX5_begin 45 = .ok (.getfield 66, 3) := by decide +kernel
theorem dX5_begin_48 : decode cX5_begin 48 = .ok (.ifCond .le 5, 3) := by decide +kernel
theorem dX5_begin_51 : decode cX5_begin 51 = .ok (.iconst 0, 1) := by decide +kernel
theorem dX5_begin_52 : decode cX5_begin 52 = .ok (.ireturn, 1) := by decide +kernel
theorem dX5_begin_53 : decode cX5_begin 53 = .ok (.aload_n 0, 1) := by decide +kernel
theorem dX5_begin_54 : decode cX5_begin 54 = .ok (.getfield 19, 3) := by decide +kernel
theorem dX5_begin_57 : decode cX5_begin 57 = .ok (.iload_n 1, 1) := by decide +kernel
theorem dX5_begin_58 : decode cX5_begin 58 = .ok (.bipush 119, 2) := by decide +kernel
theorem dX5_begin_60 : decode cX5_begin 60 = .ok (.castore, 1) := by decide +kernel
theorem dX5_begin_61 : decode cX5_begin 61 = .ok (.aload_n 0, 1) := by decide +kernel
theorem dX5_begin_62 : decode cX5_begin 62 = .ok (.bipush 119, 2) := by decide +kernel
theorem dX5_begin_64 : decode cX5_begin 64 = .ok (.invokevirtual 108, 3) := by decide +kernel
theorem dX5_begin_67 : decode cX5_begin 67 = .ok (.ireturn, 1) := by decide +kernel
set_option maxRecDepth 20000 in
theorem ggX5_propose_X5_isTask : GoodIn wsX5_propose wsX5_isTask := goodIn_r _ [7, 8, 9, 10, 6, 11, 16, 17, 18, 19, 20, 21, 22, 23, 24, 25, 26, 27, 28, 29, 30, 31, 32, 33, 34, 35, 36, 37, 38, 39, 40, 41] (by decide +kernel) (by decide +kernel)
set_option maxRecDepth 20000 in
theorem gX5_propose_X5_isTask : GoodIn wsX5_propose (wsV RX5 95 RX5 yX5_isTask wsX5_isTask) := goodIn_app (goodIn_of _ (by decide +kernel)) ggX5_propose_X5_isTask
set_option maxRecDepth 20000 in
theorem ggX5_propose_X5_manyIn : GoodIn wsX5_propose wsX5_manyIn := goodIn_ca (goodIn_r _ [15, 8, 1, 16, 17, 18, 19, 20, 21, 22, 23, 24, 25, 26, 27, 28, 29, 30, 31, 32, 33, 34, 35, 36, 37, 38, 39, 40, 41] (by decide +kernel) (by decide +kernel)) (goodIn_sub (fun _ h => List.mem_cons_of_mem _ (List.mem_append_right _ h)) (by decide +kernel))
set_option maxRecDepth 20000 in
theorem gX5_propose_X5_manyIn : GoodIn wsX5_propose (wsV RX5 108 RX5 yX5_manyIn wsX5_manyIn) := goodIn_app (goodIn_of _ (by decide +kernel)) ggX5_propose_X5_manyIn
theorem dX5_propose_0 : decode cX5_propose 0 = .ok (.aload_n 0, 1) := by decide +kernel
theorem dX5_propose_1 : decode cX5_propose 1 = .ok (.aload_n 0, 1) := by decide +kernel
theorem dX5_propose_2 : decode cX5_propose 2 = .ok (.iload_n 1, 1) := by decide +kernel
theorem dX5_propose_3 : decode cX5_propose 3 = .ok (.invokevirtual 95, 3) := by decide +kernel
theorem dX5_propose_6 : decode cX5_propose 6 = .ok (.ifCond .ne 7, 3) := by decide +kernel
theorem dX5_propose_9 : decode cX5_propose 9 = .ok (.iconst 1, 1) := by decide +kernel
theorem dX5_propose_10 : decode cX5_propose 10 = .ok (.goto 19, 3) := by decide +kernel
theorem dX5_propose_13 : decode cX5_propose 13 = .ok (.aload_n 0, 1) := by decide +kernel
theorem dX5_propose_14 : decode cX5_propose 14 = .ok (.getfield 19, 3) := by decide +kernel
theorem dX5_propose_17 : decode cX5_propose 17 = .ok (.iload_n 1, 1) := by decide +kernel
theorem dX5_propose_18 : decode cX5_propose 18 = .ok (.caload, 1) := by decide +kernel
theorem dX5_propose_19 : decode cX5_propose 19 = .ok (.bipush 119, 2) := by decide +kernel
theorem dX5_propose_21 : decode cX5_propose 21 = .ok (.if_icmp .eq 7, 3) := by decide +kernel
theorem dX5_propose_24 : decode cX5_propose 24 = .ok (.iconst 2, 1) := by decide +kernel
theorem dX5_propose_25 : decode cX5_propose 25 = .ok (.goto 4, 3) := by decide +kernel
theorem dX5_propose_28 : decode cX5_propose 28 = .ok (.iconst 0, 1) := by decide +kernel
theorem dX5_propose_29 : decode cX5_propose 29 = .ok (.putfield 66, 3) := by decide +kernel
theorem dX5_propose_32 : decode cX5_propose 32 = .ok (.aload_n 0, 1) := by decide +kernel
theorem dX5_propose_33 : decode cX5_propose 33 = .ok (.getfield 66, 3) := by decide +kernel
theorem dX5_propose_36 : decode cX5_propose 36 = .ok (.ifCond .le 5, 3) := by decide +kernel
theorem dX5_propose_39 : decode cX5_propose 39 = .ok (.iconst 0, 1) := by decide +kernel
theorem dX5_propose_40 : decode cX5_propose 40 = .ok (.ireturn, 1) := by decide +kernel
theorem dX5_propose_41 : decode cX5_propose 41 = .ok (.aload_n 0, 1) := by decide +kernel
theorem dX5_propose_42 : decode cX5_propose 42 = .ok (.getfield 19, 3) := by decide +kernel
theorem dX5_propose_45 : decode cX5_propose 45 = .ok (.iload_n 1, 1) := by decide +kernel
theorem dX5_propose_46 : decode cX5_propose 46 = .ok (.bipush 114, 2) := by decide +kernel
theorem dX5_propose_48 : decode cX5_propose 48 = .ok (.castore, 1) := by decide +kernel
theorem dX5_propose_49 : decode cX5_propose 49 = .ok (.aload_n 0, 1) := by decide +kernel
theorem dX5_propose_50 : decode cX5_propose 50 = .ok (.bipush 114, 2) := by decide +kernel
theorem dX5_propose_52 : decode cX5_propose 52 = .ok (.invokevirtual 108, 3) := by decide +kernel
theorem dX5_propose_55 : decode cX5_propose 55 = .ok (.ireturn, 1) := by decide +kernel
set_option maxRecDepth 20000 in
theorem ggX5_reject_X5_isTask : GoodIn wsX5_reject wsX5_isTask := goodIn_r _ [7, 8, 9, 10, 6, 11, 16, 17, 18, 19, 20, 21, 22, 23, 24, 25, 26, 27, 28, 29, 30, 31, 32, 33, 34, 35, 36, 37, 38, 39, 40, 41] (by decide +kernel) (by decide +kernel)
set_option maxRecDepth 20000 in
theorem gX5_reject_X5_isTask : GoodIn wsX5_reject (wsV RX5 95 RX5 yX5_isTask wsX5_isTask) := goodIn_app (goodIn_of _ (by decide +kernel)) ggX5_reject_X5_isTask
set_option maxRecDepth 20000 in
theorem ggX5_reject_X5_manyIn : GoodIn wsX5_reject wsX5_manyIn := goodIn_ca (goodIn_r _ [15, 8, 1, 16, 17, 18, 19, 20, 21, 22, 23, 24, 25, 26, 27, 28, 29, 30, 31, 32, 33, 34, 35, 36, 37, 38, 39, 40, 41] (by decide +kernel) (by decide +kernel)) (goodIn_sub (fun _ h => List.mem_cons_of_mem _ (List.mem_append_right _ h)) (by decide +kernel))
set_option maxRecDepth 20000 in
theorem gX5_reject_X5_manyIn : GoodIn wsX5_reject (wsV RX5 108 RX5 yX5_manyIn wsX5_manyIn) := goodIn_app (goodIn_of _ (by decide +kernel)) ggX5_reject_X5_manyIn
theorem dX5_reject_0 : decode cX5_reject 0 = .ok (.aload_n 0, 1) := by decide +kernel
theorem dX5_reject_1 : decode cX5_reject 1 = .ok (.aload_n 0, 1) := by decide +kernel
theorem dX5_reject_2 : decode cX5_reject 2 = .ok (.iload_n 1, 1) := by decide +kernel
theorem dX5_reject_3 : decode cX5_reject 3 = .ok (.invokevirtual 95, 3) := by decide +kernel
theorem dX5_reject_6 : decode cX5_reject 6 = .ok (.ifCond .ne 7, 3) := by decide +kernel
theorem dX5_reject_9 : decode cX5_reject 9 = .ok (.iconst 1, 1) := by decide +kernel
theorem dX5_reject_10 : decode cX5_reject 10 = .ok (.goto 19, 3) := by decide +kernel
theorem dX5_reject_13 : decode cX5_reject 13 = .ok (.aload_n 0, 1) := by decide +kernel
theorem dX5_reject_14 : decode cX5_reject 14 = .ok (.getfield 19, 3) := by decide +kernel
theorem dX5_reject_17 : decode cX5_reject 17 = .ok (.iload_n 1, 1) := by decide +kernel
theorem dX5_reject_18 : decode cX5_reject 18 = .ok (.caload, 1) := by decide +kernel
theorem dX5_reject_19 : decode cX5_reject 19 = .ok (.bipush 114, 2) := by decide +kernel
theorem dX5_reject_21 : decode cX5_reject 21 = .ok (.if_icmp .eq 7, 3) := by decide +kernel
theorem dX5_reject_24 : decode cX5_reject 24 = .ok (.iconst 2, 1) := by decide +kernel
theorem dX5_reject_25 : decode cX5_reject 25 = .ok (.goto 4, 3) := by decide +kernel
theorem dX5_reject_28 : decode cX5_reject 28 = .ok (.iconst 0, 1) := by decide +kernel
theorem dX5_reject_29 : decode cX5_reject 29 = .ok (.putfield 66, 3) := by decide +kernel
theorem dX5_reject_32 : decode cX5_reject 32 = .ok (.aload_n 0, 1) := by decide +kernel
theorem dX5_reject_33 : decode cX5_reject 33 = .ok (.getfield 66, 3) := by decide +kernel
theorem dX5_reject_36 : decode cX5_reject 36 = .ok (.ifCond .le 5, 3) := by decide +kernel
theorem dX5_reject_39 : decode cX5_reject 39 = .ok (.iconst 0, 1) := by decide +kernel
theorem dX5_reject_40 : decode cX5_reject 40 = .ok (.ireturn, 1) := by decide +kernel
theorem dX5_reject_41 : decode cX5_reject 41 = .ok (.aload_n 0, 1) := by decide +kernel
theorem dX5_reject_42 : decode cX5_reject 42 = .ok (.getfield 19, 3) := by decide +kernel
theorem dX5_reject_45 : decode cX5_reject 45 = .ok (.iload_n 1, 1) := by decide +kernel
theorem dX5_reject_46 : decode cX5_reject 46 = .ok (.bipush 119, 2) := by decide +kernel
theorem dX5_reject_48 : decode cX5_reject 48 = .ok (.castore, 1) := by decide +kernel
theorem dX5_reject_49 : decode cX5_reject 49 = .ok (.aload_n 0, 1) := by decide +kernel
theorem dX5_reject_50 : decode cX5_reject 50 = .ok (.bipush 114, 2) := by decide +kernel
theorem dX5_reject_52 : decode cX5_reject 52 = .ok (.invokevirtual 108, 3) := by decide +kernel
theorem dX5_reject_55 : decode cX5_reject 55 = .ok (.ireturn, 1) := by decide +kernel
theorem dX5_hasDoneChildren_0 : decode cX5_hasDoneChildren 0 = .ok (.iconst 0, 1) := by decide +kernel
theorem dX5_hasDoneChildren_1 : decode cX5_hasDoneChildren 1 = .ok (.istore_n 2, 1) := by decide +kernel
theorem dX5_hasDoneChildren_2 : decode cX5_hasDoneChildren 2 = .ok (.iload_n 2, 1) := by decide +kernel
theorem dX5_hasDoneChildren_3 : decode cX5_hasDoneChildren 3 = .ok (.aload_n 0, 1) := by decide +kernel
theorem dX5_hasDoneChildren_4 : decode cX5_hasDoneChildren 4 = .ok (.getfield 70, 3) := by decide +kernel
theorem dX5_hasDoneChildren_7 : decode cX5_hasDoneChildren 7 = .ok (.if_icmp .ge 32, 3) := by decide +kernel
theorem dX5_hasDoneChildren_10 : decode cX5_hasDoneChildren 10 = .ok (.aload_n 0, 1) := by decide +kernel
theorem dX5_hasDoneChildren_11 : decode cX5_hasDoneChildren 11 = .ok (.getfield 7, 3) := by decide +kernel
theorem dX5_hasDoneChildren_14 : decode cX5_hasDoneChildren 14 = .ok (.iload_n 2, 1) := by decide +kernel
theorem dX5_hasDoneChildren_15 : decode cX5_hasDoneChildren 15 = .ok (.iaload, 1) := by decide +kernel
theorem dX5_hasDoneChildren_16 : decode cX5_hasDoneChildren 16 = .ok (.iload_n 1, 1) := by decide +kernel
theorem dX5_hasDoneChildren_17 : decode cX5_hasDoneChildren 17 = .ok (.if_icmp .ne 16, 3) := by decide +kernel
theorem dX5_hasDoneChildren_20 : decode cX5_hasDoneChildren 20 = .ok (.aload_n 0, 1) := by decide +kernel
theorem dX5_hasDoneChildren_21 : decode cX5_hasDoneChildren 21 = .ok (.getfield 19, 3) := by decide +kernel
theorem dX5_hasDoneChildren_24 : decode cX5_hasDoneChildren 24 = .ok (.iload_n 2, 1) := by decide +kernel
theorem dX5_hasDoneChildren_25 : decode cX5_hasDoneChildren 25 = .ok (.caload, 1) := by decide +kernel
theorem dX5_hasDoneChildren_26 : decode cX5_hasDoneChildren 26 = .ok (.bipush 100, 2) := by decide +kernel
theorem dX5_hasDoneChildren_28 : decode cX5_hasDoneChildren 28 = .ok (.if_icmp .eq 5, 3) := by decide +kernel
theorem dX5_hasDoneChildren_31 : decode cX5_hasDoneChildren 31 = .ok (.iconst 0, 1) := by decide +kernel
theorem dX5_hasDoneChildren_32 : decode cX5_hasDoneChildren 32 = .ok (.ireturn, 1) := by decide +kernel
