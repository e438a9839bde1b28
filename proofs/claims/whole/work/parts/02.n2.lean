theorem dX4_setDiscount_24 : decode cX4_setDiscount 24 = .ok (.ldc 236, 2) := by decide +kernel
theorem dX4_setDiscount_26 : decode cX4_setDiscount 26 = .ok (.invokespecial 59, 3) := by decide +kernel
theorem dX4_setDiscount_29 : decode cX4_setDiscount 29 = .ok (.athrow, 1) := by decide +kernel
theorem dX4_setDiscount_30 : decode cX4_setDiscount 30 = .ok (.aload_n 0, 1) := by decide +kernel
theorem dX4_setDiscount_31 : decode cX4_setDiscount 31 = .ok (.getfield 33, 3) := by decide +kernel
theorem dX4_setDiscount_34 : decode cX4_setDiscount 34 = .ok (.getfield 238, 3) := by decide +kernel
theorem dX4_setDiscount_37 : decode cX4_setDiscount 37 = .ok (.istore_n 3, 1) := by decide +kernel
theorem dX4_setDiscount_38 : decode cX4_setDiscount 38 = .ok (.aload_n 0, 1) := by decide +kernel
theorem dX4_setDiscount_39 : decode cX4_setDiscount 39 = .ok (.getfield 33, 3) := by decide +kernel
theorem dX4_setDiscount_42 : decode cX4_setDiscount 42 = .ok (.iload_n 1, 1) := by decide +kernel
theorem dX4_setDiscount_43 : decode cX4_setDiscount 43 = .ok (.putfield 241, 3) := by decide +kernel
theorem dX4_setDiscount_46 : decode cX4_setDiscount 46 = .ok (.aload_n 0, 1) := by decide +kernel
theorem dX4_setDiscount_47 : decode cX4_setDiscount 47 = .ok (.getfield 33, 3) := by decide +kernel
theorem dX4_setDiscount_50 : decode cX4_setDiscount 50 = .ok (.iload_n 2, 1) := by decide +kernel
theorem dX4_setDiscount_51 : decode cX4_setDiscount 51 = .ok (.putfield 238, 3) := by decide +kernel
theorem dX4_setDiscount_54 : decode cX4_setDiscount 54 = .ok (.iload_n 3, 1) := by decide +kernel
theorem dX4_setDiscount_55 : decode cX4_setDiscount 55 = .ok (.ireturn, 1) := by decide +kernel
set_option maxRecDepth 20000 in
theorem ggX4_invoice_X4_requireTask : GoodIn wsX4_invoice wsX4_requireTask := goodIn_ca (goodIn_r _ [17, 18, 19, 20, 21, 22, 23, 24, 25, 26, 27, 28, 29, 30, 31, 32, 33, 34, 35, 36, 37, 38, 39, 40, 41, 42, 43, 44, 197, 198, 199, 200, 201, 202, 203, 208, 209, 210] (by decide +kernel) (by decide +kernel)) (goodIn_sub (fun _ h => List.mem_cons_of_mem _ (List.mem_append_left _ (List.mem_append_left _ (List.mem_append_right _ h)))) (by decide +kernel))
set_option maxRecDepth 20000 in
theorem gX4_invoice_X4_requireTask : GoodIn wsX4_invoice (wsV RX4 47 RX4 yX4_requireTask wsX4_requireTask) := goodIn_app (goodIn_of _ (by decide +kernel)) ggX4_invoice_X4_requireTask
set_option maxRecDepth 20000 in
theorem ggX4_invoice_X4_requireWeek : GoodIn wsX4_invoice wsX4_requireWeek := goodIn_ca (goodIn_r _ [47, 48, 49, 50, 51, 16, 52, 53, 54, 55] (by decide +kernel) (by decide +kernel)) (goodIn_sub (fun _ h => List.mem_cons_of_mem _ (List.mem_append_left _ (List.mem_append_right _ h))) (by decide +kernel))
set_option maxRecDepth 20000 in
theorem gX4_invoice_X4_requireWeek : GoodIn wsX4_invoice (va_wsS RX4 196 yX4_requireWeek wsX4_requireWeek) := goodIn_app (goodIn_of _ (by decide +kernel)) ggX4_invoice_X4_requireWeek
set_option maxRecDepth 20000 in
theorem ggX4_invoice_X4_hasEntryToInvoice : GoodIn wsX4_invoice wsX4_hasEntryToInvoice := goodIn_r _ [59, 60, 61, 22, 23, 24, 25, 26, 27, 28, 29, 30, 31, 32, 33, 34, 35, 36, 37, 38, 39, 40, 41, 42, 43, 44, 62, 63, 16, 64, 65, 66, 67, 68, 69, 70, 71, 72, 73, 74, 197, 198, 199, 200, 201, 202, 203, 208, 209, 210, 211, 212, 213, 214, 215, 216, 217, 191, 192, 193, 194, 195, 196] (by decide +kernel) (by decide +kernel)
set_option maxRecDepth 20000 in
theorem gX4_invoice_X4_hasEntryToInvoice : GoodIn wsX4_invoice (wsV RX4 246 RX4 yX4_hasEntryToInvoice wsX4_hasEntryToInvoice) := goodIn_app (goodIn_of _ (by decide +kernel)) ggX4_invoice_X4_hasEntryToInvoice
set_option maxRecDepth 20000 in
theorem ggX4_invoice_Jx4a65c_size_8abf5 : GoodIn wsX4_invoice wsJx4a65c_size_8abf5 := goodIn_r _ [26, 27, 208, 209, 210] (by decide +kernel) (by decide +kernel)
set_option maxRecDepth 20000 in
theorem gX4_invoice_Jx4a65c_size_8abf5 : GoodIn wsX4_invoice (wsV RX4 62 RJx4a65c yJx4a65c_size_8abf5 wsJx4a65c_size_8abf5) := goodIn_app (goodIn_of _ (by decide +kernel)) ggX4_invoice_Jx4a65c_size_8abf5
set_option maxRecDepth 20000 in
theorem ggX4_invoice_X2_copy : GoodIn wsX4_invoice wsX2_copy := goodIn_r _ [79, 80, 81, 78, 82, 83, 84, 85, 86, 87, 88, 89, 90, 91, 92, 93, 94, 95, 96, 97, 218, 219, 220, 221] (by decide +kernel) (by decide +kernel)
set_option maxRecDepth 20000 in
theorem gX4_invoice_X2_copy : GoodIn wsX4_invoice (wsV RX4 254 RX2 yX2_copy wsX2_copy) := goodIn_app (goodIn_of _ (by decide +kernel)) ggX4_invoice_X2_copy
set_option maxRecDepth 20000 in
theorem ggX4_invoice_X1_init : GoodIn wsX4_invoice wsX1_init := goodIn_r _ [100, 101, 96, 97, 102, 103, 104, 105, 204, 205, 206, 207] (by decide +kernel) (by decide +kernel)
set_option maxRecDepth 20000 in
theorem gX4_invoice_X1_init : GoodIn wsX4_invoice (wsX1_init) := ggX4_invoice_X1_init
set_option maxRecDepth 20000 in
theorem ggX4_invoice_X4_billEntries : GoodIn wsX4_invoice wsX4_billEntries := goodIn_ca (goodIn_r _ [109, 60, 61, 110, 66, 111, 112, 113, 65, 114, 115, 22, 23, 24, 25, 26, 27, 28, 29, 30, 31, 32, 33, 34, 35, 36, 37, 38, 39, 40, 41, 42, 43, 44, 62, 63, 16, 64, 67, 68, 69, 70, 71, 72, 73, 74, 116, 117, 118, 119, 120, 121, 122, 78, 123, 124, 125, 126, 127, 128, 129, 82, 197, 198, 199, 200, 201, 202, 203, 211, 212, 213, 214, 215, 216, 217, 204, 205, 206, 207, 218, 219, 220, 221, 208, 209, 210, 191, 192, 193, 194, 195, 196] (by decide +kernel) (by decide +kernel)) (goodIn_sub (fun _ h => List.mem_cons_of_mem _ (List.mem_append_right _ h)) (by decide +kernel))
set_option maxRecDepth 20000 in
theorem gX4_invoice_X4_billEntries : GoodIn wsX4_invoice (wsV RX4 261 RX4 yX4_billEntries wsX4_billEntries) := goodIn_app (goodIn_of _ (by decide +kernel)) ggX4_invoice_X4_billEntries
set_option maxRecDepth 20000 in
theorem ggX4_invoice_X4_discountPrices : GoodIn wsX4_invoice wsX4_discountPrices := goodIn_r _ [133, 60, 61, 114, 112, 115, 22, 23, 24, 25, 26, 27, 28, 29, 30, 31, 32, 33, 34, 35, 36, 37, 38, 39, 40, 41, 42, 43, 44, 134, 135, 136, 78, 137, 90, 91, 197, 198, 199, 200, 201, 202, 203, 211, 212, 213, 214, 215, 216, 217, 204, 205, 206, 207, 208, 209, 210, 218, 219, 220, 221] (by decide +kernel) (by decide +kernel)
set_option maxRecDepth 20000 in
theorem gX4_invoice_X4_discountPrices : GoodIn wsX4_invoice (wsV RX4 265 RX4 yX4_discountPrices wsX4_discountPrices) := goodIn_app (goodIn_of _ (by decide +kernel)) ggX4_invoice_X4_discountPrices
set_option maxRecDepth 20000 in
theorem ggX4_invoice_Jx4a65c_add_9ea2d : GoodIn wsX4_invoice wsJx4a65c_add_9ea2d := goodIn_r _ [141, 142, 143, 44, 27, 144, 145, 146, 25, 147, 148, 149, 150, 151, 152, 153, 154, 155, 156, 157, 158, 159, 160, 161, 162, 163, 164, 165, 166, 167, 168, 169, 170, 171, 172, 173, 174, 175, 176, 177, 178, 179, 180, 181, 182, 183, 184, 185, 186, 187, 188, 189, 190, 208, 209, 210] (by decide +kernel) (by decide +kernel)
set_option maxRecDepth 20000 in
theorem gX4_invoice_Jx4a65c_add_9ea2d : GoodIn wsX4_invoice (wsV RX4 85 RJx4a65c yJx4a65c_add_9ea2d wsJx4a65c_add_9ea2d) := goodIn_app (goodIn_of _ (by decide +kernel)) ggX4_invoice_Jx4a65c_add_9ea2d
theorem dX4_invoice_0 : decode cX4_invoice 0 = .ok (.aload_n 0, 1) := by decide +kernel
theorem dX4_invoice_1 : decode cX4_invoice 1 = .ok (.iload_n 1, 1) := by decide +kernel
theorem dX4_invoice_2 : decode cX4_invoice 2 = .ok (.invokevirtual 47, 3) := by decide +kernel
theorem dX4_invoice_5 : decode cX4_invoice 5 = .ok (.astore_n 3, 1) := by decide +kernel
theorem dX4_invoice_6 : decode cX4_invoice 6 = .ok (.iload_n 2, 1) := by decide +kernel
theorem dX4_invoice_7 : decode cX4_invoice 7 = .ok (.invokestatic 196, 3) := by decide +kernel
theorem dX4_invoice_10 : decode cX4_invoice 10 = .ok (.aload_n 3, 1) := by decide +kernel
theorem dX4_invoice_11 : decode cX4_invoice 11 = .ok (.getfield 137, 3) := by decide +kernel
theorem dX4_invoice_14 : decode cX4_invoice 14 = .ok (.ifnull 13, 3) := by decide +kernel
theorem dX4_invoice_17 : decode cX4_invoice 17 = .ok (.new 77, 3) := by decide +kernel
theorem dX4_invoice_20 : decode cX4_invoice 20 = .ok (.dup, 1) := by decide +kernel
theorem dX4_invoice_21 : decode cX4_invoice 21 = .ok (.ldc 244, 2) := by decide +kernel
theorem dX4_invoice_23 : decode cX4_invoice 23 = .ok (.invokespecial 81, 3) := by decide +kernel
theorem dX4_invoice_26 : decode cX4_invoice 26 = .ok (.athrow, 1) := by decide +kernel
theorem dX4_invoice_27 : decode cX4_invoice 27 = .ok (.aload_n 0, 1) := by decide +kernel
theorem dX4_invoice_28 : decode cX4_invoice 28 = .ok (.aload_n 3, 1) := by decide +kernel
theorem dX4_invoice_29 : decode cX4_invoice 29 = .ok (.iload_n 2, 1) := by decide +kernel
theorem dX4_invoice_30 : decode cX4_invoice 30 = .ok (.invokevirtual 246, 3) := by decide +kernel
theorem dX4_invoice_33 : decode cX4_invoice 33 = .ok (.ifCond .eq 15, 3) := by decide +kernel
theorem dX4_invoice_36 : decode cX4_invoice 36 = .ok (.aload_n 0, 1) := by decide +kernel
theorem dX4_invoice_37 : decode cX4_invoice 37 = .ok (.getfield 19, 3) := by decide +kernel
theorem dX4_invoice_40 : decode cX4_invoice 40 = .ok (.invokevirtual 62, 3) := by decide +kernel
theorem dX4_invoice_43 : decode cX4_invoice 43 = .ok (.bipush 20, 2) := by decide +kernel
theorem dX4_invoice_45 : decode cX4_invoice 45 = .ok (.if_icmp .lt 13, 3) := by decide +kernel
theorem dX4_invoice_48 : decode cX4_invoice 48 = .ok (.new 66, 3) := by decide +kernel
theorem dX4_invoice_51 : decode cX4_invoice 51 = .ok (.dup, 1) := by decide +kernel
theorem dX4_invoice_52 : decode cX4_invoice 52 = .ok (.ldc 250, 2) := by decide +kernel
theorem dX4_invoice_54 : decode cX4_invoice 54 = .ok (.invokespecial 70, 3) := by decide +kernel
theorem dX4_invoice_57 : decode cX4_invoice 57 = .ok (.athrow, 1) := by decide +kernel
theorem dX4_invoice_58 : decode cX4_invoice 58 = .ok (.new 252, 3) := by decide +kernel
theorem dX4_invoice_61 : decode cX4_invoice 61 = .ok (.dup, 1) := by decide +kernel
theorem dX4_invoice_62 : decode cX4_invoice 62 = .ok (.aload_n 0, 1) := by decide +kernel
theorem dX4_invoice_63 : decode cX4_invoice 63 = .ok (.getfield 19, 3) := by decide +kernel
theorem dX4_invoice_66 : decode cX4_invoice 66 = .ok (.invokevirtual 62, 3) := by decide +kernel
theorem dX4_invoice_69 : decode cX4_invoice 69 = .ok (.aload_n 0, 1) := by decide +kernel
theorem dX4_invoice_70 : decode cX4_invoice 70 = .ok (.getfield 33, 3) := by decide +kernel
theorem dX4_invoice_73 : decode cX4_invoice 73 = .ok (.invokevirtual 254, 3) := by decide +kernel
theorem dX4_invoice_76 : decode cX4_invoice 76 = .ok (.invokespecial 258, 3) := by decide +kernel
theorem dX4_invoice_79 : decode cX4_invoice 79 = .ok (.astore 4, 2) := by decide +kernel
theorem dX4_invoice_81 : decode cX4_invoice 81 = .ok (.aload_n 0, 1) := by decide +kernel
theorem dX4_invoice_82 : decode cX4_invoice 82 = .ok (.aload 4, 2) := by decide +kernel
theorem dX4_invoice_84 : decode cX4_invoice 84 = .ok (.aload_n 3, 1) := by decide +kernel
theorem dX4_invoice_85 : decode cX4_invoice 85 = .ok (.iload_n 2, 1) := by decide +kernel
theorem dX4_invoice_86 : decode cX4_invoice 86 = .ok (.invokevirtual 261, 3) := by decide +kernel
theorem dX4_invoice_89 : decode cX4_invoice 89 = .ok (.istore 5, 2) := by decide +kernel
theorem dX4_invoice_91 : decode cX4_invoice 91 = .ok (.aload 4, 2) := by decide +kernel
theorem dX4_invoice_93 : decode cX4_invoice 93 = .ok (.aload_n 0, 1) := by decide +kernel
theorem dX4_invoice_94 : decode cX4_invoice 94 = .ok (.aload 4, 2) := by decide +kernel
theorem dX4_invoice_96 : decode cX4_invoice 96 = .ok (.iload 5, 2) := by decide +kernel
theorem dX4_invoice_98 : decode cX4_invoice 98 = .ok (.invokevirtual 265, 3) := by decide +kernel
theorem dX4_invoice_101 : decode cX4_invoice 101 = .ok (.putfield 269, 3) := by decide +kernel
theorem dX4_invoice_104 : decode cX4_invoice 104 = .ok (.aload_n 0, 1) := by decide +kernel
theorem dX4_invoice_105 : decode cX4_invoice 105 = .ok (.getfield 19, 3) := by decide +kernel
theorem dX4_invoice_108 : decode cX4_invoice 108 = .ok (.aload 4, 2) := by decide +kernel
theorem dX4_invoice_110 : decode cX4_invoice 110 = .ok (.invokevirtual 85, 3) := by decide +kernel
theorem dX4_invoice_113 : decode cX4_invoice 113 = .ok (.pop, 1) := by decide +kernel
theorem dX4_invoice_114 : decode cX4_invoice 114 = .ok (.aload 4, 2) := by decide +kernel
theorem dX4_invoice_116 : decode cX4_invoice 116 = .ok (.getfield 272, 3) := by decide +kernel
theorem dX4_invoice_119 : decode cX4_invoice 119 = .ok (.ireturn, 1) := by decide +kernel
set_option maxRecDepth 20000 in
theorem ggX4_invoices_Jx4a65c_size_8abf5 : GoodIn wsX4_invoices wsJx4a65c_size_8abf5 := goodIn_r _ [6, 7, 15, 16, 17] (by decide +kernel) (by decide +kernel)
set_option maxRecDepth 20000 in
theorem gX4_invoices_Jx4a65c_size_8abf5 : GoodIn wsX4_invoices (wsV RX4 62 RJx4a65c yJx4a65c_size_8abf5 wsJx4a65c_size_8abf5) := goodIn_app (goodIn_of _ (by decide +kernel)) ggX4_invoices_Jx4a65c_size_8abf5
theorem dX4_invoices_0 : decode cX4_invoices 0 = .ok (.aload_n 0, 1) := by decide +kernel
theorem dX4_invoices_1 : decode cX4_invoices 1 = .ok (.getfield 19, 3) := by decide +kernel
theorem dX4_invoices_4 : decode cX4_invoices 4 = .ok (.invokevirtual 62, 3) := by decide +kernel
theorem dX4_invoices_7 : decode cX4_invoices 7 = .ok (.ireturn, 1) := by decide +kernel
set_option maxRecDepth 20000 in
theorem ggX4_total_X4_requireInvoice : GoodIn wsX4_total wsX4_requireInvoice := goodIn_ca (goodIn_r _ [6, 7, 8, 9, 10, 11, 12, 13, 14, 15, 16, 17, 18, 19, 20, 21, 22, 23, 24, 25, 26, 27, 28, 29, 30, 31, 32, 33, 38, 39, 40, 41, 42, 43, 44, 45, 46, 47] (by decide +kernel) (by decide +kernel)) (goodIn_sub (fun _ h => List.mem_cons_of_mem _ (List.mem_append_right _ h)) (by decide +kernel))
set_option maxRecDepth 20000 in
theorem gX4_total_X4_requireInvoice : GoodIn wsX4_total (wsV RX4 273 RX4 yX4_requireInvoice wsX4_requireInvoice) := goodIn_app (goodIn_of _ (by decide +kernel)) ggX4_total_X4_requireInvoice
theorem dX4_total_0 : decode cX4_total 0 = .ok (.aload_n 0, 1) := by decide +kernel
theorem dX4_total_1 : decode cX4_total 1 = .ok (.iload_n 1, 1) := by decide +kernel
theorem dX4_total_2 : decode cX4_total 2 = .ok (.invokevirtual 273, 3) := by decide +kernel
theorem dX4_total_5 : decode cX4_total 5 = .ok (.getfield 269, 3) := by decide +kernel
theorem dX4_total_8 : decode cX4_total 8 = .ok (.ireturn, 1) := by decide +kernel
set_option maxRecDepth 20000 in
theorem ggX4_totalByRules_X4_requireInvoice : GoodIn wsX4_totalByRules wsX4_requireInvoice := goodIn_ca (goodIn_r _ [5, 6, 7, 8, 9, 10, 11, 12, 13, 14, 15, 16, 17, 18, 19, 20, 21, 22, 23, 24, 25, 26, 27, 28, 29, 30, 31, 32, 59, 60, 61, 62, 63, 64, 65, 66, 67, 68] (by decide +kernel) (by decide +kernel)) (goodIn_sub (fun _ h => List.mem_cons_of_mem _ (List.mem_append_left _ (List.mem_append_right _ h))) (by decide +kernel))
set_option maxRecDepth 20000 in
theorem gX4_totalByRules_X4_requireInvoice : GoodIn wsX4_totalByRules (wsV RX4 273 RX4 yX4_requireInvoice wsX4_requireInvoice) := goodIn_app (goodIn_of _ (by decide +kernel)) ggX4_totalByRules_X4_requireInvoice
set_option maxRecDepth 20000 in
theorem ggX4_totalByRules_X4_recomputeTotal : GoodIn wsX4_totalByRules wsX4_recomputeTotal := goodIn_ca (goodIn_r _ [36, 37, 38, 39, 40, 10, 11, 12, 13, 14, 15, 16, 17, 18, 19, 20, 21, 22, 23, 24, 25, 26, 27, 28, 29, 30, 31, 32, 41, 42, 43, 44, 45, 46, 47, 48, 49, 50, 51, 52, 53, 54, 55, 56, 57, 58, 59, 60, 61, 62, 63, 64, 65, 69, 70, 71, 72, 73, 74, 75, 76, 77, 78, 79, 66, 67, 68, 80, 81, 82, 83] (by decide +kernel) (by decide +kernel)) (goodIn_sub (fun _ h => List.mem_cons_of_mem _ (List.mem_append_right _ h)) (by decide +kernel))
set_option maxRecDepth 20000 in
theorem gX4_totalByRules_X4_recomputeTotal : GoodIn wsX4_totalByRules (wsV RX4 277 RX4 yX4_recomputeTotal wsX4_recomputeTotal) := goodIn_app (goodIn_of _ (by decide +kernel)) ggX4_totalByRules_X4_recomputeTotal
theorem dX4_totalByRules_0 : decode cX4_totalByRules 0 = .ok (.aload_n 0, 1) := by decide +kernel
theorem dX4_totalByRules_1 : decode cX4_totalByRules 1 = .ok (.aload_n 0, 1) := by decide +kernel
theorem dX4_totalByRules_2 : decode cX4_totalByRules 2 = .ok (.iload_n 1, 1) := by decide +kernel
theorem dX4_totalByRules_3 : decode cX4_totalByRules 3 = .ok (.invokevirtual 273, 3) := by decide +kernel
theorem dX4_totalByRules_6 : decode cX4_totalByRules 6 = .ok (.invokevirtual 277, 3) := by decide +kernel
theorem dX4_totalByRules_9 : decode cX4_totalByRules 9 = .ok (.ireturn, 1) := by decide +kernel
set_option maxRecDepth 20000 in
theorem ggX4_credited_X4_requireInvoice : GoodIn wsX4_credited wsX4_requireInvoice := goodIn_ca (goodIn_r _ [6, 7, 8, 9, 10, 11, 12, 13, 14, 15, 16, 17, 18, 19, 20, 21, 22, 23, 24, 25, 26, 27, 28, 29, 30, 31, 32, 33, 38, 39, 40, 41, 42, 43, 44, 45, 46, 47] (by decide +kernel) (by decide +kernel)) (goodIn_sub (fun _ h => List.mem_cons_of_mem _ (List.mem_append_right _ h)) (by decide +kernel))
set_option maxRecDepth 20000 in
theorem gX4_credited_X4_requireInvoice : GoodIn wsX4_credited (wsV RX4 273 RX4 yX4_requireInvoice wsX4_requireInvoice) := goodIn_app (goodIn_of _ (by decide +kernel)) ggX4_credited_X4_requireInvoice
theorem dX4_credited_0 : decode cX4_credited 0 = .ok (.aload_n 0, 1) := by decide +kernel
theorem dX4_credited_1 : decode cX4_credited 1 = .ok (.iload_n 1, 1) := by decide +kernel
theorem dX4_credited_2 : decode cX4_credited 2 = .ok (.invokevirtual 273, 3) := by decide +kernel
theorem dX4_credited_5 : decode cX4_credited 5 = .ok (.getfield 281, 3) := by decide +kernel
theorem dX4_credited_8 : decode cX4_credited 8 = .ok (.ireturn, 1) := by decide +kernel
set_option maxRecDepth 20000 in
theorem ggX4_items_X4_requireInvoice : GoodIn wsX4_items wsX4_requireInvoice := goodIn_ca (goodIn_r _ [8, 9, 10, 11, 12, 13, 14, 15, 16, 17, 18, 19, 20, 21, 22, 23, 24, 25, 26, 27, 28, 29, 30, 31, 32, 33, 34, 35, 36, 37, 38, 39, 40, 41, 42, 50, 51, 52] (by decide +kernel) (by decide +kernel)) (goodIn_sub (fun _ h => List.mem_cons_of_mem _ (List.mem_append_right _ h)) (by decide +kernel))
set_option maxRecDepth 20000 in
theorem gX4_items_X4_requireInvoice : GoodIn wsX4_items (wsV RX4 273 RX4 yX4_requireInvoice wsX4_requireInvoice) := goodIn_app (goodIn_of _ (by decide +kernel)) ggX4_items_X4_requireInvoice
set_option maxRecDepth 20000 in
theorem ggX4_items_Jx4a65c_size_8abf5 : GoodIn wsX4_items wsJx4a65c_size_8abf5 := goodIn_r _ [17, 18, 50, 51, 52] (by decide +kernel) (by decide +kernel)
set_option maxRecDepth 20000 in
theorem gX4_items_Jx4a65c_size_8abf5 : GoodIn wsX4_items (wsV RX4 62 RJx4a65c yJx4a65c_size_8abf5 wsJx4a65c_size_8abf5) := goodIn_app (goodIn_of _ (by decide +kernel)) ggX4_items_Jx4a65c_size_8abf5
set_option maxRecDepth 20000 in
theorem ggX4_items_Jx4a65c_get_915e3 : GoodIn wsX4_items wsJx4a65c_get_915e3 := goodIn_r _ [22, 18, 23, 24, 25, 26, 27, 28, 29, 30, 31, 32, 33, 16, 34, 35, 50, 51, 52] (by decide +kernel) (by decide +kernel)
set_option maxRecDepth 20000 in
theorem gX4_items_Jx4a65c_get_915e3 : GoodIn wsX4_items (wsV RX4 150 RJx4a65c yJx4a65c_get_915e3 wsJx4a65c_get_915e3) := goodIn_app (goodIn_of _ (by decide +kernel)) ggX4_items_Jx4a65c_get_915e3
theorem dX4_items_0 : decode cX4_items 0 = .ok (.aload_n 0, 1) := by decide +kernel
theorem dX4_items_1 : decode cX4_items 1 = .ok (.iload_n 1, 1) := by decide +kernel
theorem dX4_items_2 : decode cX4_items 2 = .ok (.invokevirtual 273, 3) := by decide +kernel
theorem dX4_items_5 : decode cX4_items 5 = .ok (.astore_n 2, 1) := by decide +kernel
theorem dX4_items_6 : decode cX4_items 6 = .ok (.iconst 0, 1) := by decide +kernel
theorem dX4_items_7 : decode cX4_items 7 = .ok (.istore_n 3, 1) := by decide +kernel
theorem dX4_items_8 : decode cX4_items 8 = .ok (.iconst 0, 1) := by decide +kernel
theorem dX4_items_9 : decode cX4_items 9 = .ok (.istore 4, 2) := by decide +kernel
theorem dX4_items_11 : decode cX4_items 11 = .ok (.iload 4, 2) := by decide +kernel
theorem dX4_items_13 : decode cX4_items 13 = .ok (.aload_n 0, 1) := by decide +kernel
theorem dX4_items_14 : decode cX4_items 14 = .ok (.getfield 16, 3) := by decide +kernel
theorem dX4_items_17 : decode cX4_items 17 = .ok (.invokevirtual 62, 3) := by decide +kernel
theorem dX4_items_20 : decode cX4_items 20 = .ok (.if_icmp .ge 31, 3) := by decide +kernel
theorem dX4_items_23 : decode cX4_items 23 = .ok (.aload_n 0, 1) := by decide +kernel
theorem dX4_items_24 : decode cX4_items 24 = .ok (.getfield 16, 3) := by decide +kernel
theorem dX4_items_27 : decode cX4_items 27 = .ok (.iload 4, 2) := by decide +kernel
theorem dX4_items_29 : decode cX4_items 29 = .ok (.invokevirtual 150, 3) := by decide +kernel
theorem dX4_items_32 : decode cX4_items 32 = .ok (.checkcast 178, 3) := by decide +kernel
theorem dX4_items_35 : decode cX4_items 35 = .ok (.getfield 284, 3) := by decide +kernel
theorem dX4_items_38 : decode cX4_items 38 = .ok (.aload_n 2, 1) := by decide +kernel
theorem dX4_items_39 : decode cX4_items 39 = .ok (.if_acmp .ne 6, 3) := by decide +kernel
theorem dX4_items_42 : decode cX4_items 42 = .ok (.iinc 3 1, 3) := by decide +kernel
theorem dX4_items_45 : decode cX4_items 45 = .ok (.iinc 4 1, 3) := by decide +kernel
theorem dX4_items_48 : decode cX4_items 48 = .ok (.goto (-37), 3) := by decide +kernel
theorem dX4_items_51 : decode cX4_items 51 = .ok (.iload_n 3, 1) := by decide +kernel
theorem dX4_items_52 : decode cX4_items 52 = .ok (.ireturn, 1) := by decide +kernel
set_option maxRecDepth 20000 in
theorem ggX4_invoiceOf_X4_requireEntry : GoodIn wsX4_invoiceOf wsX4_requireEntry := goodIn_ca (goodIn_r _ [6, 7, 8, 9, 10, 11, 12, 13, 14, 15, 16, 17, 18, 19, 20, 21, 22, 23, 24, 25, 26, 27, 28, 29, 30, 31, 32, 33, 44, 45, 46, 47, 48, 49, 50, 51, 52, 53] (by decide +kernel) (by decide +kernel)) (goodIn_sub (fun _ h => List.mem_cons_of_mem _ (List.mem_append_left _ (List.mem_append_right _ h))) (by decide +kernel))
set_option maxRecDepth 20000 in
theorem gX4_invoiceOf_X4_requireEntry : GoodIn wsX4_invoiceOf (wsV RX4 183 RX4 yX4_requireEntry wsX4_requireEntry) := goodIn_app (goodIn_of _ (by decide +kernel)) ggX4_invoiceOf_X4_requireEntry
set_option maxRecDepth 20000 in
theorem ggX4_invoiceOf_X4_requireInvoiceOf : GoodIn wsX4_invoiceOf wsX4_requireInvoiceOf := goodIn_ca (goodIn_r _ [36, 37, 38, 39, 54, 55, 56, 57, 58, 59, 60] (by decide +kernel) (by decide +kernel)) (goodIn_sub (fun _ h => List.mem_cons_of_mem _ (List.mem_append_right _ h)) (by decide +kernel))
set_option maxRecDepth 20000 in
theorem gX4_invoiceOf_X4_requireInvoiceOf : GoodIn wsX4_invoiceOf (va_wsS RX4 203 yX4_requireInvoiceOf wsX4_requireInvoiceOf) := goodIn_app (goodIn_of _ (by decide +kernel)) ggX4_invoiceOf_X4_requireInvoiceOf
theorem dX4_invoiceOf_0 : decode cX4_invoiceOf 0 = .ok (.aload_n 0, 1) := by decide +kernel
theorem dX4_invoiceOf_1 : decode cX4_invoiceOf 1 = .ok (.iload_n 1, 1) := by decide +kernel
theorem dX4_invoiceOf_2 : decode cX4_invoiceOf 2 = .ok (.invokevirtual 183, 3) := by decide +kernel
theorem dX4_invoiceOf_5 : decode cX4_invoiceOf 5 = .ok (.invokestatic 203, 3) := by decide +kernel
theorem dX4_invoiceOf_8 : decode cX4_invoiceOf 8 = .ok (.getfield 272, 3) := by decide +kernel
theorem dX4_invoiceOf_11 : decode cX4_invoiceOf 11 = .ok (.ireturn, 1) := by decide +kernel
set_option maxRecDepth 20000 in
theorem ggX4_left_X4_requireTask : GoodIn wsX4_left wsX4_requireTask := goodIn_ca (goodIn_r _ [5, 6, 7, 8, 9, 10, 11, 12, 13, 14, 15, 16, 17, 18, 19, 20, 21, 22, 23, 24, 25, 26, 27, 28, 29, 30, 31, 32, 46, 47, 48, 49, 50, 51, 52, 53, 54, 55] (by decide +kernel) (by decide +kernel)) (goodIn_sub (fun _ h => List.mem_cons_of_mem _ (List.mem_append_right _ h)) (by decide +kernel))
set_option maxRecDepth 20000 in
theorem gX4_left_X4_requireTask : GoodIn wsX4_left (wsV RX4 47 RX4 yX4_requireTask wsX4_requireTask) := goodIn_app (goodIn_of _ (by decide +kernel)) ggX4_left_X4_requireTask
set_option maxRecDepth 20000 in
theorem ggX4_left_X4_leftOf : GoodIn wsX4_left wsX4_leftOf := goodIn_r _ [36, 37, 38, 39, 40, 41, 42, 43, 44, 45, 10, 11, 12, 13, 14, 15, 16, 17, 18, 19, 20, 21, 22, 23, 24, 25, 26, 27, 28, 29, 30, 31, 32, 56, 57, 58, 59, 60, 61, 46, 47, 48, 49, 50, 51, 52, 62, 63, 64, 65, 66, 67, 68, 53, 54, 55] (by decide +kernel) (by decide +kernel)
set_option maxRecDepth 20000 in
theorem gX4_left_X4_leftOf : GoodIn wsX4_left (wsV RX4 288 RX4 yX4_leftOf wsX4_leftOf) := goodIn_app (goodIn_of _ (by decide +kernel)) ggX4_left_X4_leftOf
theorem dX4_left_0 : decode cX4_left 0 = .ok (.aload_n 0, 1) := by decide +kernel
theorem dX4_left_1 : decode cX4_left 1 = .ok (.aload_n 0, 1) := by decide +kernel
theorem dX4_left_2 : decode cX4_left 2 = .ok (.iload_n 1, 1) := by decide +kernel
theorem dX4_left_3 : decode cX4_left 3 = .ok (.invokevirtual 47, 3) := by decide +kernel
theorem dX4_left_6 : decode cX4_left 6 = .ok (.invokevirtual 288, 3) := by decide +kernel
theorem dX4_left_9 : decode cX4_left 9 = .ok (.ireturn, 1) := by decide +kernel
set_option maxRecDepth 20000 in
theorem ggX4_pace_X4_requireWeek : GoodIn wsX4_pace wsX4_requireWeek := goodIn_ca (goodIn_r _ [5, 6, 7, 8, 9, 4, 10, 11, 12, 13] (by decide +kernel) (by decide +kernel)) (goodIn_sub (fun _ h => List.mem_cons_of_mem _ (List.mem_append_right _ h)) (by decide +kernel))
set_option maxRecDepth 20000 in
theorem gX4_pace_X4_requireWeek : GoodIn wsX4_pace (va_wsS RX4 196 yX4_requireWeek wsX4_requireWeek) := goodIn_app (goodIn_of _ (by decide +kernel)) ggX4_pace_X4_requireWeek
set_option maxRecDepth 20000 in
theorem ggX4_pace_X4_paceHours : GoodIn wsX4_pace wsX4_paceHours := goodIn_r _ [17, 18, 19, 20, 21, 22, 23, 24, 25, 26, 27, 28, 29, 30, 31, 32, 33, 34, 35, 36, 37, 38, 39, 40, 41, 42, 43, 44, 45, 46, 47, 48, 49, 50, 51, 52, 53, 54, 55, 56, 57, 58, 59, 60, 61] (by decide +kernel) (by decide +kernel)
set_option maxRecDepth 20000 in
theorem gX4_pace_X4_paceHours : GoodIn wsX4_pace (wsV RX4 291 RX4 yX4_paceHours wsX4_paceHours) := goodIn_app (goodIn_of _ (by decide +kernel)) ggX4_pace_X4_paceHours
theorem dX4_pace_0 : decode cX4_pace 0 = .ok (.iload_n 1, 1) := by decide +kernel
theorem dX4_pace_1 : decode cX4_pace 1 = .ok (.invokestatic 196, 3) := by decide +kernel
theorem dX4_pace_4 : decode cX4_pace 4 = .ok (.aload_n 0, 1) := by decide +kernel
theorem dX4_pace_5 : decode cX4_pace 5 = .ok (.iload_n 1, 1) := by decide +kernel
theorem dX4_pace_6 : decode cX4_pace 6 = .ok (.invokevirtual 291, 3) := by decide +kernel
theorem dX4_pace_9 : decode cX4_pace 9 = .ok (.i2f, 1) := by decide +kernel
theorem dX4_pace_10 : decode cX4_pace 10 = .ok (.ldc_w 294, 3) := by decide +kernel
theorem dX4_pace_13 : decode cX4_pace 13 = .ok (.fdiv, 1) := by decide +kernel
theorem dX4_pace_14 : decode cX4_pace 14 = .ok (.freturn, 1) := by decide +kernel
set_option maxRecDepth 20000 in
theorem ggX4_forecast_X4_requireTask : GoodIn wsX4_forecast wsX4_requireTask := goodIn_ca (goodIn_r _ [7, 8, 9, 10, 11, 12, 13, 14, 15, 16, 17, 18, 19, 20, 21, 22, 23, 24, 25, 26, 27, 28, 29, 30, 31, 32, 33, 34, 64, 65, 66, 67, 68, 69, 70, 71, 72, 73] (by decide +kernel) (by decide +kernel)) (goodIn_sub (fun _ h => List.mem_cons_of_mem _ (List.mem_append_left _ (List.mem_append_right _ h))) (by decide +kernel))
set_option maxRecDepth 20000 in
theorem gX4_forecast_X4_requireTask : GoodIn wsX4_forecast (wsV RX4 47 RX4 yX4_requireTask wsX4_requireTask) := goodIn_app (goodIn_of _ (by decide +kernel)) ggX4_forecast_X4_requireTask
set_option maxRecDepth 20000 in
theorem ggX4_forecast_X4_requireWeek : GoodIn wsX4_forecast wsX4_requireWeek := goodIn_ca (goodIn_r _ [37, 38, 39, 40, 41, 6, 42, 43, 44, 45] (by decide +kernel) (by decide +kernel)) (goodIn_sub (fun _ h => List.mem_cons_of_mem _ (List.mem_append_right _ h)) (by decide +kernel))
set_option maxRecDepth 20000 in
theorem gX4_forecast_X4_requireWeek : GoodIn wsX4_forecast (va_wsS RX4 196 yX4_requireWeek wsX4_requireWeek) := goodIn_app (goodIn_of _ (by decide +kernel)) ggX4_forecast_X4_requireWeek
set_option maxRecDepth 20000 in
theorem ggX4_forecast_X4_paceHours : GoodIn wsX4_forecast wsX4_paceHours := goodIn_r _ [49, 50, 51, 52, 53, 12, 13, 14, 15, 16, 17, 18, 19, 20, 21, 22, 23, 24, 25, 26, 27, 28, 29, 30, 31, 32, 33, 34, 64, 65, 66, 67, 68, 69, 70, 74, 75, 76, 77, 78, 79, 80, 71, 72, 73] (by decide +kernel) (by decide +kernel)
set_option maxRecDepth 20000 in
theorem gX4_forecast_X4_paceHours : GoodIn wsX4_forecast (wsV RX4 291 RX4 yX4_paceHours wsX4_paceHours) := goodIn_app (goodIn_of _ (by decide +kernel)) ggX4_forecast_X4_paceHours
set_option maxRecDepth 20000 in
theorem ggX4_forecast_X4_leftOf : GoodIn wsX4_forecast wsX4_leftOf := goodIn_r _ [57, 58, 50, 51, 59, 53, 60, 61, 62, 63, 12, 13, 14, 15, 16, 17, 18, 19, 20, 21, 22, 23, 24, 25, 26, 27, 28, 29, 30, 31, 32, 33, 34, 81, 82, 83, 84, 85, 86, 64, 65, 66, 67, 68, 69, 70, 74, 75, 76, 77, 78, 79, 80, 71, 72, 73] (by decide +kernel) (by decide +kernel)
set_option maxRecDepth 20000 in
theorem gX4_forecast_X4_leftOf : GoodIn wsX4_forecast (wsV RX4 288 RX4 yX4_leftOf wsX4_leftOf) := goodIn_app (goodIn_of _ (by decide +kernel)) ggX4_forecast_X4_leftOf
theorem dX4_forecast_0 : decode cX4_forecast 0 = .ok (.aload_n 0, 1) := by decide +kernel
theorem dX4_forecast_1 : decode cX4_forecast 1 = .ok (.iload_n 1, 1) := by decide +kernel
theorem dX4_forecast_2 : decode cX4_forecast 2 = .ok (.invokevirtual 47, 3) := by decide +kernel
theorem dX4_forecast_5 : decode cX4_forecast 5 = .ok (.astore_n 3, 1) := by decide +kernel
theorem dX4_forecast_6 : decode cX4_forecast 6 = .ok (.iload_n 2, 1) := by decide +kernel
theorem dX4_forecast_7 : decode cX4_forecast 7 = .ok (.invokestatic 196, 3) := by decide +kernel
theorem dX4_forecast_10 : decode cX4_forecast 10 = .ok (.aload_n 0, 1) := by decide +kernel
theorem dX4_forecast_11 : decode cX4_forecast 11 = .ok (.iload_n 2, 1) := by decide +kernel
theorem dX4_forecast_12 : decode cX4_forecast 12 = .ok (.invokevirtual 291, 3) := by decide +kernel
theorem dX4_forecast_15 : decode cX4_forecast 15 = .ok (.istore 4, 2) := by decide +kernel
theorem dX4_forecast_17 : decode cX4_forecast 17 = .ok (.iload 4, 2) := by decide +kernel
theorem dX4_forecast_19 : decode cX4_forecast 19 = .ok (.ifCond .gt 14, 3) := by decide +kernel
theorem dX4_forecast_22 : decode cX4_forecast 22 = .ok (.new 295, 3) := by decide +kernel
theorem dX4_forecast_25 : decode cX4_forecast 25 = .ok (.dup, 1) := by decide +kernel
theorem dX4_forecast_26 : decode cX4_forecast 26 = .ok (.ldc_w 297, 3) := by decide +kernel
theorem dX4_forecast_29 : decode cX4_forecast 29 = .ok (.invokespecial 299, 3) := by decide +kernel
theorem dX4_forecast_32 : decode cX4_forecast 32 = .ok (.athrow, 1) := by decide +kernel
theorem dX4_forecast_33 : decode cX4_forecast 33 = .ok (.aload_n 0, 1) := by decide +kernel
theorem dX4_forecast_34 : decode cX4_forecast 34 = .ok (.aload_n 3, 1) := by decide +kernel
theorem dX4_forecast_35 : decode cX4_forecast 35 = .ok (.invokevirtual 288, 3) := by decide +kernel
theorem dX4_forecast_38 : decode cX4_forecast 38 = .ok (.iconst 3, 1) := by decide +kernel
theorem dX4_forecast_39 : decode cX4_forecast 39 = .ok (.imul, 1) := by decide +kernel
theorem dX4_forecast_40 : decode cX4_forecast 40 = .ok (.iload 4, 2) := by decide +kernel
theorem dX4_forecast_42 : decode cX4_forecast 42 = .ok (.iadd, 1) := by decide +kernel
theorem dX4_forecast_43 : decode cX4_forecast 43 = .ok (.iconst 1, 1) := by decide +kernel
theorem dX4_forecast_44 : decode cX4_forecast 44 = .ok (.isub, 1) := by decide +kernel
theorem dX4_forecast_45 : decode cX4_forecast 45 = .ok (.iload 4, 2) := by decide +kernel
theorem dX4_forecast_47 : decode cX4_forecast 47 = .ok (.idiv, 1) := by decide +kernel
theorem dX4_forecast_48 : decode cX4_forecast 48 = .ok (.ireturn, 1) := by decide +kernel
set_option maxRecDepth 20000 in
theorem ggX4_due_Jx4a65c_size_8abf5 : GoodIn wsX4_due wsJx4a65c_size_8abf5 := goodIn_r _ [9, 10, 39, 40, 41] (by decide +kernel) (by decide +kernel)
set_option maxRecDepth 20000 in
theorem gX4_due_Jx4a65c_size_8abf5 : GoodIn wsX4_due (wsV RX4 62 RJx4a65c yJx4a65c_size_8abf5 wsJx4a65c_size_8abf5) := goodIn_app (goodIn_of _ (by decide +kernel)) ggX4_due_Jx4a65c_size_8abf5
set_option maxRecDepth 20000 in
theorem ggX4_due_Jx4a65c_get_915e3 : GoodIn wsX4_due wsJx4a65c_get_915e3 := goodIn_r _ [14, 10, 15, 16, 17, 18, 19, 20, 21, 22, 23, 24, 25, 8, 26, 27, 39, 40, 41] (by decide +kernel) (by decide +kernel)
set_option maxRecDepth 20000 in
theorem gX4_due_Jx4a65c_get_915e3 : GoodIn wsX4_due (wsV RX4 150 RJx4a65c yJx4a65c_get_915e3 wsJx4a65c_get_915e3) := goodIn_app (goodIn_of _ (by decide +kernel)) ggX4_due_Jx4a65c_get_915e3
theorem dX4_due_0 : decode cX4_due 0 = .ok (.lconst 0, 1) := by decide +kernel
theorem dX4_due_1 : decode cX4_due 1 = .ok (.lstore_n 1, 1) := by decide +kernel
theorem dX4_due_2 : decode cX4_due 2 = .ok (.iconst 0, 1) := by decide +kernel
theorem dX4_due_3 : decode cX4_due 3 = .ok (.istore_n 3, 1) := by decide +kernel
theorem dX4_due_4 : decode cX4_due 4 = .ok (.iload_n 3, 1) := by decide +kernel
theorem dX4_due_5 : decode cX4_due 5 = .ok (.aload_n 0, 1) := by decide +kernel
theorem dX4_due_6 : decode cX4_due 6 = .ok (.getfield 19, 3) := by decide +kernel
theorem dX4_due_9 : decode cX4_due 9 = .ok (.invokevirtual 62, 3) := by decide +kernel
theorem dX4_due_12 : decode cX4_due 12 = .ok (.if_icmp .ge 37, 3) := by decide +kernel
theorem dX4_due_15 : decode cX4_due 15 = .ok (.aload_n 0, 1) := by decide +kernel
theorem dX4_due_16 : decode cX4_due 16 = .ok (.getfield 19, 3) := by decide +kernel
theorem dX4_due_19 : decode cX4_due 19 = .ok (.iload_n 3, 1) := by decide +kernel
theorem dX4_due_20 : decode cX4_due 20 = .ok (.invokevirtual 150, 3) := by decide +kernel
theorem dX4_due_23 : decode cX4_due 23 = .ok (.checkcast 252, 3) := by decide +kernel
theorem dX4_due_26 : decode cX4_due 26 = .ok (.astore 4, 2) := by decide +kernel
theorem dX4_due_28 : decode cX4_due 28 = .ok (.lload_n 1, 1) := by decide +kernel
theorem dX4_due_29 : decode cX4_due 29 = .ok (.aload 4, 2) := by decide +kernel
theorem dX4_due_31 : decode cX4_due 31 = .ok (.getfield 269, 3) := by decide +kernel
theorem dX4_due_34 : decode cX4_due 34 = .ok (.aload 4, 2) := by decide +kernel
theorem dX4_due_36 : decode cX4_due 36 = .ok (.getfield 281, 3) := by decide +kernel
theorem dX4_due_39 : decode cX4_due 39 = .ok (.isub, 1) := by decide +kernel
theorem dX4_due_40 : decode cX4_due 40 = .ok (.i2l, 1) := by decide +kernel
theorem dX4_due_41 : decode cX4_due 41 = .ok (.ladd, 1) := by decide +kernel
theorem dX4_due_42 : decode cX4_due 42 = .ok (.lstore_n 1, 1) := by decide +kernel
theorem dX4_due_43 : decode cX4_due 43 = .ok (.iinc 3 1, 3) := by decide +kernel
theorem dX4_due_46 : decode cX4_due 46 = .ok (.goto (-42), 3) := by decide +kernel
theorem dX4_due_49 : decode cX4_due 49 = .ok (.lload_n 1, 1) := by decide +kernel
theorem dX4_due_50 : decode cX4_due 50 = .ok (.lreturn, 1) := by decide +kernel
set_option maxRecDepth 20000 in
theorem ggX4_meanPrice_Jx4a65c_size_8abf5 : GoodIn wsX4_meanPrice wsJx4a65c_size_8abf5 := goodIn_r _ [12, 13, 45, 46, 47] (by decide +kernel) (by decide +kernel)
set_option maxRecDepth 20000 in
theorem gX4_meanPrice_Jx4a65c_size_8abf5 : GoodIn wsX4_meanPrice (wsV RX4 62 RJx4a65c yJx4a65c_size_8abf5 wsJx4a65c_size_8abf5) := goodIn_app (goodIn_of _ (by decide +kernel)) ggX4_meanPrice_Jx4a65c_size_8abf5
set_option maxRecDepth 20000 in
theorem ggX4_meanPrice_Jx4a65c_get_915e3 : GoodIn wsX4_meanPrice wsJx4a65c_get_915e3 := goodIn_r _ [17, 13, 18, 19, 20, 21, 22, 23, 24, 25, 26, 27, 28, 11, 29, 30, 45, 46, 47] (by decide +kernel) (by decide +kernel)
set_option maxRecDepth 20000 in
theorem gX4_meanPrice_Jx4a65c_get_915e3 : GoodIn wsX4_meanPrice (wsV RX4 150 RJx4a65c yJx4a65c_get_915e3 wsJx4a65c_get_915e3) := goodIn_app (goodIn_of _ (by decide +kernel)) ggX4_meanPrice_Jx4a65c_get_915e3
theorem dX4_meanPrice_0 : decode cX4_meanPrice 0 = .ok (.iconst 0, 1) := by decide +kernel
theorem dX4_meanPrice_1 : decode cX4_meanPrice 1 = .ok (.istore_n 1, 1) := by decide +kernel
theorem dX4_meanPrice_2 : decode cX4_meanPrice 2 = .ok (.iconst 0, 1) := by decide +kernel
theorem dX4_meanPrice_3 : decode cX4_meanPrice 3 = .ok (.istore_n 2, 1) := by decide +kernel
theorem dX4_meanPrice_4 : decode cX4_meanPrice 4 = .ok (.iconst 0, 1) := by decide +kernel
theorem dX4_meanPrice_5 : decode cX4_meanPrice 5 = .ok (.istore_n 3, 1) := by decide +kernel
theorem dX4_meanPrice_6 : decode cX4_meanPrice 6 = .ok (.iload_n 3, 1) := by decide +kernel
theorem dX4_meanPrice_7 : decode cX4_meanPrice 7 = .ok (.aload_n 0, 1) := by decide +kernel
theorem dX4_meanPrice_8 : decode cX4_meanPrice 8 = .ok (.getfield 16, 3) := by decide +kernel
theorem dX4_meanPrice_11 : decode cX4_meanPrice 11 = .ok (.invokevirtual 62, 3) := by decide +kernel
theorem dX4_meanPrice_14 : decode cX4_meanPrice 14 = .ok (.if_icmp .ge 48, 3) := by decide +kernel
theorem dX4_meanPrice_17 : decode cX4_meanPrice 17 = .ok (.aload_n 0, 1) := by decide +kernel
theorem dX4_meanPrice_18 : decode cX4_meanPrice 18 = .ok (.getfield 16, 3) := by decide +kernel
theorem dX4_meanPrice_21 : decode cX4_meanPrice 21 = .ok (.iload_n 3, 1) := by decide +kernel
theorem dX4_meanPrice_22 : decode cX4_meanPrice 22 = .ok (.invokevirtual 150, 3) := by decide +kernel
theorem dX4_meanPrice_25 : decode cX4_meanPrice 25 = .ok (.checkcast 178, 3) := by decide +kernel
theorem dX4_meanPrice_28 : decode cX4_meanPrice 28 = .ok (.astore 4, 2) := by decide +kernel
theorem dX4_meanPrice_30 : decode cX4_meanPrice 30 = .ok (.aload 4, 2) := by decide +kernel
theorem dX4_meanPrice_32 : decode cX4_meanPrice 32 = .ok (.getfield 187, 3) := by decide +kernel
theorem dX4_meanPrice_35 : decode cX4_meanPrice 35 = .ok (.bipush 98, 2) := by decide +kernel
theorem dX4_meanPrice_37 : decode cX4_meanPrice 37 = .ok (.if_icmp .ne 19, 3) := by decide +kernel
theorem dX4_meanPrice_40 : decode cX4_meanPrice 40 = .ok (.iload_n 1, 1) := by decide +kernel
theorem dX4_meanPrice_41 : decode cX4_meanPrice 41 = .ok (.aload 4, 2) := by decide +kernel
theorem dX4_meanPrice_43 : decode cX4_meanPrice 43 = .ok (.getfield 207, 3) := by decide +kernel
theorem dX4_meanPrice_46 : decode cX4_meanPrice 46 = .ok (.iadd, 1) := by decide +kernel
theorem dX4_meanPrice_47 : decode cX4_meanPrice 47 = .ok (.istore_n 1, 1) := by decide +kernel
theorem dX4_meanPrice_48 : decode cX4_meanPrice 48 = .ok (.iload_n 2, 1) := by decide +kernel
theorem dX4_meanPrice_49 : decode cX4_meanPrice 49 = .ok (.aload 4, 2) := by decide +kernel
theorem dX4_meanPrice_51 : decode cX4_meanPrice 51 = .ok (.getfield 300, 3) := by decide +kernel
theorem dX4_meanPrice_54 : decode cX4_meanPrice 54 = .ok (.iadd, 1) := by decide +kernel
theorem dX4_meanPrice_55 : decode cX4_meanPrice 55 = .ok (.istore_n 2, 1) := by decide +kernel
theorem dX4_meanPrice_56 : decode cX4_meanPrice 56 = .ok (.iinc 3 1, 3) := by decide +kernel
theorem dX4_meanPrice_59 : decode cX4_meanPrice 59 = .ok (.goto (-53), 3) := by decide +kernel
theorem dX4_meanPrice_62 : decode cX4_meanPrice 62 = .ok (.iload_n 2, 1) := by decide +kernel
theorem dX4_meanPrice_63 : decode cX4_meanPrice 63 = .ok (.ifCond .gt 14, 3) := by decide +kernel
theorem dX4_meanPrice_66 : decode cX4_meanPrice 66 = .ok (.new 295, 3) := by decide +kernel
theorem dX4_meanPrice_69 : decode cX4_meanPrice 69 = .ok (.dup, 1) := by decide +kernel
theorem dX4_meanPrice_70 : decode cX4_meanPrice 70 = .ok (.ldc_w 303, 3) := by decide +kernel
theorem dX4_meanPrice_73 : decode cX4_meanPrice 73 = .ok (.invokespecial 299, 3) := by decide +kernel
theorem dX4_meanPrice_76 : decode cX4_meanPrice 76 = .ok (.athrow, 1) := by decide +kernel
theorem dX4_meanPrice_77 : decode cX4_meanPrice 77 = .ok (.iload_n 1, 1) := by decide +kernel
theorem dX4_meanPrice_78 : decode cX4_meanPrice 78 = .ok (.i2d, 1) := by decide +kernel
theorem dX4_meanPrice_79 : decode cX4_meanPrice 79 = .ok (.iload_n 2, 1) := by decide +kernel
theorem dX4_meanPrice_80 : decode cX4_meanPrice 80 = .ok (.i2d, 1) := by decide +kernel
theorem dX4_meanPrice_81 : decode cX4_meanPrice 81 = .ok (.ddiv, 1) := by decide +kernel
theorem dX4_meanPrice_82 : decode cX4_meanPrice 82 = .ok (.dreturn, 1) := by decide +kernel
set_option maxRecDepth 20000 in
theorem ggX4_isSettled_Jx4a65c_size_8abf5 : GoodIn wsX4_isSettled wsJx4a65c_size_8abf5 := goodIn_r _ [10, 11, 84, 85, 86] (by decide +kernel) (by decide +kernel)
set_option maxRecDepth 20000 in
theorem gX4_isSettled_Jx4a65c_size_8abf5 : GoodIn wsX4_isSettled (wsV RX4 62 RJx4a65c yJx4a65c_size_8abf5 wsJx4a65c_size_8abf5) := goodIn_app (goodIn_of _ (by decide +kernel)) ggX4_isSettled_Jx4a65c_size_8abf5
set_option maxRecDepth 20000 in
theorem ggX4_isSettled_Jx4a65c_get_915e3 : GoodIn wsX4_isSettled wsJx4a65c_get_915e3 := goodIn_r _ [15, 11, 16, 17, 18, 19, 20, 21, 22, 23, 24, 25, 26, 9, 27, 28, 84, 85, 86] (by decide +kernel) (by decide +kernel)
set_option maxRecDepth 20000 in
theorem gX4_isSettled_Jx4a65c_get_915e3 : GoodIn wsX4_isSettled (wsV RX4 150 RJx4a65c yJx4a65c_get_915e3 wsJx4a65c_get_915e3) := goodIn_app (goodIn_of _ (by decide +kernel)) ggX4_isSettled_Jx4a65c_get_915e3
set_option maxRecDepth 20000 in
theorem ggX4_isSettled_X4_recomputeTotal : GoodIn wsX4_isSettled wsX4_recomputeTotal := goodIn_ca (goodIn_r _ [33, 34, 35, 36, 37, 6, 7, 8, 9, 10, 11, 12, 13, 14, 15, 16, 17, 18, 19, 20, 21, 22, 23, 24, 25, 26, 27, 28, 38, 39, 40, 41, 42, 43, 44, 45, 46, 47, 48, 49, 50, 51, 52, 53, 54, 55, 73, 74, 75, 76, 77, 78, 79, 87, 88, 89, 90, 91, 92, 93, 80, 81, 82, 83, 84, 85, 86, 94, 95, 96, 97] (by decide +kernel) (by decide +kernel)) (goodIn_sub (fun _ h => List.mem_cons_of_mem _ (List.mem_append_right _ h)) (by decide +kernel))
set_option maxRecDepth 20000 in
theorem gX4_isSettled_X4_recomputeTotal : GoodIn wsX4_isSettled (wsV RX4 277 RX4 yX4_recomputeTotal wsX4_recomputeTotal) := goodIn_app (goodIn_of _ (by decide +kernel)) ggX4_isSettled_X4_recomputeTotal
set_option maxRecDepth 20000 in
theorem ggX4_isSettled_X4_creditedPrices : GoodIn wsX4_isSettled wsX4_creditedPrices := goodIn_r _ [59, 34, 35, 36, 60, 61, 6, 7, 8, 9, 10, 11, 12, 13, 14, 15, 16, 17, 18, 19, 20, 21, 22, 23, 24, 25, 26, 27, 28, 73, 74, 75, 76, 77, 78, 79, 87, 88, 89, 90, 91, 92, 93, 84, 85, 86] (by decide +kernel) (by decide +kernel)
set_option maxRecDepth 20000 in
theorem gX4_isSettled_X4_creditedPrices : GoodIn wsX4_isSettled (wsV RX4 305 RX4 yX4_creditedPrices wsX4_creditedPrices) := goodIn_app (goodIn_of _ (by decide +kernel)) ggX4_isSettled_X4_creditedPrices
set_option maxRecDepth 20000 in
theorem ggX4_isSettled_X4_areChargedHoursWithin : GoodIn wsX4_isSettled wsX4_areChargedHoursWithin := goodIn_r _ [65, 34, 35, 36, 66, 67, 6, 7, 8, 9, 10, 11, 12, 13, 14, 15, 16, 17, 18, 19, 20, 21, 22, 23, 24, 25, 26, 27, 28, 68, 69, 70, 32, 71, 72, 73, 74, 75, 76, 77, 78, 79, 87, 88, 89, 90, 91, 92, 93, 84, 85, 86] (by decide +kernel) (by decide +kernel)
set_option maxRecDepth 20000 in
theorem gX4_isSettled_X4_areChargedHoursWithin : GoodIn wsX4_isSettled (wsV RX4 308 RX4 yX4_areChargedHoursWithin wsX4_areChargedHoursWithin) := goodIn_app (goodIn_of _ (by decide +kernel)) ggX4_isSettled_X4_areChargedHoursWithin
theorem dX4_isSettled_0 : decode cX4_isSettled 0 = .ok (.iconst 0, 1) := by decide +kernel
theorem dX4_isSettled_1 : decode cX4_isSettled 1 = .ok (.istore_n 1, 1) := by decide +kernel
theorem dX4_isSettled_2 : decode cX4_isSettled 2 = .ok (.iload_n 1, 1) := by decide +kernel
theorem dX4_isSettled_3 : decode cX4_isSettled 3 = .ok (.aload_n 0, 1) := by decide +kernel
theorem dX4_isSettled_4 : decode cX4_isSettled 4 = .ok (.getfield 19, 3) := by decide +kernel
theorem dX4_isSettled_7 : decode cX4_isSettled 7 = .ok (.invokevirtual 62, 3) := by decide +kernel
theorem dX4_isSettled_10 : decode cX4_isSettled 10 = .ok (.if_icmp .ge 47, 3) := by decide +kernel
theorem dX4_isSettled_13 : decode cX4_isSettled 13 = .ok (.aload_n 0, 1) := by decide +kernel
theorem dX4_isSettled_14 : decode cX4_isSettled 14 = .ok (.getfield 19, 3) := by decide +kernel
theorem dX4_isSettled_17 : decode cX4_isSettled 17 = .ok (.iload_n 1, 1) := by decide +kernel
theorem dX4_isSettled_18 : decode cX4_isSettled 18 = .ok (.invokevirtual 150, 3) := by decide +kernel
theorem dX4_isSettled_21 : decode cX4_isSettled 21 = .ok (.checkcast 252, 3) := by decide +kernel
theorem dX4_isSettled_24 : decode cX4_isSettled 24 = .ok (.astore_n 2, 1) := by decide +kernel
theorem dX4_isSettled_25 : decode cX4_isSettled 25 = .ok (.aload_n 2, 1) := by decide +kernel
theorem dX4_isSettled_26 : decode cX4_isSettled 26 = .ok (.getfield 269, 3) := by decide +kernel
theorem dX4_isSettled_29 : decode cX4_isSettled 29 = .ok (.aload_n 0, 1) := by decide +kernel
theorem dX4_isSettled_30 : decode cX4_isSettled 30 = .ok (.aload_n 2, 1) := by decide +kernel
theorem dX4_isSettled_31 : decode cX4_isSettled 31 = .ok (.invokevirtual 277, 3) := by decide +kernel
theorem dX4_isSettled_34 : decode cX4_isSettled 34 = .ok (.if_icmp .ne 15, 3) := by decide +kernel
theorem dX4_isSettled_37 : decode cX4_isSettled 37 = .ok (.aload_n 2, 1) := by decide +kernel
theorem dX4_isSettled_38 : decode cX4_isSettled 38 = .ok (.getfield 281, 3) := by decide +kernel
theorem dX4_isSettled_41 : decode cX4_isSettled 41 = .ok (.aload_n 0, 1) := by decide +kernel
theorem dX4_isSettled_42 : decode cX4_isSettled 42 = .ok (.aload_n 2, 1) := by decide +kernel
theorem dX4_isSettled_43 : decode cX4_isSettled 43 = .ok (.invokevirtual 305, 3) := by decide +kernel
theorem dX4_isSettled_46 : decode cX4_isSettled 46 = .ok (.if_icmp .eq 5, 3) := by decide +kernel
theorem dX4_isSettled_49 : decode cX4_isSettled 49 = .ok (.iconst 0, 1) := by decide +kernel
theorem dX4_isSettled_50 : decode cX4_isSettled 50 = .ok (.ireturn, 1) := by decide +kernel
theorem dX4_isSettled_51 : decode cX4_isSettled 51 = .ok (.iinc 1 1, 3) := by decide +kernel
theorem dX4_isSettled_54 : decode cX4_isSettled 54 = .ok (.goto (-52), 3) := by decide +kernel
theorem dX4_isSettled_57 : decode cX4_isSettled 57 = .ok (.aload_n 0, 1) := by decide +kernel
theorem dX4_isSettled_58 : decode cX4_isSettled 58 = .ok (.aload_n 0, 1) := by decide +kernel
theorem dX4_isSettled_59 : decode cX4_isSettled 59 = .ok (.getfield 37, 3) := by decide +kernel
theorem dX4_isSettled_62 : decode cX4_isSettled 62 = .ok (.invokevirtual 308, 3) := by decide +kernel
theorem dX4_isSettled_65 : decode cX4_isSettled 65 = .ok (.ireturn, 1) := by decide +kernel
theorem dX4_isBetween_0 : decode cX4_isBetween 0 = .ok (.iload_n 0, 1) := by decide +kernel
theorem dX4_isBetween_1 : decode cX4_isBetween 1 = .ok (.iload_n 1, 1) := by decide +kernel
theorem dX4_isBetween_2 : decode cX4_isBetween 2 = .ok (.if_icmp .lt 12, 3) := by decide +kernel
theorem dX4_isBetween_5 : decode cX4_isBetween 5 = .ok (.iload_n 0, 1) := by decide +kernel
theorem dX4_isBetween_6 : decode cX4_isBetween 6 = .ok (.iload_n 2, 1) := by decide +kernel
theorem dX4_isBetween_7 : decode cX4_isBetween 7 = .ok (.if_icmp .gt 7, 3) := by decide +kernel
theorem dX4_isBetween_10 : decode cX4_isBetween 10 = .ok (.iconst 1, 1) := by decide +kernel
theorem dX4_isBetween_11 : decode cX4_isBetween 11 = .ok (.goto 4, 3) := by decide +kernel
theorem dX4_isBetween_14 : decode cX4_isBetween 14 = .ok (.iconst 0, 1) := by decide +kernel
theorem dX4_isBetween_15 : decode cX4_isBetween 15 = .ok (.ireturn, 1) := by decide +kernel
set_option maxRecDepth 20000 in
theorem ggX4_isPerson_X4_isBetween : GoodIn wsX4_isPerson wsX4_isBetween := goodIn_r _ [4] (by decide +kernel) (by decide +kernel)
set_option maxRecDepth 20000 in
theorem gX4_isPerson_X4_isBetween : GoodIn wsX4_isPerson (va_wsS RX4 51 yX4_isBetween wsX4_isBetween) := goodIn_app (goodIn_of _ (by decide +kernel)) ggX4_isPerson_X4_isBetween
theorem dX4_isPerson_0 : decode cX4_isPerson 0 = .ok (.iload_n 0, 1) := by decide +kernel
theorem dX4_isPerson_1 : decode cX4_isPerson 1 = .ok (.iconst 0, 1) := by decide +kernel
theorem dX4_isPerson_2 : decode cX4_isPerson 2 = .ok (.iconst 3, 1) := by decide +kernel
theorem dX4_isPerson_3 : decode cX4_isPerson 3 = .ok (.invokestatic 51, 3) := by decide +kernel
theorem dX4_isPerson_6 : decode cX4_isPerson 6 = .ok (.ireturn, 1) := by decide +kernel
set_option maxRecDepth 20000 in
theorem ggX4_isWeek_X4_isBetween : GoodIn wsX4_isWeek wsX4_isBetween := goodIn_r _ [4] (by decide +kernel) (by decide +kernel)
set_option maxRecDepth 20000 in
theorem gX4_isWeek_X4_isBetween : GoodIn wsX4_isWeek (va_wsS RX4 51 yX4_isBetween wsX4_isBetween) := goodIn_app (goodIn_of _ (by decide +kernel)) ggX4_isWeek_X4_isBetween
theorem dX4_isWeek_0 : decode cX4_isWeek 0 = .ok (.iload_n 0, 1) := by decide +kernel
theorem dX4_isWeek_1 : decode cX4_isWeek 1 = .ok (.iconst 0, 1) := by decide +kernel
theorem dX4_isWeek_2 : decode cX4_isWeek 2 = .ok (.bipush 29, 2) := by decide +kernel
theorem dX4_isWeek_4 : decode cX4_isWeek 4 = .ok (.invokestatic 51, 3) := by decide +kernel
theorem dX4_isWeek_7 : decode cX4_isWeek 7 = .ok (.ireturn, 1) := by decide +kernel
set_option maxRecDepth 20000 in
theorem ggX4_requireWeek_X4_isWeek : GoodIn wsX4_requireWeek wsX4_isWeek := goodIn_r _ [6, 7, 8, 5, 9] (by decide +kernel) (by decide +kernel)
set_option maxRecDepth 20000 in
theorem gX4_requireWeek_X4_isWeek : GoodIn wsX4_requireWeek (va_wsS RX4 161 yX4_isWeek wsX4_isWeek) := goodIn_app (goodIn_of _ (by decide +kernel)) ggX4_requireWeek_X4_isWeek
theorem dX4_requireWeek_0 : decode cX4_requireWeek 0 = .ok (.iload_n 0, 1) := by decide +kernel
theorem dX4_requireWeek_1 : decode cX4_requireWeek 1 = .ok (.invokestatic 161, 3) := by decide +kernel
theorem dX4_requireWeek_4 : decode cX4_requireWeek 4 = .ok (.ifCond .ne 14, 3) := by decide +kernel
theorem dX4_requireWeek_7 : decode cX4_requireWeek 7 = .ok (.new 55, 3) := by decide +kernel
theorem dX4_requireWeek_10 : decode cX4_requireWeek 10 = .ok (.dup, 1) := by decide +kernel
theorem dX4_requireWeek_11 : decode cX4_requireWeek 11 = .ok (.ldc_w 311, 3) := by decide +kernel
theorem dX4_requireWeek_14 : decode cX4_requireWeek 14 = .ok (.invokespecial 59, 3) := by decide +kernel
theorem dX4_requireWeek_17 : decode cX4_requireWeek 17 = .ok (.athrow, 1) := by decide +kernel
theorem dX4_requireWeek_18 : decode cX4_requireWeek 18 = .ok (.return_, 1) := by decide +kernel
set_option maxRecDepth 20000 in
theorem ggX4_requireTask_Jx4a65c_size_8abf5 : GoodIn wsX4_requireTask wsJx4a65c_size_8abf5 := goodIn_r _ [9, 10, 35, 36, 37] (by decide +kernel) (by decide +kernel)
set_option maxRecDepth 20000 in
theorem gX4_requireTask_Jx4a65c_size_8abf5 : GoodIn wsX4_requireTask (wsV RX4 62 RJx4a65c yJx4a65c_size_8abf5 wsJx4a65c_size_8abf5) := goodIn_app (goodIn_of _ (by decide +kernel)) ggX4_requireTask_Jx4a65c_size_8abf5
set_option maxRecDepth 20000 in
theorem ggX4_requireTask_Jx4a65c_get_915e3 : GoodIn wsX4_requireTask wsJx4a65c_get_915e3 := goodIn_r _ [14, 10, 15, 16, 17, 18, 19, 20, 21, 22, 23, 24, 25, 8, 26, 27, 35, 36, 37] (by decide +kernel) (by decide +kernel)
set_option maxRecDepth 20000 in
theorem gX4_requireTask_Jx4a65c_get_915e3 : GoodIn wsX4_requireTask (wsV RX4 150 RJx4a65c yJx4a65c_get_915e3 wsJx4a65c_get_915e3) := goodIn_app (goodIn_of _ (by decide +kernel)) ggX4_requireTask_Jx4a65c_get_915e3
theorem dX4_requireTask_0 : decode cX4_requireTask 0 = .ok (.iload_n 1, 1) := by decide +kernel
theorem dX4_requireTask_1 : decode cX4_requireTask 1 = .ok (.ifCond .lt 14, 3) := by decide +kernel
theorem dX4_requireTask_4 : decode cX4_requireTask 4 = .ok (.iload_n 1, 1) := by decide +kernel
theorem dX4_requireTask_5 : decode cX4_requireTask 5 = .ok (.aload_n 0, 1) := by decide +kernel
theorem dX4_requireTask_6 : decode cX4_requireTask 6 = .ok (.getfield 12, 3) := by decide +kernel
theorem dX4_requireTask_9 : decode cX4_requireTask 9 = .ok (.invokevirtual 62, 3) := by decide +kernel
theorem dX4_requireTask_12 : decode cX4_requireTask 12 = .ok (.if_icmp .lt 14, 3) := by decide +kernel
theorem dX4_requireTask_15 : decode cX4_requireTask 15 = .ok (.new 313, 3) := by decide +kernel
theorem dX4_requireTask_18 : decode cX4_requireTask 18 = .ok (.dup, 1) := by decide +kernel
theorem dX4_requireTask_19 : decode cX4_requireTask 19 = .ok (.ldc_w 315, 3) := by decide +kernel
theorem dX4_requireTask_22 : decode cX4_requireTask 22 = .ok (.invokespecial 317, 3) := by decide +kernel
theorem dX4_requireTask_25 : decode cX4_requireTask 25 = .ok (.athrow, 1) := by decide +kernel
theorem dX4_requireTask_26 : decode cX4_requireTask 26 = .ok (.aload_n 0, 1) := by decide +kernel
theorem dX4_requireTask_27 : decode cX4_requireTask 27 = .ok (.getfield 12, 3) := by decide +kernel
theorem dX4_requireTask_30 : decode cX4_requireTask 30 = .ok (.iload_n 1, 1) := by decide +kernel
theorem dX4_requireTask_31 : decode cX4_requireTask 31 = .ok (.invokevirtual 150, 3) := by decide +kernel
theorem dX4_requireTask_34 : decode cX4_requireTask 34 = .ok (.checkcast 72, 3) := by decide +kernel
theorem dX4_requireTask_37 : decode cX4_requireTask 37 = .ok (.areturn, 1) := by decide +kernel
theorem dX4_requireState_0 : decode cX4_requireState 0 = .ok (.aload_n 0, 1) := by decide +kernel
theorem dX4_requireState_1 : decode cX4_requireState 1 = .ok (.getfield 71, 3) := by decide +kernel
theorem dX4_requireState_4 : decode cX4_requireState 4 = .ok (.iload_n 1, 1) := by decide +kernel
theorem dX4_requireState_5 : decode cX4_requireState 5 = .ok (.if_icmp .eq 14, 3) := by decide +kernel
theorem dX4_requireState_8 : decode cX4_requireState 8 = .ok (.new 66, 3) := by decide +kernel
theorem dX4_requireState_11 : decode cX4_requireState 11 = .ok (.dup, 1) := by decide +kernel
theorem dX4_requireState_12 : decode cX4_requireState 12 = .ok (.ldc_w 318, 3) := by decide +kernel
theorem dX4_requireState_15 : decode cX4_requireState 15 = .ok (.invokespecial 70, 3) := by decide +kernel
theorem dX4_requireState_18 : decode cX4_requireState 18 = .ok (.athrow, 1) := by decide +kernel
theorem dX4_requireState_19 : decode cX4_requireState 19 = .ok (.return_, 1) := by decide +kernel
set_option maxRecDepth 20000 in
theorem ggX4_requireEntry_Jx4a65c_size_8abf5 : GoodIn wsX4_requireEntry wsJx4a65c_size_8abf5 := goodIn_r _ [9, 10, 35, 36, 37] (by decide +kernel) (by decide +kernel)
set_option maxRecDepth 20000 in
theorem gX4_requireEntry_Jx4a65c_size_8abf5 : GoodIn wsX4_requireEntry (wsV RX4 62 RJx4a65c yJx4a65c_size_8abf5 wsJx4a65c_size_8abf5) := goodIn_app (goodIn_of _ (by decide +kernel)) ggX4_requireEntry_Jx4a65c_size_8abf5
set_option maxRecDepth 20000 in
theorem ggX4_requireEntry_Jx4a65c_get_915e3 : GoodIn wsX4_requireEntry wsJx4a65c_get_915e3 := goodIn_r _ [14, 10, 15, 16, 17, 18, 19, 20, 21, 22, 23, 24, 25, 8, 26, 27, 35, 36, 37] (by decide +kernel) (by decide +kernel)
set_option maxRecDepth 20000 in
theorem gX4_requireEntry_Jx4a65c_get_915e3 : GoodIn wsX4_requireEntry (wsV RX4 150 RJx4a65c yJx4a65c_get_915e3 wsJx4a65c_get_915e3) := goodIn_app (goodIn_of _ (by decide +kernel)) ggX4_requireEntry_Jx4a65c_get_915e3
theorem dX4_requireEntry_0 : decode cX4_requireEntry 0 = .ok (.iload_n 1, 1) := by decide +kernel
theorem dX4_requireEntry_1 : decode cX4_requireEntry 1 = .ok (.ifCond .lt 14, 3) := by decide +kernel
theorem dX4_requireEntry_4 : decode cX4_requireEntry 4 = .ok (.iload_n 1, 1) := by decide +kernel
theorem dX4_requireEntry_5 : decode cX4_requireEntry 5 = .ok (.aload_n 0, 1) := by decide +kernel
theorem dX4_requireEntry_6 : decode cX4_requireEntry 6 = .ok (.getfield 16, 3) := by decide +kernel
theorem dX4_requireEntry_9 : decode cX4_requireEntry 9 = .ok (.invokevirtual 62, 3) := by decide +kernel
theorem dX4_requireEntry_12 : decode cX4_requireEntry 12 = .ok (.if_icmp .lt 14, 3) := by decide +kernel
theorem dX4_requireEntry_15 : decode cX4_requireEntry 15 = .ok (.new 145, 3) := by decide +kernel
theorem dX4_requireEntry_18 : decode cX4_requireEntry 18 = .ok (.dup, 1) := by decide +kernel
theorem dX4_requireEntry_19 : decode cX4_requireEntry 19 = .ok (.ldc_w 320, 3) := by decide +kernel
theorem dX4_requireEntry_22 : decode cX4_requireEntry 22 = .ok (.invokespecial 149, 3) := by decide +kernel
theorem dX4_requireEntry_25 : decode cX4_requireEntry 25 = .ok (.athrow, 1) := by decide +kernel
theorem dX4_requireEntry_26 : decode cX4_requireEntry 26 = .ok (.aload_n 0, 1) := by decide +kernel
theorem dX4_requireEntry_27 : decode cX4_requireEntry 27 = .ok (.getfield 16, 3) := by decide +kernel
theorem dX4_requireEntry_30 : decode cX4_requireEntry 30 = .ok (.iload_n 1, 1) := by decide +kernel
theorem dX4_requireEntry_31 : decode cX4_requireEntry 31 = .ok (.invokevirtual 150, 3) := by decide +kernel
theorem dX4_requireEntry_34 : decode cX4_requireEntry 34 = .ok (.checkcast 178, 3) := by decide +kernel
theorem dX4_requireEntry_37 : decode cX4_requireEntry 37 = .ok (.areturn, 1) := by decide +kernel
set_option maxRecDepth 20000 in
theorem ggX4_requireInvoice_Jx4a65c_size_8abf5 : GoodIn wsX4_requireInvoice wsJx4a65c_size_8abf5 := goodIn_r _ [9, 10, 35, 36, 37] (by decide +kernel) (by decide +kernel)
set_option maxRecDepth 20000 in
theorem gX4_requireInvoice_Jx4a65c_size_8abf5 : GoodIn wsX4_requireInvoice (wsV RX4 62 RJx4a65c yJx4a65c_size_8abf5 wsJx4a65c_size_8abf5) := goodIn_app (goodIn_of _ (by decide +kernel)) ggX4_requireInvoice_Jx4a65c_size_8abf5
set_option maxRecDepth 20000 in
theorem ggX4_requireInvoice_Jx4a65c_get_915e3 : GoodIn wsX4_requireInvoice wsJx4a65c_get_915e3 := goodIn_r _ [14, 10, 15, 16, 17, 18, 19, 20, 21, 22, 23, 24, 25, 8, 26, 27, 35, 36, 37] (by decide +kernel) (by decide +kernel)
set_option maxRecDepth 20000 in
theorem gX4_requireInvoice_Jx4a65c_get_915e3 : GoodIn wsX4_requireInvoice (wsV RX4 150 RJx4a65c yJx4a65c_get_915e3 wsJx4a65c_get_915e3) := goodIn_app (goodIn_of _ (by decide +kernel)) ggX4_requireInvoice_Jx4a65c_get_915e3
theorem dX4_requireInvoice_0 : decode cX4_requireInvoice 0 = .ok (.iload_n 1, 1) := by decide +kernel
theorem dX4_requireInvoice_1 : decode cX4_requireInvoice 1 = .ok (.ifCond .lt 14, 3) := by decide +kernel
theorem dX4_requireInvoice_4 : decode cX4_requireInvoice 4 = .ok (.iload_n 1, 1) := by decide +kernel
theorem dX4_requireInvoice_5 : decode cX4_requireInvoice 5 = .ok (.aload_n 0, 1) := by decide +kernel
theorem dX4_requireInvoice_6 : decode cX4_requireInvoice 6 = .ok (.getfield 19, 3) := by decide +kernel
theorem dX4_requireInvoice_9 : decode cX4_requireInvoice 9 = .ok (.invokevirtual 62, 3) := by decide +kernel
theorem dX4_requireInvoice_12 : decode cX4_requireInvoice 12 = .ok (.if_icmp .lt 14, 3) := by decide +kernel
theorem dX4_requireInvoice_15 : decode cX4_requireInvoice 15 = .ok (.new 145, 3) := by decide +kernel
theorem dX4_requireInvoice_18 : decode cX4_requireInvoice 18 = .ok (.dup, 1) := by decide +kernel
theorem dX4_requireInvoice_19 : decode cX4_requireInvoice 19 = .ok (.ldc_w 322, 3) := by decide +kernel
theorem dX4_requireInvoice_22 : decode cX4_requireInvoice 22 = .ok (.invokespecial 149, 3) := by decide +kernel
theorem dX4_requireInvoice_25 : decode cX4_requireInvoice 25 = .ok (.athrow, 1) := by decide +kernel
theorem dX4_requireInvoice_26 : decode cX4_requireInvoice 26 = .ok (.aload_n 0, 1) := by decide +kernel
theorem dX4_requireInvoice_27 : decode cX4_requireInvoice 27 = .ok (.getfield 19, 3) := by decide +kernel
theorem dX4_requireInvoice_30 : decode cX4_requireInvoice 30 = .ok (.iload_n 1, 1) := by decide +kernel
theorem dX4_requireInvoice_31 : decode cX4_requireInvoice 31 = .ok (.invokevirtual 150, 3) := by decide +kernel
theorem dX4_requireInvoice_34 : decode cX4_requireInvoice 34 = .ok (.checkcast 252, 3) := by decide +kernel
theorem dX4_requireInvoice_37 : decode cX4_requireInvoice 37 = .ok (.areturn, 1) := by decide +kernel
theorem dX4_requireInvoiceOf_0 : decode cX4_requireInvoiceOf 0 = .ok (.aload_n 0, 1) := by decide +kernel
theorem dX4_requireInvoiceOf_1 : decode cX4_requireInvoiceOf 1 = .ok (.getfield 284, 3) := by decide +kernel
theorem dX4_requireInvoiceOf_4 : decode cX4_requireInvoiceOf 4 = .ok (.astore_n 1, 1) := by decide +kernel
theorem dX4_requireInvoiceOf_5 : decode cX4_requireInvoiceOf 5 = .ok (.aload_n 1, 1) := by decide +kernel
theorem dX4_requireInvoiceOf_6 : decode cX4_requireInvoiceOf 6 = .ok (.ifnonnull 14, 3) := by decide +kernel
theorem dX4_requireInvoiceOf_9 : decode cX4_requireInvoiceOf 9 = .ok (.new 66, 3) := by decide +kernel
theorem dX4_requireInvoiceOf_12 : decode cX4_requireInvoiceOf 12 = .ok (.dup, 1) := by decide +kernel
theorem dX4_requireInvoiceOf_13 : decode cX4_requireInvoiceOf 13 = .ok (.ldc_w 324, 3) := by decide +kernel
theorem dX4_requireInvoiceOf_16 : decode cX4_requireInvoiceOf 16 = .ok (.invokespecial 70, 3) := by decide +kernel
theorem dX4_requireInvoiceOf_19 : decode cX4_requireInvoiceOf 19 = .ok (.athrow, 1) := by decide +kernel
theorem dX4_requireInvoiceOf_20 : decode cX4_requireInvoiceOf 20 = .ok (.aload_n 1, 1) := by decide +kernel
theorem dX4_requireInvoiceOf_21 : decode cX4_requireInvoiceOf 21 = .ok (.areturn, 1) := by decide +kernel
set_option maxRecDepth 20000 in
theorem ggX4_countTasks_Jx4a65c_size_8abf5 : GoodIn wsX4_countTasks wsJx4a65c_size_8abf5 := goodIn_r _ [8, 9, 40, 41, 42] (by decide +kernel) (by decide +kernel)
set_option maxRecDepth 20000 in
theorem gX4_countTasks_Jx4a65c_size_8abf5 : GoodIn wsX4_countTasks (wsV RX4 62 RJx4a65c yJx4a65c_size_8abf5 wsJx4a65c_size_8abf5) := goodIn_app (goodIn_of _ (by decide +kernel)) ggX4_countTasks_Jx4a65c_size_8abf5
set_option maxRecDepth 20000 in
theorem ggX4_countTasks_Jx4a65c_get_915e3 : GoodIn wsX4_countTasks wsJx4a65c_get_915e3 := goodIn_r _ [13, 9, 14, 15, 16, 17, 18, 19, 20, 21, 22, 23, 24, 7, 25, 26, 40, 41, 42] (by decide +kernel) (by decide +kernel)
set_option maxRecDepth 20000 in
theorem gX4_countTasks_Jx4a65c_get_915e3 : GoodIn wsX4_countTasks (wsV RX4 150 RJx4a65c yJx4a65c_get_915e3 wsJx4a65c_get_915e3) := goodIn_app (goodIn_of _ (by decide +kernel)) ggX4_countTasks_Jx4a65c_get_915e3
theorem dX4_countTasks_0 : decode cX4_countTasks 0 = .ok (.iconst 0, 1) := by decide +kernel
theorem dX4_countTasks_1 : decode cX4_countTasks 1 = .ok (.istore_n 2, 1) := by decide +kernel
theorem dX4_countTasks_2 : decode cX4_countTasks 2 = .ok (.iconst 0, 1) := by decide +kernel
theorem dX4_countTasks_3 : decode cX4_countTasks 3 = .ok (.istore_n 3, 1) := by decide +kernel
theorem dX4_countTasks_4 : decode cX4_countTasks 4 = .ok (.iload_n 3, 1) := by decide +kernel
theorem dX4_countTasks_5 : decode cX4_countTasks 5 = .ok (.aload_n 0, 1) := by decide +kernel
theorem dX4_countTasks_6 : decode cX4_countTasks 6 = .ok (.getfield 12, 3) := by decide +kernel
theorem dX4_countTasks_9 : decode cX4_countTasks 9 = .ok (.invokevirtual 62, 3) := by decide +kernel
theorem dX4_countTasks_12 : decode cX4_countTasks 12 = .ok (.if_icmp .ge 30, 3) := by decide +kernel
theorem dX4_countTasks_15 : decode cX4_countTasks 15 = .ok (.aload_n 0, 1) := by decide +kernel
theorem dX4_countTasks_16 : decode cX4_countTasks 16 = .ok (.getfield 12, 3) := by decide +kernel
theorem dX4_countTasks_19 : decode cX4_countTasks 19 = .ok (.iload_n 3, 1) := by decide +kernel
theorem dX4_countTasks_20 : decode cX4_countTasks 20 = .ok (.invokevirtual 150, 3) := by decide +kernel
theorem dX4_countTasks_23 : decode cX4_countTasks 23 = .ok (.checkcast 72, 3) := by decide +kernel
theorem dX4_countTasks_26 : decode cX4_countTasks 26 = .ok (.getfield 71, 3) := by decide +kernel
theorem dX4_countTasks_29 : decode cX4_countTasks 29 = .ok (.iload_n 1, 1) := by decide +kernel
theorem dX4_countTasks_30 : decode cX4_countTasks 30 = .ok (.if_icmp .ne 6, 3) := by decide +kernel
theorem dX4_countTasks_33 : decode cX4_countTasks 33 = .ok (.iinc 2 1, 3) := by decide +kernel
theorem dX4_countTasks_36 : decode cX4_countTasks 36 = .ok (.iinc 3 1, 3) := by decide +kernel
theorem dX4_countTasks_39 : decode cX4_countTasks 39 = .ok (.goto (-35), 3) := by decide +kernel
theorem dX4_countTasks_42 : decode cX4_countTasks 42 = .ok (.iload_n 2, 1) := by decide +kernel
theorem dX4_countTasks_43 : decode cX4_countTasks 43 = .ok (.ireturn, 1) := by decide +kernel
set_option maxRecDepth 20000 in
theorem ggX4_areBlockersDone_Jx4a65c_size_8abf5 : GoodIn wsX4_areBlockersDone wsJx4a65c_size_8abf5 := goodIn_r _ [8, 9, 51, 52, 53] (by decide +kernel) (by decide +kernel)
set_option maxRecDepth 20000 in
theorem gX4_areBlockersDone_Jx4a65c_size_8abf5 : GoodIn wsX4_areBlockersDone (wsV RX4 62 RJx4a65c yJx4a65c_size_8abf5 wsJx4a65c_size_8abf5) := goodIn_app (goodIn_of _ (by decide +kernel)) ggX4_areBlockersDone_Jx4a65c_size_8abf5
set_option maxRecDepth 20000 in
theorem ggX4_areBlockersDone_Jx4a65c_get_915e3 : GoodIn wsX4_areBlockersDone wsJx4a65c_get_915e3 := goodIn_r _ [13, 9, 14, 15, 16, 17, 18, 19, 20, 21, 22, 23, 24, 7, 25, 26, 51, 52, 53] (by decide +kernel) (by decide +kernel)
set_option maxRecDepth 20000 in
theorem gX4_areBlockersDone_Jx4a65c_get_915e3 : GoodIn wsX4_areBlockersDone (wsV RX4 150 RJx4a65c yJx4a65c_get_915e3 wsJx4a65c_get_915e3) := goodIn_app (goodIn_of _ (by decide +kernel)) ggX4_areBlockersDone_Jx4a65c_get_915e3
set_option maxRecDepth 20000 in
theorem ggX4_areBlockersDone_X3_isBlockedBy : GoodIn wsX4_areBlockersDone wsX3_isBlockedBy := goodIn_r _ [31, 32, 33, 34, 35, 30, 36, 37, 45, 46, 47, 48, 49, 50] (by decide +kernel) (by decide +kernel)
set_option maxRecDepth 20000 in
theorem gX4_areBlockersDone_X3_isBlockedBy : GoodIn wsX4_areBlockersDone (wsV RX4 94 RX3 yX3_isBlockedBy wsX3_isBlockedBy) := goodIn_app (goodIn_of _ (by decide +kernel)) ggX4_areBlockersDone_X3_isBlockedBy
theorem dX4_areBlockersDone_0 : decode cX4_areBlockersDone 0 = .ok (.iconst 0, 1) := by decide +kernel
theorem dX4_areBlockersDone_1 : decode cX4_areBlockersDone 1 = .ok (.istore_n 2, 1) := by decide +kernel
theorem dX4_areBlockersDone_2 : decode cX4_areBlockersDone 2 = .ok (.iload_n 2, 1) := by decide +kernel
theorem dX4_areBlockersDone_3 : decode cX4_areBlockersDone 3 = .ok (.aload_n 0, 1) := by decide +kernel
theorem dX4_areBlockersDone_4 : decode cX4_areBlockersDone 4 = .ok (.getfield 12, 3) := by decide +kernel
theorem dX4_areBlockersDone_7 : decode cX4_areBlockersDone 7 = .ok (.invokevirtual 62, 3) := by decide +kernel
theorem dX4_areBlockersDone_10 : decode cX4_areBlockersDone 10 = .ok (.if_icmp .ge 40, 3) := by decide +kernel
theorem dX4_areBlockersDone_13 : decode cX4_areBlockersDone 13 = .ok (.aload_n 0, 1) := by decide +kernel
theorem dX4_areBlockersDone_14 : decode cX4_areBlockersDone 14 = .ok (.getfield 12, 3) := by decide +kernel
theorem dX4_areBlockersDone_17 : decode cX4_areBlockersDone 17 = .ok (.iload_n 2, 1) := by decide +kernel
theorem dX4_areBlockersDone_18 : decode cX4_areBlockersDone 18 = .ok (.invokevirtual 150, 3) := by decide +kernel
theorem dX4_areBlockersDone_21 : decode cX4_areBlockersDone 21 = .ok (.checkcast 72, 3) := by decide +kernel
theorem dX4_areBlockersDone_24 : decode cX4_areBlockersDone 24 = .ok (.astore_n 3, 1) := by decide +kernel
theorem dX4_areBlockersDone_25 : decode cX4_areBlockersDone 25 = .ok (.aload_n 1, 1) := by decide +kernel
theorem dX4_areBlockersDone_26 : decode cX4_areBlockersDone 26 = .ok (.aload_n 3, 1) := by decide +kernel
theorem dX4_areBlockersDone_27 : decode cX4_areBlockersDone 27 = .ok (.invokevirtual 94, 3) := by decide +kernel
theorem dX4_areBlockersDone_30 : decode cX4_areBlockersDone 30 = .ok (.ifCond .eq 14, 3) := by decide +kernel
theorem dX4_areBlockersDone_33 : decode cX4_areBlockersDone 33 = .ok (.aload_n 3, 1) := by decide +kernel
theorem dX4_areBlockersDone_34 : decode cX4_areBlockersDone 34 = .ok (.getfield 71, 3) := by decide +kernel
theorem dX4_areBlockersDone_37 : decode cX4_areBlockersDone 37 = .ok (.bipush 100, 2) := by decide +kernel
theorem dX4_areBlockersDone_39 : decode cX4_areBlockersDone 39 = .ok (.if_icmp .eq 5, 3) := by decide +kernel
theorem dX4_areBlockersDone_42 : decode cX4_areBlockersDone 42 = .ok (.iconst 0, 1) := by decide +kernel
theorem dX4_areBlockersDone_43 : decode cX4_areBlockersDone 43 = .ok (.ireturn, 1) := by decide +kernel
theorem dX4_areBlockersDone_44 : decode cX4_areBlockersDone 44 = .ok (.iinc 2 1, 3) := by decide +kernel
theorem dX4_areBlockersDone_47 : decode cX4_areBlockersDone 47 = .ok (.goto (-45), 3) := by decide +kernel
theorem dX4_areBlockersDone_50 : decode cX4_areBlockersDone 50 = .ok (.iconst 1, 1) := by decide +kernel
theorem dX4_areBlockersDone_51 : decode cX4_areBlockersDone 51 = .ok (.ireturn, 1) := by decide +kernel
set_option maxRecDepth 20000 in
theorem ggX4_areChildrenDone_Jx4a65c_size_8abf5 : GoodIn wsX4_areChildrenDone wsJx4a65c_size_8abf5 := goodIn_r _ [9, 10, 41, 42, 43] (by decide +kernel) (by decide +kernel)
set_option maxRecDepth 20000 in
theorem gX4_areChildrenDone_Jx4a65c_size_8abf5 : GoodIn wsX4_areChildrenDone (wsV RX4 62 RJx4a65c yJx4a65c_size_8abf5 wsJx4a65c_size_8abf5) := goodIn_app (goodIn_of _ (by decide +kernel)) ggX4_areChildrenDone_Jx4a65c_size_8abf5
set_option maxRecDepth 20000 in
theorem ggX4_areChildrenDone_Jx4a65c_get_915e3 : GoodIn wsX4_areChildrenDone wsJx4a65c_get_915e3 := goodIn_r _ [14, 10, 15, 16, 17, 18, 19, 20, 21, 22, 23, 24, 25, 8, 26, 27, 41, 42, 43] (by decide +kernel) (by decide +kernel)
set_option maxRecDepth 20000 in
theorem gX4_areChildrenDone_Jx4a65c_get_915e3 : GoodIn wsX4_areChildrenDone (wsV RX4 150 RJx4a65c yJx4a65c_get_915e3 wsJx4a65c_get_915e3) := goodIn_app (goodIn_of _ (by decide +kernel)) ggX4_areChildrenDone_Jx4a65c_get_915e3
theorem dX4_areChildrenDone_0 : decode cX4_areChildrenDone 0 = .ok (.iconst 0, 1) := by decide +kernel
theorem dX4_areChildrenDone_1 : decode cX4_areChildrenDone 1 = .ok (.istore_n 2, 1) := by decide +kernel
theorem dX4_areChildrenDone_2 : decode cX4_areChildrenDone 2 = .ok (.iload_n 2, 1) := by decide +kernel
theorem dX4_areChildrenDone_3 : decode cX4_areChildrenDone 3 = .ok (.aload_n 0, 1) := by decide +kernel
theorem dX4_areChildrenDone_4 : decode cX4_areChildrenDone 4 = .ok (.getfield 12, 3) := by decide +kernel
theorem dX4_areChildrenDone_7 : decode cX4_areChildrenDone 7 = .ok (.invokevirtual 62, 3) := by decide +kernel
theorem dX4_areChildrenDone_10 : decode cX4_areChildrenDone 10 = .ok (.if_icmp .ge 40, 3) := by decide +kernel
theorem dX4_areChildrenDone_13 : decode cX4_areChildrenDone 13 = .ok (.aload_n 0, 1) := by decide +kernel
theorem dX4_areChildrenDone_14 : decode cX4_areChildrenDone 14 = .ok (.getfield 12, 3) := by decide +kernel
theorem dX4_areChildrenDone_17 : decode cX4_areChildrenDone 17 = .ok (.iload_n 2, 1) := by decide +kernel
theorem dX4_areChildrenDone_18 : decode cX4_areChildrenDone 18 = .ok (.invokevirtual 150, 3) := by decide +kernel
theorem dX4_areChildrenDone_21 : decode cX4_areChildrenDone 21 = .ok (.checkcast 72, 3) := by decide +kernel
theorem dX4_areChildrenDone_24 : decode cX4_areChildrenDone 24 = .ok (.astore_n 3, 1) := by decide +kernel
theorem dX4_areChildrenDone_25 : decode cX4_areChildrenDone 25 = .ok (.aload_n 3, 1) := by decide +kernel
theorem dX4_areChildrenDone_26 : decode cX4_areChildrenDone 26 = .ok (.getfield 137, 3) := by decide +kernel
theorem dX4_areChildrenDone_29 : decode cX4_areChildrenDone 29 = .ok (.aload_n 1, 1) := by decide +kernel
theorem dX4_areChildrenDone_30 : decode cX4_areChildrenDone 30 = .ok (.if_acmp .ne 14, 3) := by decide +kernel
theorem dX4_areChildrenDone_33 : decode cX4_areChildrenDone 33 = .ok (.aload_n 3, 1) := by decide +kernel
theorem dX4_areChildrenDone_34 : decode cX4_areChildrenDone 34 = .ok (.getfield 71, 3) := by decide +kernel
theorem dX4_areChildrenDone_37 : decode cX4_areChildrenDone 37 = .ok (.bipush 100, 2) := by decide +kernel
theorem dX4_areChildrenDone_39 : decode cX4_areChildrenDone 39 = .ok (.if_icmp .eq 5, 3) := by decide +kernel
theorem dX4_areChildrenDone_42 : decode cX4_areChildrenDone 42 = .ok (.iconst 0, 1) := by decide +kernel
theorem dX4_areChildrenDone_43 : decode cX4_areChildrenDone 43 = .ok (.ireturn, 1) := by decide +kernel
theorem dX4_areChildrenDone_44 : decode cX4_areChildrenDone 44 = .ok (.iinc 2 1, 3) := by decide +kernel
theorem dX4_areChildrenDone_47 : decode cX4_areChildrenDone 47 = .ok (.goto (-45), 3) := by decide +kernel
theorem dX4_areChildrenDone_50 : decode cX4_areChildrenDone 50 = .ok (.iconst 1, 1) := by decide +kernel
theorem dX4_areChildrenDone_51 : decode cX4_areChildrenDone 51 = .ok (.ireturn, 1) := by decide +kernel
set_option maxRecDepth 20000 in
theorem ggX4_isBlockedByChain_Jx4a65c_size_8abf5 : GoodIn wsX4_isBlockedByChain wsJx4a65c_size_8abf5 := goodIn_r _ [8, 9, 46, 47, 48] (by decide +kernel) (by decide +kernel)
set_option maxRecDepth 20000 in
theorem gX4_isBlockedByChain_Jx4a65c_size_8abf5 : GoodIn wsX4_isBlockedByChain (wsV RX4 62 RJx4a65c yJx4a65c_size_8abf5 wsJx4a65c_size_8abf5) := goodIn_app (goodIn_of _ (by decide +kernel)) ggX4_isBlockedByChain_Jx4a65c_size_8abf5
set_option maxRecDepth 20000 in
theorem ggX4_isBlockedByChain_Jx4a65c_get_915e3 : GoodIn wsX4_isBlockedByChain wsJx4a65c_get_915e3 := goodIn_r _ [13, 9, 14, 15, 16, 17, 18, 19, 20, 21, 22, 23, 24, 7, 25, 26, 46, 47, 48] (by decide +kernel) (by decide +kernel)
set_option maxRecDepth 20000 in
theorem gX4_isBlockedByChain_Jx4a65c_get_915e3 : GoodIn wsX4_isBlockedByChain (wsV RX4 150 RJx4a65c yJx4a65c_get_915e3 wsJx4a65c_get_915e3) := goodIn_app (goodIn_of _ (by decide +kernel)) ggX4_isBlockedByChain_Jx4a65c_get_915e3
set_option maxRecDepth 20000 in
theorem ggX4_isBlockedByChain_X3_bit : GoodIn wsX4_isBlockedByChain wsX3_bit := goodIn_r _ [31, 32, 33, 34, 35, 36, 37, 38] (by decide +kernel) (by decide +kernel)
set_option maxRecDepth 20000 in
theorem gX4_isBlockedByChain_X3_bit : GoodIn wsX4_isBlockedByChain (wsV RX4 326 RX3 yX3_bit wsX3_bit) := goodIn_app (goodIn_of _ (by decide +kernel)) ggX4_isBlockedByChain_X3_bit
theorem dX4_isBlockedByChain_0 : decode cX4_isBlockedByChain 0 = .ok (.aload_n 1, 1) := by decide +kernel
theorem dX4_isBlockedByChain_1 : decode cX4_isBlockedByChain 1 = .ok (.getfield 110, 3) := by decide +kernel
theorem dX4_isBlockedByChain_4 : decode cX4_isBlockedByChain 4 = .ok (.istore_n 3, 1) := by decide +kernel
theorem dX4_isBlockedByChain_5 : decode cX4_isBlockedByChain 5 = .ok (.iconst 0, 1) := by decide +kernel
theorem dX4_isBlockedByChain_6 : decode cX4_isBlockedByChain 6 = .ok (.istore 4, 2) := by decide +kernel
theorem dX4_isBlockedByChain_8 : decode cX4_isBlockedByChain 8 = .ok (.iload 4, 2) := by decide +kernel
theorem dX4_isBlockedByChain_10 : decode cX4_isBlockedByChain 10 = .ok (.bipush 16, 2) := by decide +kernel
theorem dX4_isBlockedByChain_12 : decode cX4_isBlockedByChain 12 = .ok (.if_icmp .ge 62, 3) := by decide +kernel
theorem dX4_isBlockedByChain_15 : decode cX4_isBlockedByChain 15 = .ok (.iconst 0, 1) := by decide +kernel
theorem dX4_isBlockedByChain_16 : decode cX4_isBlockedByChain 16 = .ok (.istore 5, 2) := by decide +kernel
theorem dX4_isBlockedByChain_18 : decode cX4_isBlockedByChain 18 = .ok (.iload 5, 2) := by decide +kernel
theorem dX4_isBlockedByChain_20 : decode cX4_isBlockedByChain 20 = .ok (.aload_n 0, 1) := by decide +kernel
theorem dX4_isBlockedByChain_21 : decode cX4_isBlockedByChain 21 = .ok (.getfield 12, 3) := by decide +kernel
theorem dX4_isBlockedByChain_24 : decode cX4_isBlockedByChain 24 = .ok (.invokevirtual 62, 3) := by decide +kernel
theorem dX4_isBlockedByChain_27 : decode cX4_isBlockedByChain 27 = .ok (.if_icmp .ge 41, 3) := by decide +kernel
theorem dX4_isBlockedByChain_30 : decode cX4_isBlockedByChain 30 = .ok (.aload_n 0, 1) := by decide +kernel
theorem dX4_isBlockedByChain_31 : decode cX4_isBlockedByChain 31 = .ok (.getfield 12, 3) := by decide +kernel
theorem dX4_isBlockedByChain_34 : decode cX4_isBlockedByChain 34 = .ok (.iload 5, 2) := by decide +kernel
theorem dX4_isBlockedByChain_36 : decode cX4_isBlockedByChain 36 = .ok (.invokevirtual 150, 3) := by decide +kernel
theorem dX4_isBlockedByChain_39 : decode cX4_isBlockedByChain 39 = .ok (.checkcast 72, 3) := by decide +kernel
theorem dX4_isBlockedByChain_42 : decode cX4_isBlockedByChain 42 = .ok (.astore 6, 2) := by decide +kernel
theorem dX4_isBlockedByChain_44 : decode cX4_isBlockedByChain 44 = .ok (.iload_n 3, 1) := by decide +kernel
theorem dX4_isBlockedByChain_45 : decode cX4_isBlockedByChain 45 = .ok (.aload 6, 2) := by decide +kernel
theorem dX4_isBlockedByChain_47 : decode cX4_isBlockedByChain 47 = .ok (.invokevirtual 326, 3) := by decide +kernel
theorem dX4_isBlockedByChain_50 : decode cX4_isBlockedByChain 50 = .ok (.iand, 1) := by decide +kernel
theorem dX4_isBlockedByChain_51 : decode cX4_isBlockedByChain 51 = .ok (.ifCond .eq 11, 3) := by decide +kernel
theorem dX4_isBlockedByChain_54 : decode cX4_isBlockedByChain 54 = .ok (.iload_n 3, 1) := by decide +kernel
theorem dX4_isBlockedByChain_55 : decode cX4_isBlockedByChain 55 = .ok (.aload 6, 2) := by decide +kernel
theorem dX4_isBlockedByChain_57 : decode cX4_isBlockedByChain 57 = .ok (.getfield 110, 3) := by decide +kernel
theorem dX4_isBlockedByChain_60 : decode cX4_isBlockedByChain 60 = .ok (.ior, 1) := by decide +kernel
theorem dX4_isBlockedByChain_61 : decode cX4_isBlockedByChain 61 = .ok (.istore_n 3, 1) := by decide +kernel
theorem dX4_isBlockedByChain_62 : decode cX4_isBlockedByChain 62 = .ok (.iinc 5 1, 3) := by decide +kernel
theorem dX4_isBlockedByChain_65 : decode cX4_isBlockedByChain 65 = .ok (.goto (-47), 3) := by decide +kernel
theorem dX4_isBlockedByChain_68 : decode cX4_isBlockedByChain 68 = .ok (.iinc 4 1, 3) := by decide +kernel
theorem dX4_isBlockedByChain_71 : decode cX4_isBlockedByChain 71 = .ok (.goto (-63), 3) := by decide +kernel
theorem dX4_isBlockedByChain_74 : decode cX4_isBlockedByChain 74 = .ok (.iload_n 3, 1) := by decide +kernel
theorem dX4_isBlockedByChain_75 : decode cX4_isBlockedByChain 75 = .ok (.aload_n 2, 1) := by decide +kernel
theorem dX4_isBlockedByChain_76 : decode cX4_isBlockedByChain 76 = .ok (.invokevirtual 326, 3) := by decide +kernel
theorem dX4_isBlockedByChain_79 : decode cX4_isBlockedByChain 79 = .ok (.iand, 1) := by decide +kernel
theorem dX4_isBlockedByChain_80 : decode cX4_isBlockedByChain 80 = .ok (.ifCond .eq 7, 3) := by decide +kernel
theorem dX4_isBlockedByChain_83 : decode cX4_isBlockedByChain 83 = .ok (.iconst 1, 1) := by decide +kernel
theorem dX4_isBlockedByChain_84 : decode cX4_isBlockedByChain 84 = .ok (.goto 4, 3) := by decide +kernel
theorem dX4_isBlockedByChain_87 : decode cX4_isBlockedByChain 87 = .ok (.iconst 0, 1) := by decide +kernel
theorem dX4_isBlockedByChain_88 : decode cX4_isBlockedByChain 88 = .ok (.ireturn, 1) := by decide +kernel
set_option maxRecDepth 20000 in
theorem ggX4_treeHours_Jx4a65c_size_8abf5 : GoodIn wsX4_treeHours wsJx4a65c_size_8abf5 := goodIn_r _ [9, 10, 48, 49, 50] (by decide +kernel) (by decide +kernel)
set_option maxRecDepth 20000 in
theorem gX4_treeHours_Jx4a65c_size_8abf5 : GoodIn wsX4_treeHours (wsV RX4 62 RJx4a65c yJx4a65c_size_8abf5 wsJx4a65c_size_8abf5) := goodIn_app (goodIn_of _ (by decide +kernel)) ggX4_treeHours_Jx4a65c_size_8abf5
set_option maxRecDepth 20000 in
theorem ggX4_treeHours_Jx4a65c_get_915e3 : GoodIn wsX4_treeHours wsJx4a65c_get_915e3 := goodIn_r _ [14, 10, 15, 16, 17, 18, 19, 20, 21, 22, 23, 24, 25, 8, 26, 27, 48, 49, 50] (by decide +kernel) (by decide +kernel)
set_option maxRecDepth 20000 in
theorem gX4_treeHours_Jx4a65c_get_915e3 : GoodIn wsX4_treeHours (wsV RX4 150 RJx4a65c yJx4a65c_get_915e3 wsJx4a65c_get_915e3) := goodIn_app (goodIn_of _ (by decide +kernel)) ggX4_treeHours_Jx4a65c_get_915e3
set_option maxRecDepth 20000 in
theorem ggX4_treeHours_X3_isInTreeOf : GoodIn wsX4_treeHours wsX3_isInTreeOf := goodIn_r _ [32, 33, 51, 52, 53, 54, 55, 56] (by decide +kernel) (by decide +kernel)
set_option maxRecDepth 20000 in
theorem gX4_treeHours_X3_isInTreeOf : GoodIn wsX4_treeHours (wsV RX4 154 RX3 yX3_isInTreeOf wsX3_isInTreeOf) := goodIn_app (goodIn_of _ (by decide +kernel)) ggX4_treeHours_X3_isInTreeOf
theorem dX4_treeHours_0 : decode cX4_treeHours 0 = .ok (.iconst 0, 1) := by decide +kernel
theorem dX4_treeHours_1 : decode cX4_treeHours 1 = .ok (.istore_n 2, 1) := by decide +kernel
theorem dX4_treeHours_2 : decode cX4_treeHours 2 = .ok (.iconst 0, 1) := by decide +kernel
theorem dX4_treeHours_3 : decode cX4_treeHours 3 = .ok (.istore_n 3, 1) := by decide +kernel
theorem dX4_treeHours_4 : decode cX4_treeHours 4 = .ok (.iload_n 3, 1) := by decide +kernel
theorem dX4_treeHours_5 : decode cX4_treeHours 5 = .ok (.aload_n 0, 1) := by decide +kernel
theorem dX4_treeHours_6 : decode cX4_treeHours 6 = .ok (.getfield 16, 3) := by decide +kernel
theorem dX4_treeHours_9 : decode cX4_treeHours 9 = .ok (.invokevirtual 62, 3) := by decide +kernel
theorem dX4_treeHours_12 : decode cX4_treeHours 12 = .ok (.if_icmp .ge 42, 3) := by decide +kernel
theorem dX4_treeHours_15 : decode cX4_treeHours 15 = .ok (.aload_n 0, 1) := by decide +kernel
theorem dX4_treeHours_16 : decode cX4_treeHours 16 = .ok (.getfield 16, 3) := by decide +kernel
theorem dX4_treeHours_19 : decode cX4_treeHours 19 = .ok (.iload_n 3, 1) := by decide +kernel
theorem dX4_treeHours_20 : decode cX4_treeHours 20 = .ok (.invokevirtual 150, 3) := by decide +kernel
theorem dX4_treeHours_23 : decode cX4_treeHours 23 = .ok (.checkcast 178, 3) := by decide +kernel
theorem dX4_treeHours_26 : decode cX4_treeHours 26 = .ok (.astore 4, 2) := by decide +kernel
theorem dX4_treeHours_28 : decode cX4_treeHours 28 = .ok (.aload 4, 2) := by decide +kernel
theorem dX4_treeHours_30 : decode cX4_treeHours 30 = .ok (.getfield 329, 3) := by decide +kernel
theorem dX4_treeHours_33 : decode cX4_treeHours 33 = .ok (.aload_n 1, 1) := by decide +kernel
theorem dX4_treeHours_34 : decode cX4_treeHours 34 = .ok (.invokevirtual 154, 3) := by decide +kernel
theorem dX4_treeHours_37 : decode cX4_treeHours 37 = .ok (.ifCond .eq 11, 3) := by decide +kernel
theorem dX4_treeHours_40 : decode cX4_treeHours 40 = .ok (.iload_n 2, 1) := by decide +kernel
theorem dX4_treeHours_41 : decode cX4_treeHours 41 = .ok (.aload 4, 2) := by decide +kernel
theorem dX4_treeHours_43 : decode cX4_treeHours 43 = .ok (.getfield 300, 3) := by decide +kernel
theorem dX4_treeHours_46 : decode cX4_treeHours 46 = .ok (.iadd, 1) := by decide +kernel
theorem dX4_treeHours_47 : decode cX4_treeHours 47 = .ok (.istore_n 2, 1) := by decide +kernel
theorem dX4_treeHours_48 : decode cX4_treeHours 48 = .ok (.iinc 3 1, 3) := by decide +kernel
theorem dX4_treeHours_51 : decode cX4_treeHours 51 = .ok (.goto (-47), 3) := by decide +kernel
theorem dX4_treeHours_54 : decode cX4_treeHours 54 = .ok (.iload_n 2, 1) := by decide +kernel
theorem dX4_treeHours_55 : decode cX4_treeHours 55 = .ok (.ireturn, 1) := by decide +kernel
set_option maxRecDepth 20000 in
theorem ggX4_roomOf_X4_treeHours : GoodIn wsX4_roomOf wsX4_treeHours := goodIn_r _ [11, 12, 13, 14, 15, 16, 17, 18, 19, 20, 21, 22, 23, 24, 25, 26, 27, 28, 29, 30, 31, 32, 33, 34, 35, 36, 37, 38, 39, 40, 41, 42, 43, 44, 51, 52, 53, 54, 55, 56, 57, 58, 59, 60, 61, 62, 63, 64, 65, 66, 67, 45, 46, 47, 48, 49, 50] (by decide +kernel) (by decide +kernel)
set_option maxRecDepth 20000 in
theorem gX4_roomOf_X4_treeHours : GoodIn wsX4_roomOf (wsV RX4 210 RX4 yX4_treeHours wsX4_treeHours) := goodIn_app (goodIn_of _ (by decide +kernel)) ggX4_roomOf_X4_treeHours
theorem dX4_roomOf_0 : decode cX4_roomOf 0 = .ok (.sipush 401, 3) := by decide +kernel
theorem dX4_roomOf_3 : decode cX4_roomOf 3 = .ok (.istore_n 2, 1) := by decide +kernel
theorem dX4_roomOf_4 : decode cX4_roomOf 4 = .ok (.aload_n 1, 1) := by decide +kernel
theorem dX4_roomOf_5 : decode cX4_roomOf 5 = .ok (.astore_n 3, 1) := by decide +kernel
theorem dX4_roomOf_6 : decode cX4_roomOf 6 = .ok (.aload_n 3, 1) := by decide +kernel
theorem dX4_roomOf_7 : decode cX4_roomOf 7 = .ok (.ifnull 33, 3) := by decide +kernel
theorem dX4_roomOf_10 : decode cX4_roomOf 10 = .ok (.aload_n 3, 1) := by decide +kernel
theorem dX4_roomOf_11 : decode cX4_roomOf 11 = .ok (.getfield 332, 3) := by decide +kernel
theorem dX4_roomOf_14 : decode cX4_roomOf 14 = .ok (.ifCond .eq 18, 3) := by decide +kernel
theorem dX4_roomOf_17 : decode cX4_roomOf 17 = .ok (.iload_n 2, 1) := by decide +kernel
theorem dX4_roomOf_18 : decode cX4_roomOf 18 = .ok (.aload_n 3, 1) := by decide +kernel
theorem dX4_roomOf_19 : decode cX4_roomOf 19 = .ok (.getfield 332, 3) := by decide +kernel
theorem dX4_roomOf_22 : decode cX4_roomOf 22 = .ok (.aload_n 0, 1) := by decide +kernel
theorem dX4_roomOf_23 : decode cX4_roomOf 23 = .ok (.aload_n 3, 1) := by decide +kernel
theorem dX4_roomOf_24 : decode cX4_roomOf 24 = .ok (.invokevirtual 210, 3) := by decide +kernel
theorem dX4_roomOf_27 : decode cX4_roomOf 27 = .ok (.isub, 1) := by decide +kernel
theorem dX4_roomOf_28 : decode cX4_roomOf 28 = .ok (.invokestatic 335, 3) := by decide +kernel
theorem dX4_roomOf_31 : decode cX4_roomOf 31 = .ok (.istore_n 2, 1) := by decide +kernel
theorem dX4_roomOf_32 : decode cX4_roomOf 32 = .ok (.aload_n 3, 1) := by decide +kernel
theorem dX4_roomOf_33 : decode cX4_roomOf 33 = .ok (.getfield 137, 3) := by decide +kernel
theorem dX4_roomOf_36 : decode cX4_roomOf 36 = .ok (.astore_n 3, 1) := by decide +kernel
theorem dX4_roomOf_37 : decode cX4_roomOf 37 = .ok (.goto (-31), 3) := by decide +kernel
theorem dX4_roomOf_40 : decode cX4_roomOf 40 = .ok (.iload_n 2, 1) := by decide +kernel
theorem dX4_roomOf_41 : decode cX4_roomOf 41 = .ok (.ireturn, 1) := by decide +kernel
set_option maxRecDepth 20000 in
theorem ggX4_leftOf_Jx4a65c_size_8abf5 : GoodIn wsX4_leftOf wsJx4a65c_size_8abf5 := goodIn_r _ [14, 15, 53, 54, 55] (by decide +kernel) (by decide +kernel)
set_option maxRecDepth 20000 in
theorem gX4_leftOf_Jx4a65c_size_8abf5 : GoodIn wsX4_leftOf (wsV RX4 62 RJx4a65c yJx4a65c_size_8abf5 wsJx4a65c_size_8abf5) := goodIn_app (goodIn_of _ (by decide +kernel)) ggX4_leftOf_Jx4a65c_size_8abf5
set_option maxRecDepth 20000 in
theorem ggX4_leftOf_Jx4a65c_get_915e3 : GoodIn wsX4_leftOf wsJx4a65c_get_915e3 := goodIn_r _ [19, 15, 20, 21, 22, 23, 24, 25, 26, 27, 28, 29, 30, 13, 31, 32, 53, 54, 55] (by decide +kernel) (by decide +kernel)
set_option maxRecDepth 20000 in
theorem gX4_leftOf_Jx4a65c_get_915e3 : GoodIn wsX4_leftOf (wsV RX4 150 RJx4a65c yJx4a65c_get_915e3 wsJx4a65c_get_915e3) := goodIn_app (goodIn_of _ (by decide +kernel)) ggX4_leftOf_Jx4a65c_get_915e3
theorem dX4_leftOf_0 : decode cX4_leftOf 0 = .ok (.aload_n 1, 1) := by decide +kernel
theorem dX4_leftOf_1 : decode cX4_leftOf 1 = .ok (.getfield 338, 3) := by decide +kernel
theorem dX4_leftOf_4 : decode cX4_leftOf 4 = .ok (.istore_n 2, 1) := by decide +kernel
theorem dX4_leftOf_5 : decode cX4_leftOf 5 = .ok (.iconst 0, 1) := by decide +kernel
theorem dX4_leftOf_6 : decode cX4_leftOf 6 = .ok (.istore_n 3, 1) := by decide +kernel
theorem dX4_leftOf_7 : decode cX4_leftOf 7 = .ok (.iload_n 3, 1) := by decide +kernel
theorem dX4_leftOf_8 : decode cX4_leftOf 8 = .ok (.aload_n 0, 1) := by decide +kernel
theorem dX4_leftOf_9 : decode cX4_leftOf 9 = .ok (.getfield 16, 3) := by decide +kernel
theorem dX4_leftOf_12 : decode cX4_leftOf 12 = .ok (.invokevirtual 62, 3) := by decide +kernel
theorem dX4_leftOf_15 : decode cX4_leftOf 15 = .ok (.if_icmp .ge 39, 3) := by decide +kernel
theorem dX4_leftOf_18 : decode cX4_leftOf 18 = .ok (.aload_n 0, 1) := by decide +kernel
theorem dX4_leftOf_19 : decode cX4_leftOf 19 = .ok (.getfield 16, 3) := by decide +kernel
theorem dX4_leftOf_22 : decode cX4_leftOf 22 = .ok (.iload_n 3, 1) := by decide +kernel
theorem dX4_leftOf_23 : decode cX4_leftOf 23 = .ok (.invokevirtual 150, 3) := by decide +kernel
theorem dX4_leftOf_26 : decode cX4_leftOf 26 = .ok (.checkcast 178, 3) := by decide +kernel
theorem dX4_leftOf_29 : decode cX4_leftOf 29 = .ok (.astore 4, 2) := by decide +kernel
theorem dX4_leftOf_31 : decode cX4_leftOf 31 = .ok (.aload 4, 2) := by decide +kernel
theorem dX4_leftOf_33 : decode cX4_leftOf 33 = .ok (.getfield 329, 3) := by decide +kernel
theorem dX4_leftOf_36 : decode cX4_leftOf 36 = .ok (.aload_n 1, 1) := by decide +kernel
theorem dX4_leftOf_37 : decode cX4_leftOf 37 = .ok (.if_acmp .ne 11, 3) := by decide +kernel
theorem dX4_leftOf_40 : decode cX4_leftOf 40 = .ok (.iload_n 2, 1) := by decide +kernel
theorem dX4_leftOf_41 : decode cX4_leftOf 41 = .ok (.aload 4, 2) := by decide +kernel
theorem dX4_leftOf_43 : decode cX4_leftOf 43 = .ok (.getfield 300, 3) := by decide +kernel
theorem dX4_leftOf_46 : decode cX4_leftOf 46 = .ok (.isub, 1) := by decide +kernel
theorem dX4_leftOf_47 : decode cX4_leftOf 47 = .ok (.istore_n 2, 1) := by decide +kernel
theorem dX4_leftOf_48 : decode cX4_leftOf 48 = .ok (.iinc 3 1, 3) := by decide +kernel
theorem dX4_leftOf_51 : decode cX4_leftOf 51 = .ok (.goto (-44), 3) := by decide +kernel
theorem dX4_leftOf_54 : decode cX4_leftOf 54 = .ok (.iload_n 2, 1) := by decide +kernel
theorem dX4_leftOf_55 : decode cX4_leftOf 55 = .ok (.iconst 0, 1) := by decide +kernel
theorem dX4_leftOf_56 : decode cX4_leftOf 56 = .ok (.invokestatic 229, 3) := by decide +kernel
theorem dX4_leftOf_59 : decode cX4_leftOf 59 = .ok (.ireturn, 1) := by decide +kernel
set_option maxRecDepth 20000 in
theorem ggX4_paceHours_Jx4a65c_size_8abf5 : GoodIn wsX4_paceHours wsJx4a65c_size_8abf5 := goodIn_r _ [9, 10, 42, 43, 44] (by decide +kernel) (by decide +kernel)
set_option maxRecDepth 20000 in
theorem gX4_paceHours_Jx4a65c_size_8abf5 : GoodIn wsX4_paceHours (wsV RX4 62 RJx4a65c yJx4a65c_size_8abf5 wsJx4a65c_size_8abf5) := goodIn_app (goodIn_of _ (by decide +kernel)) ggX4_paceHours_Jx4a65c_size_8abf5
set_option maxRecDepth 20000 in
theorem ggX4_paceHours_Jx4a65c_get_915e3 : GoodIn wsX4_paceHours wsJx4a65c_get_915e3 := goodIn_r _ [14, 10, 15, 16, 17, 18, 19, 20, 21, 22, 23, 24, 25, 8, 26, 27, 42, 43, 44] (by decide +kernel) (by decide +kernel)
set_option maxRecDepth 20000 in
theorem gX4_paceHours_Jx4a65c_get_915e3 : GoodIn wsX4_paceHours (wsV RX4 150 RJx4a65c yJx4a65c_get_915e3 wsJx4a65c_get_915e3) := goodIn_app (goodIn_of _ (by decide +kernel)) ggX4_paceHours_Jx4a65c_get_915e3
theorem dX4_paceHours_0 : decode cX4_paceHours 0 = .ok (.iconst 0, 1) := by decide +kernel
theorem dX4_paceHours_1 : decode cX4_paceHours 1 = .ok (.istore_n 2, 1) := by decide +kernel
theorem dX4_paceHours_2 : decode cX4_paceHours 2 = .ok (.iconst 0, 1) := by decide +kernel
theorem dX4_paceHours_3 : decode cX4_paceHours 3 = .ok (.istore_n 3, 1) := by decide +kernel
theorem dX4_paceHours_4 : decode cX4_paceHours 4 = .ok (.iload_n 3, 1) := by decide +kernel
theorem dX4_paceHours_5 : decode cX4_paceHours 5 = .ok (.aload_n 0, 1) := by decide +kernel
theorem dX4_paceHours_6 : decode cX4_paceHours 6 = .ok (.getfield 16, 3) := by decide +kernel
theorem dX4_paceHours_9 : decode cX4_paceHours 9 = .ok (.invokevirtual 62, 3) := by decide +kernel
theorem dX4_paceHours_12 : decode cX4_paceHours 12 = .ok (.if_icmp .ge 50, 3) := by decide +kernel
theorem dX4_paceHours_15 : decode cX4_paceHours 15 = .ok (.aload_n 0, 1) := by decide +kernel
theorem dX4_paceHours_16 : decode cX4_paceHours 16 = .ok (.getfield 16, 3) := by decide +kernel
theorem dX4_paceHours_19 : decode cX4_paceHours 19 = .ok (.iload_n 3, 1) := by decide +kernel
theorem dX4_paceHours_20 : decode cX4_paceHours 20 = .ok (.invokevirtual 150, 3) := by decide +kernel
theorem dX4_paceHours_23 : decode cX4_paceHours 23 = .ok (.checkcast 178, 3) := by decide +kernel
theorem dX4_paceHours_26 : decode cX4_paceHours 26 = .ok (.astore 4, 2) := by decide +kernel
theorem dX4_paceHours_28 : decode cX4_paceHours 28 = .ok (.aload 4, 2) := by decide +kernel
theorem dX4_paceHours_30 : decode cX4_paceHours 30 = .ok (.getfield 190, 3) := by decide +kernel
theorem dX4_paceHours_33 : decode cX4_paceHours 33 = .ok (.iload_n 1, 1) := by decide +kernel
theorem dX4_paceHours_34 : decode cX4_paceHours 34 = .ok (.if_icmp .gt 22, 3) := by decide +kernel
theorem dX4_paceHours_37 : decode cX4_paceHours 37 = .ok (.aload 4, 2) := by decide +kernel
theorem dX4_paceHours_39 : decode cX4_paceHours 39 = .ok (.getfield 190, 3) := by decide +kernel
theorem dX4_paceHours_42 : decode cX4_paceHours 42 = .ok (.iload_n 1, 1) := by decide +kernel
theorem dX4_paceHours_43 : decode cX4_paceHours 43 = .ok (.iconst 3, 1) := by decide +kernel
theorem dX4_paceHours_44 : decode cX4_paceHours 44 = .ok (.isub, 1) := by decide +kernel
theorem dX4_paceHours_45 : decode cX4_paceHours 45 = .ok (.if_icmp .le 11, 3) := by decide +kernel
theorem dX4_paceHours_48 : decode cX4_paceHours 48 = .ok (.iload_n 2, 1) := by decide +kernel
theorem dX4_paceHours_49 : decode cX4_paceHours 49 = .ok (.aload 4, 2) := by decide +kernel
theorem dX4_paceHours_51 : decode cX4_paceHours 51 = .ok (.getfield 300, 3) := by decide +kernel
theorem dX4_paceHours_54 : decode cX4_paceHours 54 = .ok (.iadd, 1) := by decide +kernel
theorem dX4_paceHours_55 : decode cX4_paceHours 55 = .ok (.istore_n 2, 1) := by decide +kernel
theorem dX4_paceHours_56 : decode cX4_paceHours 56 = .ok (.iinc 3 1, 3) := by decide +kernel
theorem dX4_paceHours_59 : decode cX4_paceHours 59 = .ok (.goto (-55), 3) := by decide +kernel
theorem dX4_paceHours_62 : decode cX4_paceHours 62 = .ok (.iload_n 2, 1) := by decide +kernel
theorem dX4_paceHours_63 : decode cX4_paceHours 63 = .ok (.ireturn, 1) := by decide +kernel
theorem dX4_isLocked_0 : decode cX4_isLocked 0 = .ok (.aload_n 0, 1) := by decide +kernel
theorem dX4_isLocked_1 : decode cX4_isLocked 1 = .ok (.getfield 44, 3) := by decide +kernel
theorem dX4_isLocked_4 : decode cX4_isLocked 4 = .ok (.iconst 1, 1) := by decide +kernel
theorem dX4_isLocked_5 : decode cX4_isLocked 5 = .ok (.iload_n 1, 1) := by decide +kernel
theorem dX4_isLocked_6 : decode cX4_isLocked 6 = .ok (.ishl, 1) := by decide +kernel
theorem dX4_isLocked_7 : decode cX4_isLocked 7 = .ok (.iand, 1) := by decide +kernel
theorem dX4_isLocked_8 : decode cX4_isLocked 8 = .ok (.ifCond .eq 7, 3) := by decide +kernel
theorem dX4_isLocked_11 : decode cX4_isLocked 11 = .ok (.iconst 1, 1) := by decide +kernel
theorem dX4_isLocked_12 : decode cX4_isLocked 12 = .ok (.goto 4, 3) := by decide +kernel
theorem dX4_isLocked_15 : decode cX4_isLocked 15 = .ok (.iconst 0, 1) := by decide +kernel
theorem dX4_isLocked_16 : decode cX4_isLocked 16 = .ok (.ireturn, 1) := by decide +kernel
set_option maxRecDepth 20000 in
theorem ggX4_approvedHours_Jx4a65c_size_8abf5 : GoodIn wsX4_approvedHours wsJx4a65c_size_8abf5 := goodIn_r _ [10, 11, 43, 44, 45] (by decide +kernel) (by decide +kernel)
set_option maxRecDepth 20000 in
theorem gX4_approvedHours_Jx4a65c_size_8abf5 : GoodIn wsX4_approvedHours (wsV RX4 62 RJx4a65c yJx4a65c_size_8abf5 wsJx4a65c_size_8abf5) := goodIn_app (goodIn_of _ (by decide +kernel)) ggX4_approvedHours_Jx4a65c_size_8abf5
set_option maxRecDepth 20000 in
theorem ggX4_approvedHours_Jx4a65c_get_915e3 : GoodIn wsX4_approvedHours wsJx4a65c_get_915e3 := goodIn_r _ [15, 11, 16, 17, 18, 19, 20, 21, 22, 23, 24, 25, 26, 9, 27, 28, 43, 44, 45] (by decide +kernel) (by decide +kernel)
set_option maxRecDepth 20000 in
theorem gX4_approvedHours_Jx4a65c_get_915e3 : GoodIn wsX4_approvedHours (wsV RX4 150 RJx4a65c yJx4a65c_get_915e3 wsJx4a65c_get_915e3) := goodIn_app (goodIn_of _ (by decide +kernel)) ggX4_approvedHours_Jx4a65c_get_915e3
theorem dX4_approvedHours_0 : decode cX4_approvedHours 0 = .ok (.iconst 0, 1) := by decide +kernel
theorem dX4_approvedHours_1 : decode cX4_approvedHours 1 = .ok (.istore_n 2, 1) := by decide +kernel
theorem dX4_approvedHours_2 : decode cX4_approvedHours 2 = .ok (.iconst 0, 1) := by decide +kernel
theorem dX4_approvedHours_3 : decode cX4_approvedHours 3 = .ok (.istore_n 3, 1) := by decide +kernel
theorem dX4_approvedHours_4 : decode cX4_approvedHours 4 = .ok (.iload_n 3, 1) := by decide +kernel
theorem dX4_approvedHours_5 : decode cX4_approvedHours 5 = .ok (.aload_n 0, 1) := by decide +kernel
theorem dX4_approvedHours_6 : decode cX4_approvedHours 6 = .ok (.getfield 16, 3) := by decide +kernel
theorem dX4_approvedHours_9 : decode cX4_approvedHours 9 = .ok (.invokevirtual 62, 3) := by decide +kernel
theorem dX4_approvedHours_12 : decode cX4_approvedHours 12 = .ok (.if_icmp .ge 49, 3) := by decide +kernel
theorem dX4_approvedHours_15 : decode cX4_approvedHours 15 = .ok (.aload_n 0, 1) := by decide +kernel
theorem dX4_approvedHours_16 : decode cX4_approvedHours 16 = .ok (.getfield 16, 3) := by decide +kernel
theorem dX4_approvedHours_19 : decode cX4_approvedHours 19 = .ok (.iload_n 3, 1) := by decide +kernel
theorem dX4_approvedHours_20 : decode cX4_approvedHours 20 = .ok (.invokevirtual 150, 3) := by decide +kernel
theorem dX4_approvedHours_23 : decode cX4_approvedHours 23 = .ok (.checkcast 178, 3) := by decide +kernel
theorem dX4_approvedHours_26 : decode cX4_approvedHours 26 = .ok (.astore 4, 2) := by decide +kernel
theorem dX4_approvedHours_28 : decode cX4_approvedHours 28 = .ok (.aload 4, 2) := by decide +kernel
theorem dX4_approvedHours_30 : decode cX4_approvedHours 30 = .ok (.getfield 190, 3) := by decide +kernel
theorem dX4_approvedHours_33 : decode cX4_approvedHours 33 = .ok (.iload_n 1, 1) := by decide +kernel
theorem dX4_approvedHours_34 : decode cX4_approvedHours 34 = .ok (.if_icmp .ne 21, 3) := by decide +kernel
theorem dX4_approvedHours_37 : decode cX4_approvedHours 37 = .ok (.aload 4, 2) := by decide +kernel
theorem dX4_approvedHours_39 : decode cX4_approvedHours 39 = .ok (.getfield 187, 3) := by decide +kernel
theorem dX4_approvedHours_42 : decode cX4_approvedHours 42 = .ok (.bipush 97, 2) := by decide +kernel
theorem dX4_approvedHours_44 : decode cX4_approvedHours 44 = .ok (.if_icmp .ne 11, 3) := by decide +kernel
theorem dX4_approvedHours_47 : decode cX4_approvedHours 47 = .ok (.iload_n 2, 1) := by decide +kernel
theorem dX4_approvedHours_48 : decode cX4_approvedHours 48 = .ok (.aload 4, 2) := by decide +kernel
theorem dX4_approvedHours_50 : decode cX4_approvedHours 50 = .ok (.getfield 300, 3) := by decide +kernel
theorem dX4_approvedHours_53 : decode cX4_approvedHours 53 = .ok (.iadd, 1) := by decide +kernel
theorem dX4_approvedHours_54 : decode cX4_approvedHours 54 = .ok (.istore_n 2, 1) := by decide +kernel
theorem dX4_approvedHours_55 : decode cX4_approvedHours 55 = .ok (.iinc 3 1, 3) := by decide +kernel
theorem dX4_approvedHours_58 : decode cX4_approvedHours 58 = .ok (.goto (-54), 3) := by decide +kernel
theorem dX4_approvedHours_61 : decode cX4_approvedHours 61 = .ok (.iload_n 2, 1) := by decide +kernel
theorem dX4_approvedHours_62 : decode cX4_approvedHours 62 = .ok (.ireturn, 1) := by decide +kernel
set_option maxRecDepth 20000 in
theorem ggX4_dropNotedEntries_Jx4a65c_size_8abf5 : GoodIn wsX4_dropNotedEntries wsJx4a65c_size_8abf5 := goodIn_r _ [9, 10, 42, 43, 44] (by decide +kernel) (by decide +kernel)
set_option maxRecDepth 20000 in
theorem gX4_dropNotedEntries_Jx4a65c_size_8abf5 : GoodIn wsX4_dropNotedEntries (wsV RX4 62 RJx4a65c yJx4a65c_size_8abf5 wsJx4a65c_size_8abf5) := goodIn_app (goodIn_of _ (by decide +kernel)) ggX4_dropNotedEntries_Jx4a65c_size_8abf5
set_option maxRecDepth 20000 in
theorem ggX4_dropNotedEntries_Jx4a65c_get_915e3 : GoodIn wsX4_dropNotedEntries wsJx4a65c_get_915e3 := goodIn_r _ [14, 10, 15, 16, 17, 18, 19, 20, 21, 22, 23, 24, 25, 8, 26, 27, 42, 43, 44] (by decide +kernel) (by decide +kernel)
set_option maxRecDepth 20000 in
theorem gX4_dropNotedEntries_Jx4a65c_get_915e3 : GoodIn wsX4_dropNotedEntries (wsV RX4 150 RJx4a65c yJx4a65c_get_915e3 wsJx4a65c_get_915e3) := goodIn_app (goodIn_of _ (by decide +kernel)) ggX4_dropNotedEntries_Jx4a65c_get_915e3
theorem dX4_dropNotedEntries_0 : decode cX4_dropNotedEntries 0 = .ok (.iconst 0, 1) := by decide +kernel
theorem dX4_dropNotedEntries_1 : decode cX4_dropNotedEntries 1 = .ok (.istore_n 2, 1) := by decide +kernel
theorem dX4_dropNotedEntries_2 : decode cX4_dropNotedEntries 2 = .ok (.iconst 0, 1) := by decide +kernel
theorem dX4_dropNotedEntries_3 : decode cX4_dropNotedEntries 3 = .ok (.istore_n 3, 1) := by decide +kernel
theorem dX4_dropNotedEntries_4 : decode cX4_dropNotedEntries 4 = .ok (.iload_n 3, 1) := by decide +kernel
theorem dX4_dropNotedEntries_5 : decode cX4_dropNotedEntries 5 = .ok (.aload_n 0, 1) := by decide +kernel
theorem dX4_dropNotedEntries_6 : decode cX4_dropNotedEntries 6 = .ok (.getfield 16, 3) := by decide +kernel
theorem dX4_dropNotedEntries_9 : decode cX4_dropNotedEntries 9 = .ok (.invokevirtual 62, 3) := by decide +kernel
theorem dX4_dropNotedEntries_12 : decode cX4_dropNotedEntries 12 = .ok (.if_icmp .ge 51, 3) := by decide +kernel
theorem dX4_dropNotedEntries_15 : decode cX4_dropNotedEntries 15 = .ok (.aload_n 0, 1) := by decide +kernel
theorem dX4_dropNotedEntries_16 : decode cX4_dropNotedEntries 16 = .ok (.getfield 16, 3) := by decide +kernel
theorem dX4_dropNotedEntries_19 : decode cX4_dropNotedEntries 19 = .ok (.iload_n 3, 1) := by decide +kernel
theorem dX4_dropNotedEntries_20 : decode cX4_dropNotedEntries 20 = .ok (.invokevirtual 150, 3) := by decide +kernel
theorem dX4_dropNotedEntries_23 : decode cX4_dropNotedEntries 23 = .ok (.checkcast 178, 3) := by decide +kernel
theorem dX4_dropNotedEntries_26 : decode cX4_dropNotedEntries 26 = .ok (.astore 4, 2) := by decide +kernel
theorem dX4_dropNotedEntries_28 : decode cX4_dropNotedEntries 28 = .ok (.aload 4, 2) := by decide +kernel
theorem dX4_dropNotedEntries_30 : decode cX4_dropNotedEntries 30 = .ok (.getfield 190, 3) := by decide +kernel
theorem dX4_dropNotedEntries_33 : decode cX4_dropNotedEntries 33 = .ok (.iload_n 1, 1) := by decide +kernel
theorem dX4_dropNotedEntries_34 : decode cX4_dropNotedEntries 34 = .ok (.if_icmp .ne 23, 3) := by decide +kernel
theorem dX4_dropNotedEntries_37 : decode cX4_dropNotedEntries 37 = .ok (.aload 4, 2) := by decide +kernel
theorem dX4_dropNotedEntries_39 : decode cX4_dropNotedEntries 39 = .ok (.getfield 187, 3) := by decide +kernel
theorem dX4_dropNotedEntries_42 : decode cX4_dropNotedEntries 42 = .ok (.bipush 110, 2) := by decide +kernel
theorem dX4_dropNotedEntries_44 : decode cX4_dropNotedEntries 44 = .ok (.if_icmp .ne 13, 3) := by decide +kernel
theorem dX4_dropNotedEntries_47 : decode cX4_dropNotedEntries 47 = .ok (.aload 4, 2) := by decide +kernel
theorem dX4_dropNotedEntries_49 : decode cX4_dropNotedEntries 49 = .ok (.bipush 120, 2) := by decide +kernel
theorem dX4_dropNotedEntries_51 : decode cX4_dropNotedEntries 51 = .ok (.putfield 187, 3) := by decide +kernel
theorem dX4_dropNotedEntries_54 : decode cX4_dropNotedEntries 54 = .ok (.iinc 2 1, 3) := by decide +kernel
theorem dX4_dropNotedEntries_57 : decode cX4_dropNotedEntries 57 = .ok (.iinc 3 1, 3) := by decide +kernel
theorem dX4_dropNotedEntries_60 : decode cX4_dropNotedEntries 60 = .ok (.goto (-56), 3) := by decide +kernel
theorem dX4_dropNotedEntries_63 : decode cX4_dropNotedEntries 63 = .ok (.iload_n 2, 1) := by decide +kernel
theorem dX4_dropNotedEntries_64 : decode cX4_dropNotedEntries 64 = .ok (.ireturn, 1) := by decide +kernel
set_option maxRecDepth 20000 in
theorem ggX4_isToInvoice_X3_isInTreeOf : GoodIn wsX4_isToInvoice wsX3_isInTreeOf := goodIn_r _ [9, 10, 18, 19, 20, 21, 22, 23] (by decide +kernel) (by decide +kernel)
set_option maxRecDepth 20000 in
theorem gX4_isToInvoice_X3_isInTreeOf : GoodIn wsX4_isToInvoice (wsV RX4 154 RX3 yX3_isInTreeOf wsX3_isInTreeOf) := goodIn_app (goodIn_of _ (by decide +kernel)) ggX4_isToInvoice_X3_isInTreeOf
theorem dX4_isToInvoice_0 : decode cX4_isToInvoice 0 = .ok (.aload_n 0, 1) := by decide +kernel
theorem dX4_isToInvoice_1 : decode cX4_isToInvoice 1 = .ok (.getfield 187, 3) := by decide +kernel
theorem dX4_isToInvoice_4 : decode cX4_isToInvoice 4 = .ok (.bipush 97, 2) := by decide +kernel
theorem dX4_isToInvoice_6 : decode cX4_isToInvoice 6 = .ok (.if_icmp .ne 38, 3) := by decide +kernel
theorem dX4_isToInvoice_9 : decode cX4_isToInvoice 9 = .ok (.aload_n 0, 1) := by decide +kernel
theorem dX4_isToInvoice_10 : decode cX4_isToInvoice 10 = .ok (.getfield 190, 3) := by decide +kernel
theorem dX4_isToInvoice_13 : decode cX4_isToInvoice 13 = .ok (.iload_n 2, 1) := by decide +kernel
theorem dX4_isToInvoice_14 : decode cX4_isToInvoice 14 = .ok (.if_icmp .gt 30, 3) := by decide +kernel
theorem dX4_isToInvoice_17 : decode cX4_isToInvoice 17 = .ok (.aload_n 0, 1) := by decide +kernel
theorem dX4_isToInvoice_18 : decode cX4_isToInvoice 18 = .ok (.getfield 329, 3) := by decide +kernel
theorem dX4_isToInvoice_21 : decode cX4_isToInvoice 21 = .ok (.getfield 71, 3) := by decide +kernel
theorem dX4_isToInvoice_24 : decode cX4_isToInvoice 24 = .ok (.bipush 100, 2) := by decide +kernel
theorem dX4_isToInvoice_26 : decode cX4_isToInvoice 26 = .ok (.if_icmp .ne 18, 3) := by decide +kernel
theorem dX4_isToInvoice_29 : decode cX4_isToInvoice 29 = .ok (.aload_n 0, 1) := by decide +kernel
theorem dX4_isToInvoice_30 : decode cX4_isToInvoice 30 = .ok (.getfield 329, 3) := by decide +kernel
theorem dX4_isToInvoice_33 : decode cX4_isToInvoice 33 = .ok (.aload_n 1, 1) := by decide +kernel
theorem dX4_isToInvoice_34 : decode cX4_isToInvoice 34 = .ok (.invokevirtual 154, 3) := by decide +kernel
theorem dX4_isToInvoice_37 : decode cX4_isToInvoice 37 = .ok (.ifCond .eq 7, 3) := by decide +kernel
theorem dX4_isToInvoice_40 : decode cX4_isToInvoice 40 = .ok (.iconst 1, 1) := by decide +kernel
theorem dX4_isToInvoice_41 : decode cX4_isToInvoice 41 = .ok (.goto 4, 3) := by decide +kernel
theorem dX4_isToInvoice_44 : decode cX4_isToInvoice 44 = .ok (.iconst 0, 1) := by decide +kernel
theorem dX4_isToInvoice_45 : decode cX4_isToInvoice 45 = .ok (.ireturn, 1) := by decide +kernel
set_option maxRecDepth 20000 in
theorem ggX4_hasEntryToInvoice_Jx4a65c_size_8abf5 : GoodIn wsX4_hasEntryToInvoice wsJx4a65c_size_8abf5 := goodIn_r _ [7, 8, 47, 48, 49] (by decide +kernel) (by decide +kernel)
set_option maxRecDepth 20000 in
theorem gX4_hasEntryToInvoice_Jx4a65c_size_8abf5 : GoodIn wsX4_hasEntryToInvoice (wsV RX4 62 RJx4a65c yJx4a65c_size_8abf5 wsJx4a65c_size_8abf5) := goodIn_app (goodIn_of _ (by decide +kernel)) ggX4_hasEntryToInvoice_Jx4a65c_size_8abf5
set_option maxRecDepth 20000 in
theorem ggX4_hasEntryToInvoice_Jx4a65c_get_915e3 : GoodIn wsX4_hasEntryToInvoice wsJx4a65c_get_915e3 := goodIn_r _ [12, 8, 13, 14, 15, 16, 17, 18, 19, 20, 21, 22, 23, 6, 24, 25, 47, 48, 49] (by decide +kernel) (by decide +kernel)
set_option maxRecDepth 20000 in
theorem gX4_hasEntryToInvoice_Jx4a65c_get_915e3 : GoodIn wsX4_hasEntryToInvoice (wsV RX4 150 RJx4a65c yJx4a65c_get_915e3 wsJx4a65c_get_915e3) := goodIn_app (goodIn_of _ (by decide +kernel)) ggX4_hasEntryToInvoice_Jx4a65c_get_915e3
set_option maxRecDepth 20000 in
theorem ggX4_hasEntryToInvoice_X4_isToInvoice : GoodIn wsX4_hasEntryToInvoice wsX4_isToInvoice := goodIn_r _ [29, 30, 31, 32, 33, 34, 35, 36, 37, 38, 39, 50, 51, 52, 53, 54, 55, 56, 57, 58, 59, 60, 61, 62] (by decide +kernel) (by decide +kernel)
set_option maxRecDepth 20000 in
theorem gX4_hasEntryToInvoice_X4_isToInvoice : GoodIn wsX4_hasEntryToInvoice (va_wsS RX4 341 yX4_isToInvoice wsX4_isToInvoice) := goodIn_app (goodIn_of _ (by decide +kernel)) ggX4_hasEntryToInvoice_X4_isToInvoice
theorem dX4_hasEntryToInvoice_0 : decode cX4_hasEntryToInvoice 0 = .ok (.iconst 0, 1) := by decide +kernel
theorem dX4_hasEntryToInvoice_1 : decode cX4_hasEntryToInvoice 1 = .ok (.istore_n 3, 1) := by decide +kernel
theorem dX4_hasEntryToInvoice_2 : decode cX4_hasEntryToInvoice 2 = .ok (.iload_n 3, 1) := by decide +kernel
theorem dX4_hasEntryToInvoice_3 : decode cX4_hasEntryToInvoice 3 = .ok (.aload_n 0, 1) := by decide +kernel
theorem dX4_hasEntryToInvoice_4 : decode cX4_hasEntryToInvoice 4 = .ok (.getfield 16, 3) := by decide +kernel
theorem dX4_hasEntryToInvoice_7 : decode cX4_hasEntryToInvoice 7 = .ok (.invokevirtual 62, 3) := by decide +kernel
theorem dX4_hasEntryToInvoice_10 : decode cX4_hasEntryToInvoice 10 = .ok (.if_icmp .ge 30, 3) := by decide +kernel
theorem dX4_hasEntryToInvoice_13 : decode cX4_hasEntryToInvoice 13 = .ok (.aload_n 0, 1) := by decide +kernel
theorem dX4_hasEntryToInvoice_14 : decode cX4_hasEntryToInvoice 14 = .ok (.getfield 16, 3) := by decide +kernel
theorem dX4_hasEntryToInvoice_17 : decode cX4_hasEntryToInvoice 17 = .ok (.iload_n 3, 1) := by decide +kernel
theorem dX4_hasEntryToInvoice_18 : decode cX4_hasEntryToInvoice 18 = .ok (.invokevirtual 150, 3) := by decide +kernel
theorem dX4_hasEntryToInvoice_21 : decode cX4_hasEntryToInvoice 21 = .ok (.checkcast 178, 3) := by decide +kernel
theorem dX4_hasEntryToInvoice_24 : decode cX4_hasEntryToInvoice 24 = .ok (.aload_n 1, 1) := by decide +kernel
theorem dX4_hasEntryToInvoice_25 : decode cX4_hasEntryToInvoice 25 = .ok (.iload_n 2, 1) := by decide +kernel
theorem dX4_hasEntryToInvoice_26 : decode cX4_hasEntryToInvoice 26 = .ok (.invokestatic 341, 3) := by decide +kernel
theorem dX4_hasEntryToInvoice_29 : decode cX4_hasEntryToInvoice 29 = .ok (.ifCond .eq 5, 3) := by decide +kernel
theorem dX4_hasEntryToInvoice_32 : decode cX4_hasEntryToInvoice 32 = .ok (.iconst 1, 1) := by decide +kernel
theorem dX4_hasEntryToInvoice_33 : decode cX4_hasEntryToInvoice 33 = .ok (.ireturn, 1) := by decide +kernel
theorem dX4_hasEntryToInvoice_34 : decode cX4_hasEntryToInvoice 34 = .ok (.iinc 3 1, 3) := by decide +kernel
