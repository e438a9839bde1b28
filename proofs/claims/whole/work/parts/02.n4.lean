theorem dX5_hasDoneChildren_33 : decode cX5_hasDoneChildren 33 = .ok (.iinc 2 1, 3) := by decide +kernel
theorem dX5_hasDoneChildren_36 : decode cX5_hasDoneChildren 36 = .ok (.goto (-34), 3) := by decide +kernel
theorem dX5_hasDoneChildren_39 : decode cX5_hasDoneChildren 39 = .ok (.iconst 1, 1) := by decide +kernel
theorem dX5_hasDoneChildren_40 : decode cX5_hasDoneChildren 40 = .ok (.ireturn, 1) := by decide +kernel
set_option maxRecDepth 20000 in
theorem ggX5_merge_X5_isTask : GoodIn wsX5_merge wsX5_isTask := goodIn_r _ [7, 8, 9, 10, 6, 11, 21, 22, 23, 24, 25, 26, 27, 28, 29, 30, 31, 32, 33, 34, 35, 36, 37, 38, 39, 40, 41, 42, 43, 44, 45, 46] (by decide +kernel) (by decide +kernel)
set_option maxRecDepth 20000 in
theorem gX5_merge_X5_isTask : GoodIn wsX5_merge (wsV RX5 95 RX5 yX5_isTask wsX5_isTask) := goodIn_app (goodIn_of _ (by decide +kernel)) ggX5_merge_X5_isTask
set_option maxRecDepth 20000 in
theorem ggX5_merge_X5_hasDoneChildren : GoodIn wsX5_merge wsX5_hasDoneChildren := goodIn_ca (goodIn_r _ [15, 8, 16, 1, 21, 22, 23, 24, 25, 26, 27, 28, 29, 30, 31, 32, 33, 34, 35, 36, 37, 38, 39, 40, 41, 42, 43, 44, 45, 46] (by decide +kernel) (by decide +kernel)) (goodIn_sub (fun _ h => List.mem_cons_of_mem _ (List.mem_append_right _ h)) (by decide +kernel))
set_option maxRecDepth 20000 in
theorem gX5_merge_X5_hasDoneChildren : GoodIn wsX5_merge (wsV RX5 112 RX5 yX5_hasDoneChildren wsX5_hasDoneChildren) := goodIn_app (goodIn_of _ (by decide +kernel)) ggX5_merge_X5_hasDoneChildren
set_option maxRecDepth 20000 in
theorem ggX5_merge_X5_manyIn : GoodIn wsX5_merge wsX5_manyIn := goodIn_ca (goodIn_r _ [20, 8, 1, 21, 22, 23, 24, 25, 26, 27, 28, 29, 30, 31, 32, 33, 34, 35, 36, 37, 38, 39, 40, 41, 42, 43, 44, 45, 46] (by decide +kernel) (by decide +kernel)) (goodIn_sub (fun _ h => List.mem_cons_of_mem _ (List.mem_append_right _ h)) (by decide +kernel))
set_option maxRecDepth 20000 in
theorem gX5_merge_X5_manyIn : GoodIn wsX5_merge (wsV RX5 108 RX5 yX5_manyIn wsX5_manyIn) := goodIn_app (goodIn_of _ (by decide +kernel)) ggX5_merge_X5_manyIn
theorem dX5_merge_0 : decode cX5_merge 0 = .ok (.aload_n 0, 1) := by decide +kernel
theorem dX5_merge_1 : decode cX5_merge 1 = .ok (.aload_n 0, 1) := by decide +kernel
theorem dX5_merge_2 : decode cX5_merge 2 = .ok (.iload_n 1, 1) := by decide +kernel
theorem dX5_merge_3 : decode cX5_merge 3 = .ok (.invokevirtual 95, 3) := by decide +kernel
theorem dX5_merge_6 : decode cX5_merge 6 = .ok (.ifCond .ne 7, 3) := by decide +kernel
theorem dX5_merge_9 : decode cX5_merge 9 = .ok (.iconst 1, 1) := by decide +kernel
theorem dX5_merge_10 : decode cX5_merge 10 = .ok (.goto 31, 3) := by decide +kernel
theorem dX5_merge_13 : decode cX5_merge 13 = .ok (.aload_n 0, 1) := by decide +kernel
theorem dX5_merge_14 : decode cX5_merge 14 = .ok (.getfield 19, 3) := by decide +kernel
theorem dX5_merge_17 : decode cX5_merge 17 = .ok (.iload_n 1, 1) := by decide +kernel
theorem dX5_merge_18 : decode cX5_merge 18 = .ok (.caload, 1) := by decide +kernel
theorem dX5_merge_19 : decode cX5_merge 19 = .ok (.bipush 114, 2) := by decide +kernel
theorem dX5_merge_21 : decode cX5_merge 21 = .ok (.if_icmp .eq 7, 3) := by decide +kernel
theorem dX5_merge_24 : decode cX5_merge 24 = .ok (.iconst 2, 1) := by decide +kernel
theorem dX5_merge_25 : decode cX5_merge 25 = .ok (.goto 16, 3) := by decide +kernel
theorem dX5_merge_28 : decode cX5_merge 28 = .ok (.aload_n 0, 1) := by decide +kernel
theorem dX5_merge_29 : decode cX5_merge 29 = .ok (.iload_n 1, 1) := by decide +kernel
theorem dX5_merge_30 : decode cX5_merge 30 = .ok (.invokevirtual 112, 3) := by decide +kernel
theorem dX5_merge_33 : decode cX5_merge 33 = .ok (.ifCond .ne 7, 3) := by decide +kernel
theorem dX5_merge_36 : decode cX5_merge 36 = .ok (.iconst 3, 1) := by decide +kernel
theorem dX5_merge_37 : decode cX5_merge 37 = .ok (.goto 4, 3) := by decide +kernel
theorem dX5_merge_40 : decode cX5_merge 40 = .ok (.iconst 0, 1) := by decide +kernel
theorem dX5_merge_41 : decode cX5_merge 41 = .ok (.putfield 66, 3) := by decide +kernel
theorem dX5_merge_44 : decode cX5_merge 44 = .ok (.aload_n 0, 1) := by decide +kernel
theorem dX5_merge_45 : decode cX5_merge 45 = .ok (.getfield 66, 3) := by decide +kernel
theorem dX5_merge_48 : decode cX5_merge 48 = .ok (.ifCond .le 5, 3) := by decide +kernel
theorem dX5_merge_51 : decode cX5_merge 51 = .ok (.iconst 0, 1) := by decide +kernel
theorem dX5_merge_52 : decode cX5_merge 52 = .ok (.ireturn, 1) := by decide +kernel
theorem dX5_merge_53 : decode cX5_merge 53 = .ok (.aload_n 0, 1) := by decide +kernel
theorem dX5_merge_54 : decode cX5_merge 54 = .ok (.getfield 19, 3) := by decide +kernel
theorem dX5_merge_57 : decode cX5_merge 57 = .ok (.iload_n 1, 1) := by decide +kernel
theorem dX5_merge_58 : decode cX5_merge 58 = .ok (.bipush 100, 2) := by decide +kernel
theorem dX5_merge_60 : decode cX5_merge 60 = .ok (.castore, 1) := by decide +kernel
theorem dX5_merge_61 : decode cX5_merge 61 = .ok (.aload_n 0, 1) := by decide +kernel
theorem dX5_merge_62 : decode cX5_merge 62 = .ok (.bipush 100, 2) := by decide +kernel
theorem dX5_merge_64 : decode cX5_merge 64 = .ok (.invokevirtual 108, 3) := by decide +kernel
theorem dX5_merge_67 : decode cX5_merge 67 = .ok (.ireturn, 1) := by decide +kernel
set_option maxRecDepth 20000 in
theorem ggX5_reopen_X5_isTask : GoodIn wsX5_reopen wsX5_isTask := goodIn_r _ [14, 15, 16, 17, 13, 18, 19, 20, 21, 22, 23, 24, 25, 26, 27, 28, 29, 30, 31, 32, 33, 34, 35, 36, 37, 38, 39, 40, 41, 42, 43, 44] (by decide +kernel) (by decide +kernel)
set_option maxRecDepth 20000 in
theorem gX5_reopen_X5_isTask : GoodIn wsX5_reopen (wsV RX5 95 RX5 yX5_isTask wsX5_isTask) := goodIn_app (goodIn_of _ (by decide +kernel)) ggX5_reopen_X5_isTask
theorem dX5_reopen_0 : decode cX5_reopen 0 = .ok (.aload_n 0, 1) := by decide +kernel
theorem dX5_reopen_1 : decode cX5_reopen 1 = .ok (.aload_n 0, 1) := by decide +kernel
theorem dX5_reopen_2 : decode cX5_reopen 2 = .ok (.iload_n 1, 1) := by decide +kernel
theorem dX5_reopen_3 : decode cX5_reopen 3 = .ok (.invokevirtual 95, 3) := by decide +kernel
theorem dX5_reopen_6 : decode cX5_reopen 6 = .ok (.ifCond .ne 7, 3) := by decide +kernel
theorem dX5_reopen_9 : decode cX5_reopen 9 = .ok (.iconst 1, 1) := by decide +kernel
theorem dX5_reopen_10 : decode cX5_reopen 10 = .ok (.goto 48, 3) := by decide +kernel
theorem dX5_reopen_13 : decode cX5_reopen 13 = .ok (.aload_n 0, 1) := by decide +kernel
theorem dX5_reopen_14 : decode cX5_reopen 14 = .ok (.getfield 19, 3) := by decide +kernel
theorem dX5_reopen_17 : decode cX5_reopen 17 = .ok (.iload_n 1, 1) := by decide +kernel
theorem dX5_reopen_18 : decode cX5_reopen 18 = .ok (.caload, 1) := by decide +kernel
theorem dX5_reopen_19 : decode cX5_reopen 19 = .ok (.bipush 100, 2) := by decide +kernel
theorem dX5_reopen_21 : decode cX5_reopen 21 = .ok (.if_icmp .eq 7, 3) := by decide +kernel
theorem dX5_reopen_24 : decode cX5_reopen 24 = .ok (.iconst 2, 1) := by decide +kernel
theorem dX5_reopen_25 : decode cX5_reopen 25 = .ok (.goto 33, 3) := by decide +kernel
theorem dX5_reopen_28 : decode cX5_reopen 28 = .ok (.aload_n 0, 1) := by decide +kernel
theorem dX5_reopen_29 : decode cX5_reopen 29 = .ok (.getfield 7, 3) := by decide +kernel
theorem dX5_reopen_32 : decode cX5_reopen 32 = .ok (.iload_n 1, 1) := by decide +kernel
theorem dX5_reopen_33 : decode cX5_reopen 33 = .ok (.iaload, 1) := by decide +kernel
theorem dX5_reopen_34 : decode cX5_reopen 34 = .ok (.ifCond .lt 23, 3) := by decide +kernel
theorem dX5_reopen_37 : decode cX5_reopen 37 = .ok (.aload_n 0, 1) := by decide +kernel
theorem dX5_reopen_38 : decode cX5_reopen 38 = .ok (.getfield 19, 3) := by decide +kernel
theorem dX5_reopen_41 : decode cX5_reopen 41 = .ok (.aload_n 0, 1) := by decide +kernel
theorem dX5_reopen_42 : decode cX5_reopen 42 = .ok (.getfield 7, 3) := by decide +kernel
theorem dX5_reopen_45 : decode cX5_reopen 45 = .ok (.iload_n 1, 1) := by decide +kernel
theorem dX5_reopen_46 : decode cX5_reopen 46 = .ok (.iaload, 1) := by decide +kernel
theorem dX5_reopen_47 : decode cX5_reopen 47 = .ok (.caload, 1) := by decide +kernel
theorem dX5_reopen_48 : decode cX5_reopen 48 = .ok (.bipush 100, 2) := by decide +kernel
theorem dX5_reopen_50 : decode cX5_reopen 50 = .ok (.if_icmp .ne 7, 3) := by decide +kernel
theorem dX5_reopen_53 : decode cX5_reopen 53 = .ok (.iconst 3, 1) := by decide +kernel
theorem dX5_reopen_54 : decode cX5_reopen 54 = .ok (.goto 4, 3) := by decide +kernel
theorem dX5_reopen_57 : decode cX5_reopen 57 = .ok (.iconst 0, 1) := by decide +kernel
theorem dX5_reopen_58 : decode cX5_reopen 58 = .ok (.putfield 66, 3) := by decide +kernel
theorem dX5_reopen_61 : decode cX5_reopen 61 = .ok (.aload_n 0, 1) := by decide +kernel
theorem dX5_reopen_62 : decode cX5_reopen 62 = .ok (.getfield 66, 3) := by decide +kernel
theorem dX5_reopen_65 : decode cX5_reopen 65 = .ok (.ifCond .le 5, 3) := by decide +kernel
theorem dX5_reopen_68 : decode cX5_reopen 68 = .ok (.iconst 0, 1) := by decide +kernel
theorem dX5_reopen_69 : decode cX5_reopen 69 = .ok (.ireturn, 1) := by decide +kernel
theorem dX5_reopen_70 : decode cX5_reopen 70 = .ok (.aload_n 0, 1) := by decide +kernel
theorem dX5_reopen_71 : decode cX5_reopen 71 = .ok (.getfield 19, 3) := by decide +kernel
theorem dX5_reopen_74 : decode cX5_reopen 74 = .ok (.iload_n 1, 1) := by decide +kernel
theorem dX5_reopen_75 : decode cX5_reopen 75 = .ok (.bipush 119, 2) := by decide +kernel
theorem dX5_reopen_77 : decode cX5_reopen 77 = .ok (.castore, 1) := by decide +kernel
theorem dX5_reopen_78 : decode cX5_reopen 78 = .ok (.iconst 0, 1) := by decide +kernel
theorem dX5_reopen_79 : decode cX5_reopen 79 = .ok (.istore_n 2, 1) := by decide +kernel
theorem dX5_reopen_80 : decode cX5_reopen 80 = .ok (.iconst 0, 1) := by decide +kernel
theorem dX5_reopen_81 : decode cX5_reopen 81 = .ok (.istore_n 3, 1) := by decide +kernel
theorem dX5_reopen_82 : decode cX5_reopen 82 = .ok (.iload_n 3, 1) := by decide +kernel
theorem dX5_reopen_83 : decode cX5_reopen 83 = .ok (.aload_n 0, 1) := by decide +kernel
theorem dX5_reopen_84 : decode cX5_reopen 84 = .ok (.getfield 76, 3) := by decide +kernel
theorem dX5_reopen_87 : decode cX5_reopen 87 = .ok (.if_icmp .ge 70, 3) := by decide +kernel
theorem dX5_reopen_90 : decode cX5_reopen 90 = .ok (.aload_n 0, 1) := by decide +kernel
theorem dX5_reopen_91 : decode cX5_reopen 91 = .ok (.getfield 36, 3) := by decide +kernel
theorem dX5_reopen_94 : decode cX5_reopen 94 = .ok (.iload_n 3, 1) := by decide +kernel
theorem dX5_reopen_95 : decode cX5_reopen 95 = .ok (.iaload, 1) := by decide +kernel
theorem dX5_reopen_96 : decode cX5_reopen 96 = .ok (.iload_n 1, 1) := by decide +kernel
theorem dX5_reopen_97 : decode cX5_reopen 97 = .ok (.if_icmp .ne 54, 3) := by decide +kernel
theorem dX5_reopen_100 : decode cX5_reopen 100 = .ok (.aload_n 0, 1) := by decide +kernel
theorem dX5_reopen_101 : decode cX5_reopen 101 = .ok (.getfield 23, 3) := by decide +kernel
theorem dX5_reopen_104 : decode cX5_reopen 104 = .ok (.iload_n 3, 1) := by decide +kernel
theorem dX5_reopen_105 : decode cX5_reopen 105 = .ok (.caload, 1) := by decide +kernel
theorem dX5_reopen_106 : decode cX5_reopen 106 = .ok (.bipush 98, 2) := by decide +kernel
theorem dX5_reopen_108 : decode cX5_reopen 108 = .ok (.if_icmp .eq 6, 3) := by decide +kernel
theorem dX5_reopen_111 : decode cX5_reopen 111 = .ok (.goto 40, 3) := by decide +kernel
theorem dX5_reopen_114 : decode cX5_reopen 114 = .ok (.aload_n 0, 1) := by decide +kernel
theorem dX5_reopen_115 : decode cX5_reopen 115 = .ok (.getfield 23, 3) := by decide +kernel
theorem dX5_reopen_118 : decode cX5_reopen 118 = .ok (.iload_n 3, 1) := by decide +kernel
theorem dX5_reopen_119 : decode cX5_reopen 119 = .ok (.bipush 99, 2) := by decide +kernel
theorem dX5_reopen_121 : decode cX5_reopen 121 = .ok (.castore, 1) := by decide +kernel
theorem dX5_reopen_122 : decode cX5_reopen 122 = .ok (.aload_n 0, 1) := by decide +kernel
theorem dX5_reopen_123 : decode cX5_reopen 123 = .ok (.getfield 60, 3) := by decide +kernel
theorem dX5_reopen_126 : decode cX5_reopen 126 = .ok (.aload_n 0, 1) := by decide +kernel
theorem dX5_reopen_127 : decode cX5_reopen 127 = .ok (.getfield 51, 3) := by decide +kernel
theorem dX5_reopen_130 : decode cX5_reopen 130 = .ok (.iload_n 3, 1) := by decide +kernel
theorem dX5_reopen_131 : decode cX5_reopen 131 = .ok (.iaload, 1) := by decide +kernel
theorem dX5_reopen_132 : decode cX5_reopen 132 = .ok (.dup2, 1) := by decide +kernel
theorem dX5_reopen_133 : decode cX5_reopen 133 = .ok (.iaload, 1) := by decide +kernel
theorem dX5_reopen_134 : decode cX5_reopen 134 = .ok (.aload_n 0, 1) := by decide +kernel
theorem dX5_reopen_135 : decode cX5_reopen 135 = .ok (.getfield 48, 3) := by decide +kernel
theorem dX5_reopen_138 : decode cX5_reopen 138 = .ok (.iload_n 3, 1) := by decide +kernel
theorem dX5_reopen_139 : decode cX5_reopen 139 = .ok (.iaload, 1) := by decide +kernel
theorem dX5_reopen_140 : decode cX5_reopen 140 = .ok (.iadd, 1) := by decide +kernel
theorem dX5_reopen_141 : decode cX5_reopen 141 = .ok (.iastore, 1) := by decide +kernel
theorem dX5_reopen_142 : decode cX5_reopen 142 = .ok (.iload_n 2, 1) := by decide +kernel
theorem dX5_reopen_143 : decode cX5_reopen 143 = .ok (.aload_n 0, 1) := by decide +kernel
theorem dX5_reopen_144 : decode cX5_reopen 144 = .ok (.getfield 48, 3) := by decide +kernel
theorem dX5_reopen_147 : decode cX5_reopen 147 = .ok (.iload_n 3, 1) := by decide +kernel
theorem dX5_reopen_148 : decode cX5_reopen 148 = .ok (.iaload, 1) := by decide +kernel
theorem dX5_reopen_149 : decode cX5_reopen 149 = .ok (.iadd, 1) := by decide +kernel
theorem dX5_reopen_150 : decode cX5_reopen 150 = .ok (.istore_n 2, 1) := by decide +kernel
theorem dX5_reopen_151 : decode cX5_reopen 151 = .ok (.iinc 3 1, 3) := by decide +kernel
theorem dX5_reopen_154 : decode cX5_reopen 154 = .ok (.goto (-72), 3) := by decide +kernel
theorem dX5_reopen_157 : decode cX5_reopen 157 = .ok (.iload_n 2, 1) := by decide +kernel
theorem dX5_reopen_158 : decode cX5_reopen 158 = .ok (.ireturn, 1) := by decide +kernel
set_option maxRecDepth 20000 in
theorem ggX5_state_X5_isTask : GoodIn wsX5_state wsX5_isTask := goodIn_r _ [6, 7, 8, 9, 5, 10, 16, 17, 18, 19, 20, 21, 22, 23, 24, 25, 26, 27, 28, 29, 30, 31, 32, 33, 34, 35, 36, 37, 38, 39, 40, 41] (by decide +kernel) (by decide +kernel)
set_option maxRecDepth 20000 in
theorem gX5_state_X5_isTask : GoodIn wsX5_state (wsV RX5 95 RX5 yX5_isTask wsX5_isTask) := goodIn_app (goodIn_of _ (by decide +kernel)) ggX5_state_X5_isTask
set_option maxRecDepth 20000 in
theorem ggX5_state_X5_checked : GoodIn wsX5_state wsX5_checked := goodIn_r _ [14, 15, 16, 17, 18, 19, 20, 21, 22, 23, 24, 25, 26, 27, 28, 29, 30, 31, 32, 33, 34, 35, 36, 37, 38, 39, 40, 41] (by decide +kernel) (by decide +kernel)
set_option maxRecDepth 20000 in
theorem gX5_state_X5_checked : GoodIn wsX5_state (wsV RX5 115 RX5 yX5_checked wsX5_checked) := goodIn_app (goodIn_of _ (by decide +kernel)) ggX5_state_X5_checked
theorem dX5_state_0 : decode cX5_state 0 = .ok (.aload_n 0, 1) := by decide +kernel
theorem dX5_state_1 : decode cX5_state 1 = .ok (.aload_n 0, 1) := by decide +kernel
theorem dX5_state_2 : decode cX5_state 2 = .ok (.iload_n 1, 1) := by decide +kernel
theorem dX5_state_3 : decode cX5_state 3 = .ok (.invokevirtual 95, 3) := by decide +kernel
theorem dX5_state_6 : decode cX5_state 6 = .ok (.invokevirtual 115, 3) := by decide +kernel
theorem dX5_state_9 : decode cX5_state 9 = .ok (.ifCond .le 8, 3) := by decide +kernel
theorem dX5_state_12 : decode cX5_state 12 = .ok (.bipush 32, 2) := by decide +kernel
theorem dX5_state_14 : decode cX5_state 14 = .ok (.goto 9, 3) := by decide +kernel
theorem dX5_state_17 : decode cX5_state 17 = .ok (.aload_n 0, 1) := by decide +kernel
theorem dX5_state_18 : decode cX5_state 18 = .ok (.getfield 19, 3) := by decide +kernel
theorem dX5_state_21 : decode cX5_state 21 = .ok (.iload_n 1, 1) := by decide +kernel
theorem dX5_state_22 : decode cX5_state 22 = .ok (.caload, 1) := by decide +kernel
theorem dX5_state_23 : decode cX5_state 23 = .ok (.ireturn, 1) := by decide +kernel
set_option maxRecDepth 20000 in
theorem ggX5_parent_X5_isTask : GoodIn wsX5_parent wsX5_isTask := goodIn_r _ [7, 8, 9, 10, 6, 11, 12, 13, 14, 15, 16, 17, 18, 19, 20, 21, 22, 23, 24, 25, 26, 27, 28, 29, 30, 31, 32, 33, 34, 35, 36, 37] (by decide +kernel) (by decide +kernel)
set_option maxRecDepth 20000 in
theorem gX5_parent_X5_isTask : GoodIn wsX5_parent (wsV RX5 95 RX5 yX5_isTask wsX5_isTask) := goodIn_app (goodIn_of _ (by decide +kernel)) ggX5_parent_X5_isTask
theorem dX5_parent_0 : decode cX5_parent 0 = .ok (.aload_n 0, 1) := by decide +kernel
theorem dX5_parent_1 : decode cX5_parent 1 = .ok (.aload_n 0, 1) := by decide +kernel
theorem dX5_parent_2 : decode cX5_parent 2 = .ok (.iload_n 1, 1) := by decide +kernel
theorem dX5_parent_3 : decode cX5_parent 3 = .ok (.invokevirtual 95, 3) := by decide +kernel
theorem dX5_parent_6 : decode cX5_parent 6 = .ok (.ifCond .ne 7, 3) := by decide +kernel
theorem dX5_parent_9 : decode cX5_parent 9 = .ok (.iconst 1, 1) := by decide +kernel
theorem dX5_parent_10 : decode cX5_parent 10 = .ok (.goto 17, 3) := by decide +kernel
theorem dX5_parent_13 : decode cX5_parent 13 = .ok (.aload_n 0, 1) := by decide +kernel
theorem dX5_parent_14 : decode cX5_parent 14 = .ok (.getfield 7, 3) := by decide +kernel
theorem dX5_parent_17 : decode cX5_parent 17 = .ok (.iload_n 1, 1) := by decide +kernel
theorem dX5_parent_18 : decode cX5_parent 18 = .ok (.iaload, 1) := by decide +kernel
theorem dX5_parent_19 : decode cX5_parent 19 = .ok (.ifCond .ge 7, 3) := by decide +kernel
theorem dX5_parent_22 : decode cX5_parent 22 = .ok (.iconst 2, 1) := by decide +kernel
theorem dX5_parent_23 : decode cX5_parent 23 = .ok (.goto 4, 3) := by decide +kernel
theorem dX5_parent_26 : decode cX5_parent 26 = .ok (.iconst 0, 1) := by decide +kernel
theorem dX5_parent_27 : decode cX5_parent 27 = .ok (.putfield 66, 3) := by decide +kernel
theorem dX5_parent_30 : decode cX5_parent 30 = .ok (.aload_n 0, 1) := by decide +kernel
theorem dX5_parent_31 : decode cX5_parent 31 = .ok (.getfield 66, 3) := by decide +kernel
theorem dX5_parent_34 : decode cX5_parent 34 = .ok (.ifCond .le 7, 3) := by decide +kernel
theorem dX5_parent_37 : decode cX5_parent 37 = .ok (.iconst 0, 1) := by decide +kernel
theorem dX5_parent_38 : decode cX5_parent 38 = .ok (.goto 9, 3) := by decide +kernel
theorem dX5_parent_41 : decode cX5_parent 41 = .ok (.aload_n 0, 1) := by decide +kernel
theorem dX5_parent_42 : decode cX5_parent 42 = .ok (.getfield 7, 3) := by decide +kernel
theorem dX5_parent_45 : decode cX5_parent 45 = .ok (.iload_n 1, 1) := by decide +kernel
theorem dX5_parent_46 : decode cX5_parent 46 = .ok (.iaload, 1) := by decide +kernel
theorem dX5_parent_47 : decode cX5_parent 47 = .ok (.ireturn, 1) := by decide +kernel
theorem dX5_isIn_0 : decode cX5_isIn 0 = .ok (.iload_n 1, 1) := by decide +kernel
theorem dX5_isIn_1 : decode cX5_isIn 1 = .ok (.istore_n 3, 1) := by decide +kernel
theorem dX5_isIn_2 : decode cX5_isIn 2 = .ok (.iload_n 3, 1) := by decide +kernel
theorem dX5_isIn_3 : decode cX5_isIn 3 = .ok (.ifCond .lt 18, 3) := by decide +kernel
theorem dX5_isIn_6 : decode cX5_isIn 6 = .ok (.iload_n 3, 1) := by decide +kernel
theorem dX5_isIn_7 : decode cX5_isIn 7 = .ok (.iload_n 2, 1) := by decide +kernel
theorem dX5_isIn_8 : decode cX5_isIn 8 = .ok (.if_icmp .eq 13, 3) := by decide +kernel
theorem dX5_isIn_11 : decode cX5_isIn 11 = .ok (.aload_n 0, 1) := by decide +kernel
theorem dX5_isIn_12 : decode cX5_isIn 12 = .ok (.getfield 7, 3) := by decide +kernel
theorem dX5_isIn_15 : decode cX5_isIn 15 = .ok (.iload_n 3, 1) := by decide +kernel
theorem dX5_isIn_16 : decode cX5_isIn 16 = .ok (.iaload, 1) := by decide +kernel
theorem dX5_isIn_17 : decode cX5_isIn 17 = .ok (.istore_n 3, 1) := by decide +kernel
theorem dX5_isIn_18 : decode cX5_isIn 18 = .ok (.goto (-16), 3) := by decide +kernel
theorem dX5_isIn_21 : decode cX5_isIn 21 = .ok (.iload_n 3, 1) := by decide +kernel
theorem dX5_isIn_22 : decode cX5_isIn 22 = .ok (.iload_n 2, 1) := by decide +kernel
theorem dX5_isIn_23 : decode cX5_isIn 23 = .ok (.if_icmp .ne 7, 3) := by decide +kernel
theorem dX5_isIn_26 : decode cX5_isIn 26 = .ok (.iconst 1, 1) := by decide +kernel
theorem dX5_isIn_27 : decode cX5_isIn 27 = .ok (.goto 4, 3) := by decide +kernel
theorem dX5_isIn_30 : decode cX5_isIn 30 = .ok (.iconst 0, 1) := by decide +kernel
theorem dX5_isIn_31 : decode cX5_isIn 31 = .ok (.ireturn, 1) := by decide +kernel
set_option maxRecDepth 20000 in
theorem ggX5_treeSize_X5_isTask : GoodIn wsX5_treeSize wsX5_isTask := goodIn_r _ [6, 1, 7, 8, 5, 9, 20, 21, 22, 23, 24, 25, 26, 27, 28, 29, 30, 31, 32, 33, 34, 35, 36, 37, 38, 39, 40, 41, 42, 43, 44, 45] (by decide +kernel) (by decide +kernel)
set_option maxRecDepth 20000 in
theorem gX5_treeSize_X5_isTask : GoodIn wsX5_treeSize (wsV RX5 95 RX5 yX5_isTask wsX5_isTask) := goodIn_app (goodIn_of _ (by decide +kernel)) ggX5_treeSize_X5_isTask
set_option maxRecDepth 20000 in
theorem ggX5_treeSize_X5_checked : GoodIn wsX5_treeSize wsX5_checked := goodIn_r _ [13, 14, 20, 21, 22, 23, 24, 25, 26, 27, 28, 29, 30, 31, 32, 33, 34, 35, 36, 37, 38, 39, 40, 41, 42, 43, 44, 45] (by decide +kernel) (by decide +kernel)
set_option maxRecDepth 20000 in
theorem gX5_treeSize_X5_checked : GoodIn wsX5_treeSize (wsV RX5 115 RX5 yX5_checked wsX5_checked) := goodIn_app (goodIn_of _ (by decide +kernel)) ggX5_treeSize_X5_checked
set_option maxRecDepth 20000 in
theorem ggX5_treeSize_X5_isIn : GoodIn wsX5_treeSize wsX5_isIn := goodIn_ca (goodIn_r _ [18, 19, 20, 21, 22, 23, 24, 25, 26, 27, 28, 29, 30, 31, 32, 33, 34, 35, 36, 37, 38, 39, 40, 41, 42, 43, 44, 45] (by decide +kernel) (by decide +kernel)) (goodIn_sub (fun _ h => List.mem_cons_of_mem _ (List.mem_append_right _ h)) (by decide +kernel))
set_option maxRecDepth 20000 in
theorem gX5_treeSize_X5_isIn : GoodIn wsX5_treeSize (wsV RX5 119 RX5 yX5_isIn wsX5_isIn) := goodIn_app (goodIn_of _ (by decide +kernel)) ggX5_treeSize_X5_isIn
theorem dX5_treeSize_0 : decode cX5_treeSize 0 = .ok (.aload_n 0, 1) := by decide +kernel
theorem dX5_treeSize_1 : decode cX5_treeSize 1 = .ok (.aload_n 0, 1) := by decide +kernel
theorem dX5_treeSize_2 : decode cX5_treeSize 2 = .ok (.iload_n 1, 1) := by decide +kernel
theorem dX5_treeSize_3 : decode cX5_treeSize 3 = .ok (.invokevirtual 95, 3) := by decide +kernel
theorem dX5_treeSize_6 : decode cX5_treeSize 6 = .ok (.invokevirtual 115, 3) := by decide +kernel
theorem dX5_treeSize_9 : decode cX5_treeSize 9 = .ok (.ifCond .le 5, 3) := by decide +kernel
theorem dX5_treeSize_12 : decode cX5_treeSize 12 = .ok (.iconst 0, 1) := by decide +kernel
theorem dX5_treeSize_13 : decode cX5_treeSize 13 = .ok (.ireturn, 1) := by decide +kernel
theorem dX5_treeSize_14 : decode cX5_treeSize 14 = .ok (.iconst 0, 1) := by decide +kernel
theorem dX5_treeSize_15 : decode cX5_treeSize 15 = .ok (.istore_n 2, 1) := by decide +kernel
theorem dX5_treeSize_16 : decode cX5_treeSize 16 = .ok (.iconst 0, 1) := by decide +kernel
theorem dX5_treeSize_17 : decode cX5_treeSize 17 = .ok (.istore_n 3, 1) := by decide +kernel
theorem dX5_treeSize_18 : decode cX5_treeSize 18 = .ok (.iload_n 3, 1) := by decide +kernel
theorem dX5_treeSize_19 : decode cX5_treeSize 19 = .ok (.aload_n 0, 1) := by decide +kernel
theorem dX5_treeSize_20 : decode cX5_treeSize 20 = .ok (.getfield 70, 3) := by decide +kernel
theorem dX5_treeSize_23 : decode cX5_treeSize 23 = .ok (.if_icmp .ge 26, 3) := by decide +kernel
theorem dX5_treeSize_26 : decode cX5_treeSize 26 = .ok (.iload_n 2, 1) := by decide +kernel
theorem dX5_treeSize_27 : decode cX5_treeSize 27 = .ok (.aload_n 0, 1) := by decide +kernel
theorem dX5_treeSize_28 : decode cX5_treeSize 28 = .ok (.iload_n 3, 1) := by decide +kernel
theorem dX5_treeSize_29 : decode cX5_treeSize 29 = .ok (.iload_n 1, 1) := by decide +kernel
theorem dX5_treeSize_30 : decode cX5_treeSize 30 = .ok (.invokevirtual 119, 3) := by decide +kernel
theorem dX5_treeSize_33 : decode cX5_treeSize 33 = .ok (.ifCond .eq 7, 3) := by decide +kernel
theorem dX5_treeSize_36 : decode cX5_treeSize 36 = .ok (.iconst 1, 1) := by decide +kernel
theorem dX5_treeSize_37 : decode cX5_treeSize 37 = .ok (.goto 4, 3) := by decide +kernel
theorem dX5_treeSize_40 : decode cX5_treeSize 40 = .ok (.iconst 0, 1) := by decide +kernel
theorem dX5_treeSize_41 : decode cX5_treeSize 41 = .ok (.iadd, 1) := by decide +kernel
theorem dX5_treeSize_42 : decode cX5_treeSize 42 = .ok (.istore_n 2, 1) := by decide +kernel
theorem dX5_treeSize_43 : decode cX5_treeSize 43 = .ok (.iinc 3 1, 3) := by decide +kernel
theorem dX5_treeSize_46 : decode cX5_treeSize 46 = .ok (.goto (-28), 3) := by decide +kernel
theorem dX5_treeSize_49 : decode cX5_treeSize 49 = .ok (.iload_n 2, 1) := by decide +kernel
theorem dX5_treeSize_50 : decode cX5_treeSize 50 = .ok (.ireturn, 1) := by decide +kernel
set_option maxRecDepth 20000 in
theorem ggX5_canBegin_X5_isTask : GoodIn wsX5_canBegin wsX5_isTask := goodIn_r _ [6, 7, 8, 9, 5, 10, 25, 26, 27, 28, 29, 30, 31, 32, 33, 34, 35, 36, 37, 38, 39, 40, 41, 42, 43, 44, 45, 46, 47, 48, 49, 50] (by decide +kernel) (by decide +kernel)
set_option maxRecDepth 20000 in
theorem gX5_canBegin_X5_isTask : GoodIn wsX5_canBegin (wsV RX5 95 RX5 yX5_isTask wsX5_isTask) := goodIn_app (goodIn_of _ (by decide +kernel)) ggX5_canBegin_X5_isTask
set_option maxRecDepth 20000 in
theorem ggX5_canBegin_X5_checked : GoodIn wsX5_canBegin wsX5_checked := goodIn_r _ [14, 15, 25, 26, 27, 28, 29, 30, 31, 32, 33, 34, 35, 36, 37, 38, 39, 40, 41, 42, 43, 44, 45, 46, 47, 48, 49, 50] (by decide +kernel) (by decide +kernel)
set_option maxRecDepth 20000 in
theorem gX5_canBegin_X5_checked : GoodIn wsX5_canBegin (wsV RX5 115 RX5 yX5_checked wsX5_checked) := goodIn_app (goodIn_of _ (by decide +kernel)) ggX5_canBegin_X5_checked
set_option maxRecDepth 20000 in
theorem ggX5_canBegin_X5_isFree : GoodIn wsX5_canBegin wsX5_isFree := goodIn_ca (goodIn_r _ [19, 7, 1, 20, 21, 22, 5, 23, 24, 25, 26, 27, 28, 29, 30, 31, 32, 33, 34, 35, 36, 37, 38, 39, 40, 41, 42, 43, 44, 45, 46, 47, 48, 49, 50] (by decide +kernel) (by decide +kernel)) (goodIn_sub (fun _ h => List.mem_cons_of_mem _ (List.mem_append_right _ h)) (by decide +kernel))
set_option maxRecDepth 20000 in
theorem gX5_canBegin_X5_isFree : GoodIn wsX5_canBegin (wsV RX5 105 RX5 yX5_isFree wsX5_isFree) := goodIn_app (goodIn_of _ (by decide +kernel)) ggX5_canBegin_X5_isFree
theorem dX5_canBegin_0 : decode cX5_canBegin 0 = .ok (.aload_n 0, 1) := by decide +kernel
theorem dX5_canBegin_1 : decode cX5_canBegin 1 = .ok (.aload_n 0, 1) := by decide +kernel
theorem dX5_canBegin_2 : decode cX5_canBegin 2 = .ok (.iload_n 1, 1) := by decide +kernel
theorem dX5_canBegin_3 : decode cX5_canBegin 3 = .ok (.invokevirtual 95, 3) := by decide +kernel
theorem dX5_canBegin_6 : decode cX5_canBegin 6 = .ok (.invokevirtual 115, 3) := by decide +kernel
theorem dX5_canBegin_9 : decode cX5_canBegin 9 = .ok (.ifCond .ne 26, 3) := by decide +kernel
theorem dX5_canBegin_12 : decode cX5_canBegin 12 = .ok (.aload_n 0, 1) := by decide +kernel
theorem dX5_canBegin_13 : decode cX5_canBegin 13 = .ok (.getfield 19, 3) := by decide +kernel
theorem dX5_canBegin_16 : decode cX5_canBegin 16 = .ok (.iload_n 1, 1) := by decide +kernel
theorem dX5_canBegin_17 : decode cX5_canBegin 17 = .ok (.caload, 1) := by decide +kernel
theorem dX5_canBegin_18 : decode cX5_canBegin 18 = .ok (.bipush 111, 2) := by decide +kernel
theorem dX5_canBegin_20 : decode cX5_canBegin 20 = .ok (.if_icmp .ne 15, 3) := by decide +kernel
theorem dX5_canBegin_23 : decode cX5_canBegin 23 = .ok (.aload_n 0, 1) := by decide +kernel
theorem dX5_canBegin_24 : decode cX5_canBegin 24 = .ok (.iload_n 1, 1) := by decide +kernel
theorem dX5_canBegin_25 : decode cX5_canBegin 25 = .ok (.invokevirtual 105, 3) := by decide +kernel
theorem dX5_canBegin_28 : decode cX5_canBegin 28 = .ok (.ifCond .eq 7, 3) := by decide +kernel
theorem dX5_canBegin_31 : decode cX5_canBegin 31 = .ok (.iconst 1, 1) := by decide +kernel
theorem dX5_canBegin_32 : decode cX5_canBegin 32 = .ok (.goto 4, 3) := by decide +kernel
theorem dX5_canBegin_35 : decode cX5_canBegin 35 = .ok (.iconst 0, 1) := by decide +kernel
theorem dX5_canBegin_36 : decode cX5_canBegin 36 = .ok (.ireturn, 1) := by decide +kernel
set_option maxRecDepth 20000 in
theorem ggX5_tasks_X5_plain : GoodIn wsX5_tasks wsX5_plain := goodIn_r _ [6, 7, 8, 9, 10, 11, 12, 13, 14, 15, 16, 17, 18, 19, 20, 21, 22, 23, 24, 25, 26, 27, 28, 29, 30, 31, 32, 33] (by decide +kernel) (by decide +kernel)
set_option maxRecDepth 20000 in
theorem gX5_tasks_X5_plain : GoodIn wsX5_tasks (wsV RX5 122 RX5 yX5_plain wsX5_plain) := goodIn_app (goodIn_of _ (by decide +kernel)) ggX5_tasks_X5_plain
theorem dX5_tasks_0 : decode cX5_tasks 0 = .ok (.aload_n 0, 1) := by decide +kernel
theorem dX5_tasks_1 : decode cX5_tasks 1 = .ok (.aload_n 0, 1) := by decide +kernel
theorem dX5_tasks_2 : decode cX5_tasks 2 = .ok (.getfield 70, 3) := by decide +kernel
theorem dX5_tasks_5 : decode cX5_tasks 5 = .ok (.invokevirtual 122, 3) := by decide +kernel
theorem dX5_tasks_8 : decode cX5_tasks 8 = .ok (.ireturn, 1) := by decide +kernel
set_option maxRecDepth 20000 in
theorem ggX5_hoursIn_X5_isIn : GoodIn wsX5_hoursIn wsX5_isIn := goodIn_ca (goodIn_r _ [8, 9, 10, 11, 12, 13, 14, 15, 16, 17, 18, 19, 20, 21, 22, 23, 24, 25, 26, 27, 28, 29, 30, 31, 32, 33, 34, 35] (by decide +kernel) (by decide +kernel)) (goodIn_sub (fun _ h => List.mem_cons_of_mem _ (List.mem_append_right _ h)) (by decide +kernel))
set_option maxRecDepth 20000 in
theorem gX5_hoursIn_X5_isIn : GoodIn wsX5_hoursIn (wsV RX5 119 RX5 yX5_isIn wsX5_isIn) := goodIn_app (goodIn_of _ (by decide +kernel)) ggX5_hoursIn_X5_isIn
theorem dX5_hoursIn_0 : decode cX5_hoursIn 0 = .ok (.iconst 0, 1) := by decide +kernel
theorem dX5_hoursIn_1 : decode cX5_hoursIn 1 = .ok (.istore_n 2, 1) := by decide +kernel
theorem dX5_hoursIn_2 : decode cX5_hoursIn 2 = .ok (.iconst 0, 1) := by decide +kernel
theorem dX5_hoursIn_3 : decode cX5_hoursIn 3 = .ok (.istore_n 3, 1) := by decide +kernel
theorem dX5_hoursIn_4 : decode cX5_hoursIn 4 = .ok (.iload_n 3, 1) := by decide +kernel
theorem dX5_hoursIn_5 : decode cX5_hoursIn 5 = .ok (.aload_n 0, 1) := by decide +kernel
theorem dX5_hoursIn_6 : decode cX5_hoursIn 6 = .ok (.getfield 76, 3) := by decide +kernel
theorem dX5_hoursIn_9 : decode cX5_hoursIn 9 = .ok (.if_icmp .ge 36, 3) := by decide +kernel
theorem dX5_hoursIn_12 : decode cX5_hoursIn 12 = .ok (.iload_n 2, 1) := by decide +kernel
theorem dX5_hoursIn_13 : decode cX5_hoursIn 13 = .ok (.aload_n 0, 1) := by decide +kernel
theorem dX5_hoursIn_14 : decode cX5_hoursIn 14 = .ok (.aload_n 0, 1) := by decide +kernel
theorem dX5_hoursIn_15 : decode cX5_hoursIn 15 = .ok (.getfield 36, 3) := by decide +kernel
theorem dX5_hoursIn_18 : decode cX5_hoursIn 18 = .ok (.iload_n 3, 1) := by decide +kernel
theorem dX5_hoursIn_19 : decode cX5_hoursIn 19 = .ok (.iaload, 1) := by decide +kernel
theorem dX5_hoursIn_20 : decode cX5_hoursIn 20 = .ok (.iload_n 1, 1) := by decide +kernel
theorem dX5_hoursIn_21 : decode cX5_hoursIn 21 = .ok (.invokevirtual 119, 3) := by decide +kernel
theorem dX5_hoursIn_24 : decode cX5_hoursIn 24 = .ok (.ifCond .eq 12, 3) := by decide +kernel
theorem dX5_hoursIn_27 : decode cX5_hoursIn 27 = .ok (.aload_n 0, 1) := by decide +kernel
theorem dX5_hoursIn_28 : decode cX5_hoursIn 28 = .ok (.getfield 45, 3) := by decide +kernel
theorem dX5_hoursIn_31 : decode cX5_hoursIn 31 = .ok (.iload_n 3, 1) := by decide +kernel
theorem dX5_hoursIn_32 : decode cX5_hoursIn 32 = .ok (.iaload, 1) := by decide +kernel
theorem dX5_hoursIn_33 : decode cX5_hoursIn 33 = .ok (.goto 4, 3) := by decide +kernel
theorem dX5_hoursIn_36 : decode cX5_hoursIn 36 = .ok (.iconst 0, 1) := by decide +kernel
theorem dX5_hoursIn_37 : decode cX5_hoursIn 37 = .ok (.iadd, 1) := by decide +kernel
theorem dX5_hoursIn_38 : decode cX5_hoursIn 38 = .ok (.istore_n 2, 1) := by decide +kernel
theorem dX5_hoursIn_39 : decode cX5_hoursIn 39 = .ok (.iinc 3 1, 3) := by decide +kernel
theorem dX5_hoursIn_42 : decode cX5_hoursIn 42 = .ok (.goto (-38), 3) := by decide +kernel
theorem dX5_hoursIn_45 : decode cX5_hoursIn 45 = .ok (.iload_n 2, 1) := by decide +kernel
theorem dX5_hoursIn_46 : decode cX5_hoursIn 46 = .ok (.ireturn, 1) := by decide +kernel
set_option maxRecDepth 20000 in
theorem ggX5_roomFor_X5_hoursIn : GoodIn wsX5_roomFor wsX5_hoursIn := goodIn_ca (goodIn_r _ [7, 8, 9, 10, 11, 12, 13, 6, 14, 2, 15, 16, 17, 18, 19, 20, 21, 22, 23, 24, 25, 26, 27, 28, 29, 30, 31, 32, 33, 34, 35, 36, 37, 38, 39, 40] (by decide +kernel) (by decide +kernel)) (goodIn_sub (fun _ h => List.mem_cons_of_mem _ (List.mem_append_right _ h)) (by decide +kernel))
set_option maxRecDepth 20000 in
theorem gX5_roomFor_X5_hoursIn : GoodIn wsX5_roomFor (wsV RX5 126 RX5 yX5_hoursIn wsX5_hoursIn) := goodIn_app (goodIn_of _ (by decide +kernel)) ggX5_roomFor_X5_hoursIn
theorem dX5_roomFor_0 : decode cX5_roomFor 0 = .ok (.iconst (-1), 1) := by decide +kernel
theorem dX5_roomFor_1 : decode cX5_roomFor 1 = .ok (.istore_n 2, 1) := by decide +kernel
theorem dX5_roomFor_2 : decode cX5_roomFor 2 = .ok (.iload_n 1, 1) := by decide +kernel
theorem dX5_roomFor_3 : decode cX5_roomFor 3 = .ok (.istore_n 3, 1) := by decide +kernel
theorem dX5_roomFor_4 : decode cX5_roomFor 4 = .ok (.iload_n 3, 1) := by decide +kernel
theorem dX5_roomFor_5 : decode cX5_roomFor 5 = .ok (.ifCond .lt 50, 3) := by decide +kernel
theorem dX5_roomFor_8 : decode cX5_roomFor 8 = .ok (.aload_n 0, 1) := by decide +kernel
theorem dX5_roomFor_9 : decode cX5_roomFor 9 = .ok (.getfield 16, 3) := by decide +kernel
theorem dX5_roomFor_12 : decode cX5_roomFor 12 = .ok (.iload_n 3, 1) := by decide +kernel
theorem dX5_roomFor_13 : decode cX5_roomFor 13 = .ok (.iaload, 1) := by decide +kernel
theorem dX5_roomFor_14 : decode cX5_roomFor 14 = .ok (.aload_n 0, 1) := by decide +kernel
theorem dX5_roomFor_15 : decode cX5_roomFor 15 = .ok (.iload_n 3, 1) := by decide +kernel
theorem dX5_roomFor_16 : decode cX5_roomFor 16 = .ok (.invokevirtual 126, 3) := by decide +kernel
theorem dX5_roomFor_19 : decode cX5_roomFor 19 = .ok (.isub, 1) := by decide +kernel
theorem dX5_roomFor_20 : decode cX5_roomFor 20 = .ok (.istore 4, 2) := by decide +kernel
theorem dX5_roomFor_22 : decode cX5_roomFor 22 = .ok (.aload_n 0, 1) := by decide +kernel
theorem dX5_roomFor_23 : decode cX5_roomFor 23 = .ok (.getfield 16, 3) := by decide +kernel
theorem dX5_roomFor_26 : decode cX5_roomFor 26 = .ok (.iload_n 3, 1) := by decide +kernel
theorem dX5_roomFor_27 : decode cX5_roomFor 27 = .ok (.iaload, 1) := by decide +kernel
theorem dX5_roomFor_28 : decode cX5_roomFor 28 = .ok (.ifCond .le 17, 3) := by decide +kernel
theorem dX5_roomFor_31 : decode cX5_roomFor 31 = .ok (.iload_n 2, 1) := by decide +kernel
theorem dX5_roomFor_32 : decode cX5_roomFor 32 = .ok (.iconst (-1), 1) := by decide +kernel
theorem dX5_roomFor_33 : decode cX5_roomFor 33 = .ok (.if_icmp .eq 9, 3) := by decide +kernel
theorem dX5_roomFor_36 : decode cX5_roomFor 36 = .ok (.iload 4, 2) := by decide +kernel
theorem dX5_roomFor_38 : decode cX5_roomFor 38 = .ok (.iload_n 2, 1) := by decide +kernel
theorem dX5_roomFor_39 : decode cX5_roomFor 39 = .ok (.if_icmp .ge 6, 3) := by decide +kernel
theorem dX5_roomFor_42 : decode cX5_roomFor 42 = .ok (.iload 4, 2) := by decide +kernel
theorem dX5_roomFor_44 : decode cX5_roomFor 44 = .ok (.istore_n 2, 1) := by decide +kernel
theorem dX5_roomFor_45 : decode cX5_roomFor 45 = .ok (.aload_n 0, 1) := by decide +kernel
theorem dX5_roomFor_46 : decode cX5_roomFor 46 = .ok (.getfield 7, 3) := by decide +kernel
theorem dX5_roomFor_49 : decode cX5_roomFor 49 = .ok (.iload_n 3, 1) := by decide +kernel
theorem dX5_roomFor_50 : decode cX5_roomFor 50 = .ok (.iaload, 1) := by decide +kernel
theorem dX5_roomFor_51 : decode cX5_roomFor 51 = .ok (.istore_n 3, 1) := by decide +kernel
theorem dX5_roomFor_52 : decode cX5_roomFor 52 = .ok (.goto (-48), 3) := by decide +kernel
theorem dX5_roomFor_55 : decode cX5_roomFor 55 = .ok (.iload_n 2, 1) := by decide +kernel
theorem dX5_roomFor_56 : decode cX5_roomFor 56 = .ok (.ireturn, 1) := by decide +kernel
set_option maxRecDepth 20000 in
theorem ggX5_note_X5_isTask : GoodIn wsX5_note wsX5_isTask := goodIn_r _ [14, 15, 16, 17, 13, 18, 36, 37, 38, 39, 40, 41, 42, 43, 44, 45, 46, 47, 48, 49, 50, 51, 52, 53, 54, 55, 56, 57, 58, 59, 60, 61] (by decide +kernel) (by decide +kernel)
set_option maxRecDepth 20000 in
theorem gX5_note_X5_isTask : GoodIn wsX5_note (wsV RX5 95 RX5 yX5_isTask wsX5_isTask) := goodIn_app (goodIn_of _ (by decide +kernel)) ggX5_note_X5_isTask
set_option maxRecDepth 20000 in
theorem ggX5_note_X5_in : GoodIn wsX5_note wsX5_in := goodIn_r _ [18] (by decide +kernel) (by decide +kernel)
set_option maxRecDepth 20000 in
theorem gX5_note_X5_in : GoodIn wsX5_note (va_wsS RX5 91 yX5_in wsX5_in) := goodIn_app (goodIn_of _ (by decide +kernel)) ggX5_note_X5_in
set_option maxRecDepth 20000 in
theorem ggX5_note_X5_isWeek : GoodIn wsX5_note wsX5_isWeek := goodIn_r _ [21, 16, 17, 13, 18] (by decide +kernel) (by decide +kernel)
set_option maxRecDepth 20000 in
theorem gX5_note_X5_isWeek : GoodIn wsX5_note (va_wsS RX5 129 yX5_isWeek wsX5_isWeek) := goodIn_app (goodIn_of _ (by decide +kernel)) ggX5_note_X5_isWeek
set_option maxRecDepth 20000 in
theorem ggX5_note_X5_roomFor : GoodIn wsX5_note wsX5_roomFor := goodIn_ca (goodIn_r _ [25, 26, 27, 28, 29, 30, 13, 31, 4, 5, 8, 32, 33, 34, 35, 36, 37, 38, 39, 40, 41, 42, 43, 44, 45, 46, 47, 48, 49, 50, 51, 52, 53, 54, 55, 56, 57, 58, 59, 60, 61] (by decide +kernel) (by decide +kernel)) (goodIn_sub (fun _ h => List.mem_cons_of_mem _ (List.mem_append_right _ h)) (by decide +kernel))
set_option maxRecDepth 20000 in
theorem gX5_note_X5_roomFor : GoodIn wsX5_note (wsV RX5 132 RX5 yX5_roomFor wsX5_roomFor) := goodIn_app (goodIn_of _ (by decide +kernel)) ggX5_note_X5_roomFor
theorem dX5_note_0 : decode cX5_note 0 = .ok (.aload_n 0, 1) := by decide +kernel
theorem dX5_note_1 : decode cX5_note 1 = .ok (.aload_n 0, 1) := by decide +kernel
theorem dX5_note_2 : decode cX5_note 2 = .ok (.iload_n 1, 1) := by decide +kernel
theorem dX5_note_3 : decode cX5_note 3 = .ok (.invokevirtual 95, 3) := by decide +kernel
theorem dX5_note_6 : decode cX5_note 6 = .ok (.ifCond .ne 7, 3) := by decide +kernel
theorem dX5_note_9 : decode cX5_note 9 = .ok (.iconst 1, 1) := by decide +kernel
theorem dX5_note_10 : decode cX5_note 10 = .ok (.goto 48, 3) := by decide +kernel
theorem dX5_note_13 : decode cX5_note 13 = .ok (.iload_n 2, 1) := by decide +kernel
theorem dX5_note_14 : decode cX5_note 14 = .ok (.iconst 0, 1) := by decide +kernel
theorem dX5_note_15 : decode cX5_note 15 = .ok (.iconst 3, 1) := by decide +kernel
theorem dX5_note_16 : decode cX5_note 16 = .ok (.invokestatic 91, 3) := by decide +kernel
theorem dX5_note_19 : decode cX5_note 19 = .ok (.ifCond .eq 21, 3) := by decide +kernel
theorem dX5_note_22 : decode cX5_note 22 = .ok (.iload_n 3, 1) := by decide +kernel
theorem dX5_note_23 : decode cX5_note 23 = .ok (.invokestatic 129, 3) := by decide +kernel
theorem dX5_note_26 : decode cX5_note 26 = .ok (.ifCond .eq 14, 3) := by decide +kernel
theorem dX5_note_29 : decode cX5_note 29 = .ok (.iload 4, 2) := by decide +kernel
theorem dX5_note_31 : decode cX5_note 31 = .ok (.iconst 1, 1) := by decide +kernel
theorem dX5_note_32 : decode cX5_note 32 = .ok (.bipush 40, 2) := by decide +kernel
theorem dX5_note_34 : decode cX5_note 34 = .ok (.invokestatic 91, 3) := by decide +kernel
theorem dX5_note_37 : decode cX5_note 37 = .ok (.ifCond .ne 7, 3) := by decide +kernel
theorem dX5_note_40 : decode cX5_note 40 = .ok (.iconst 2, 1) := by decide +kernel
theorem dX5_note_41 : decode cX5_note 41 = .ok (.goto 17, 3) := by decide +kernel
theorem dX5_note_44 : decode cX5_note 44 = .ok (.aload_n 0, 1) := by decide +kernel
theorem dX5_note_45 : decode cX5_note 45 = .ok (.getfield 30, 3) := by decide +kernel
theorem dX5_note_48 : decode cX5_note 48 = .ok (.iload_n 3, 1) := by decide +kernel
theorem dX5_note_49 : decode cX5_note 49 = .ok (.baload, 1) := by decide +kernel
theorem dX5_note_50 : decode cX5_note 50 = .ok (.ifCond .eq 7, 3) := by decide +kernel
theorem dX5_note_53 : decode cX5_note 53 = .ok (.iconst 3, 1) := by decide +kernel
theorem dX5_note_54 : decode cX5_note 54 = .ok (.goto 4, 3) := by decide +kernel
theorem dX5_note_57 : decode cX5_note 57 = .ok (.iconst 0, 1) := by decide +kernel
theorem dX5_note_58 : decode cX5_note 58 = .ok (.putfield 66, 3) := by decide +kernel
theorem dX5_note_61 : decode cX5_note 61 = .ok (.aload_n 0, 1) := by decide +kernel
theorem dX5_note_62 : decode cX5_note 62 = .ok (.getfield 66, 3) := by decide +kernel
theorem dX5_note_65 : decode cX5_note 65 = .ok (.ifCond .le 5, 3) := by decide +kernel
theorem dX5_note_68 : decode cX5_note 68 = .ok (.iconst 0, 1) := by decide +kernel
theorem dX5_note_69 : decode cX5_note 69 = .ok (.ireturn, 1) := by decide +kernel
theorem dX5_note_70 : decode cX5_note 70 = .ok (.aload_n 0, 1) := by decide +kernel
theorem dX5_note_71 : decode cX5_note 71 = .ok (.iload_n 1, 1) := by decide +kernel
theorem dX5_note_72 : decode cX5_note 72 = .ok (.invokevirtual 132, 3) := by decide +kernel
theorem dX5_note_75 : decode cX5_note 75 = .ok (.istore 5, 2) := by decide +kernel
theorem dX5_note_77 : decode cX5_note 77 = .ok (.aload_n 0, 1) := by decide +kernel
theorem dX5_note_78 : decode cX5_note 78 = .ok (.getfield 19, 3) := by decide +kernel
theorem dX5_note_81 : decode cX5_note 81 = .ok (.iload_n 1, 1) := by decide +kernel
theorem dX5_note_82 : decode cX5_note 82 = .ok (.caload, 1) := by decide +kernel
theorem dX5_note_83 : decode cX5_note 83 = .ok (.bipush 119, 2) := by decide +kernel
theorem dX5_note_85 : decode cX5_note 85 = .ok (.if_icmp .eq 14, 3) := by decide +kernel
theorem dX5_note_88 : decode cX5_note 88 = .ok (.aload_n 0, 1) := by decide +kernel
theorem dX5_note_89 : decode cX5_note 89 = .ok (.getfield 19, 3) := by decide +kernel
theorem dX5_note_92 : decode cX5_note 92 = .ok (.iload_n 1, 1) := by decide +kernel
theorem dX5_note_93 : decode cX5_note 93 = .ok (.caload, 1) := by decide +kernel
theorem dX5_note_94 : decode cX5_note 94 = .ok (.bipush 114, 2) := by decide +kernel
theorem dX5_note_96 : decode cX5_note 96 = .ok (.if_icmp .ne 29, 3) := by decide +kernel
theorem dX5_note_99 : decode cX5_note 99 = .ok (.iload 5, 2) := by decide +kernel
theorem dX5_note_101 : decode cX5_note 101 = .ok (.iconst (-1), 1) := by decide +kernel
theorem dX5_note_102 : decode cX5_note 102 = .ok (.if_icmp .eq 10, 3) := by decide +kernel
theorem dX5_note_105 : decode cX5_note 105 = .ok (.iload 4, 2) := by decide +kernel
theorem dX5_note_107 : decode cX5_note 107 = .ok (.iload 5, 2) := by decide +kernel
theorem dX5_note_109 : decode cX5_note 109 = .ok (.if_icmp .gt 16, 3) := by decide +kernel
theorem dX5_note_112 : decode cX5_note 112 = .ok (.aload_n 0, 1) := by decide +kernel
theorem dX5_note_113 : decode cX5_note 113 = .ok (.getfield 76, 3) := by decide +kernel
theorem dX5_note_116 : decode cX5_note 116 = .ok (.bipush 60, 2) := by decide +kernel
theorem dX5_note_118 : decode cX5_note 118 = .ok (.if_icmp .ge 7, 3) := by decide +kernel
theorem dX5_note_121 : decode cX5_note 121 = .ok (.iconst 1, 1) := by decide +kernel
theorem dX5_note_122 : decode cX5_note 122 = .ok (.goto 4, 3) := by decide +kernel
theorem dX5_note_125 : decode cX5_note 125 = .ok (.iconst 0, 1) := by decide +kernel
theorem dX5_note_126 : decode cX5_note 126 = .ok (.istore 6, 2) := by decide +kernel
theorem dX5_note_128 : decode cX5_note 128 = .ok (.aload_n 0, 1) := by decide +kernel
theorem dX5_note_129 : decode cX5_note 129 = .ok (.iload 6, 2) := by decide +kernel
theorem dX5_note_131 : decode cX5_note 131 = .ok (.ifCond .eq 7, 3) := by decide +kernel
theorem dX5_note_134 : decode cX5_note 134 = .ok (.iconst 0, 1) := by decide +kernel
theorem dX5_note_135 : decode cX5_note 135 = .ok (.goto 4, 3) := by decide +kernel
theorem dX5_note_138 : decode cX5_note 138 = .ok (.iconst 4, 1) := by decide +kernel
theorem dX5_note_139 : decode cX5_note 139 = .ok (.putfield 66, 3) := by decide +kernel
theorem dX5_note_142 : decode cX5_note 142 = .ok (.aload_n 0, 1) := by decide +kernel
theorem dX5_note_143 : decode cX5_note 143 = .ok (.getfield 66, 3) := by decide +kernel
theorem dX5_note_146 : decode cX5_note 146 = .ok (.ifCond .le 5, 3) := by decide +kernel
theorem dX5_note_149 : decode cX5_note 149 = .ok (.iconst 0, 1) := by decide +kernel
theorem dX5_note_150 : decode cX5_note 150 = .ok (.ireturn, 1) := by decide +kernel
theorem dX5_note_151 : decode cX5_note 151 = .ok (.aload_n 0, 1) := by decide +kernel
theorem dX5_note_152 : decode cX5_note 152 = .ok (.getfield 36, 3) := by decide +kernel
theorem dX5_note_155 : decode cX5_note 155 = .ok (.aload_n 0, 1) := by decide +kernel
theorem dX5_note_156 : decode cX5_note 156 = .ok (.getfield 76, 3) := by decide +kernel
theorem dX5_note_159 : decode cX5_note 159 = .ok (.iload_n 1, 1) := by decide +kernel
theorem dX5_note_160 : decode cX5_note 160 = .ok (.iastore, 1) := by decide +kernel
theorem dX5_note_161 : decode cX5_note 161 = .ok (.aload_n 0, 1) := by decide +kernel
theorem dX5_note_162 : decode cX5_note 162 = .ok (.getfield 39, 3) := by decide +kernel
theorem dX5_note_165 : decode cX5_note 165 = .ok (.aload_n 0, 1) := by decide +kernel
theorem dX5_note_166 : decode cX5_note 166 = .ok (.getfield 76, 3) := by decide +kernel
theorem dX5_note_169 : decode cX5_note 169 = .ok (.iload_n 2, 1) := by decide +kernel
theorem dX5_note_170 : decode cX5_note 170 = .ok (.iastore, 1) := by decide +kernel
theorem dX5_note_171 : decode cX5_note 171 = .ok (.aload_n 0, 1) := by decide +kernel
theorem dX5_note_172 : decode cX5_note 172 = .ok (.getfield 42, 3) := by decide +kernel
theorem dX5_note_175 : decode cX5_note 175 = .ok (.aload_n 0, 1) := by decide +kernel
theorem dX5_note_176 : decode cX5_note 176 = .ok (.getfield 76, 3) := by decide +kernel
theorem dX5_note_179 : decode cX5_note 179 = .ok (.iload_n 3, 1) := by decide +kernel
theorem dX5_note_180 : decode cX5_note 180 = .ok (.iastore, 1) := by decide +kernel
theorem dX5_note_181 : decode cX5_note 181 = .ok (.aload_n 0, 1) := by decide +kernel
theorem dX5_note_182 : decode cX5_note 182 = .ok (.getfield 45, 3) := by decide +kernel
theorem dX5_note_185 : decode cX5_note 185 = .ok (.aload_n 0, 1) := by decide +kernel
theorem dX5_note_186 : decode cX5_note 186 = .ok (.getfield 76, 3) := by decide +kernel
theorem dX5_note_189 : decode cX5_note 189 = .ok (.iload 4, 2) := by decide +kernel
theorem dX5_note_191 : decode cX5_note 191 = .ok (.iastore, 1) := by decide +kernel
theorem dX5_note_192 : decode cX5_note 192 = .ok (.aload_n 0, 1) := by decide +kernel
theorem dX5_note_193 : decode cX5_note 193 = .ok (.getfield 23, 3) := by decide +kernel
theorem dX5_note_196 : decode cX5_note 196 = .ok (.aload_n 0, 1) := by decide +kernel
theorem dX5_note_197 : decode cX5_note 197 = .ok (.getfield 76, 3) := by decide +kernel
theorem dX5_note_200 : decode cX5_note 200 = .ok (.bipush 110, 2) := by decide +kernel
theorem dX5_note_202 : decode cX5_note 202 = .ok (.castore, 1) := by decide +kernel
theorem dX5_note_203 : decode cX5_note 203 = .ok (.aload_n 0, 1) := by decide +kernel
theorem dX5_note_204 : decode cX5_note 204 = .ok (.dup, 1) := by decide +kernel
theorem dX5_note_205 : decode cX5_note 205 = .ok (.getfield 76, 3) := by decide +kernel
theorem dX5_note_208 : decode cX5_note 208 = .ok (.iconst 1, 1) := by decide +kernel
theorem dX5_note_209 : decode cX5_note 209 = .ok (.iadd, 1) := by decide +kernel
theorem dX5_note_210 : decode cX5_note 210 = .ok (.putfield 76, 3) := by decide +kernel
theorem dX5_note_213 : decode cX5_note 213 = .ok (.aload_n 0, 1) := by decide +kernel
theorem dX5_note_214 : decode cX5_note 214 = .ok (.getfield 76, 3) := by decide +kernel
theorem dX5_note_217 : decode cX5_note 217 = .ok (.iconst 1, 1) := by decide +kernel
theorem dX5_note_218 : decode cX5_note 218 = .ok (.isub, 1) := by decide +kernel
theorem dX5_note_219 : decode cX5_note 219 = .ok (.ireturn, 1) := by decide +kernel
set_option maxRecDepth 20000 in
theorem ggX5_approve_X5_isEntry : GoodIn wsX5_approve wsX5_isEntry := goodIn_r _ [11, 5, 12, 13, 10, 14, 15, 16, 17, 18, 19, 20, 21, 22, 23, 24, 25, 26, 27, 28, 29, 30, 31, 32, 33, 34, 35, 36, 37, 38, 39, 40] (by decide +kernel) (by decide +kernel)
set_option maxRecDepth 20000 in
theorem gX5_approve_X5_isEntry : GoodIn wsX5_approve (wsV RX5 135 RX5 yX5_isEntry wsX5_isEntry) := goodIn_app (goodIn_of _ (by decide +kernel)) ggX5_approve_X5_isEntry
theorem dX5_approve_0 : decode cX5_approve 0 = .ok (.aload_n 0, 1) := by decide +kernel
theorem dX5_approve_1 : decode cX5_approve 1 = .ok (.aload_n 0, 1) := by decide +kernel
theorem dX5_approve_2 : decode cX5_approve 2 = .ok (.iload_n 1, 1) := by decide +kernel
theorem dX5_approve_3 : decode cX5_approve 3 = .ok (.invokevirtual 135, 3) := by decide +kernel
theorem dX5_approve_6 : decode cX5_approve 6 = .ok (.ifCond .ne 7, 3) := by decide +kernel
theorem dX5_approve_9 : decode cX5_approve 9 = .ok (.iconst 1, 1) := by decide +kernel
theorem dX5_approve_10 : decode cX5_approve 10 = .ok (.goto 37, 3) := by decide +kernel
theorem dX5_approve_13 : decode cX5_approve 13 = .ok (.aload_n 0, 1) := by decide +kernel
theorem dX5_approve_14 : decode cX5_approve 14 = .ok (.getfield 23, 3) := by decide +kernel
theorem dX5_approve_17 : decode cX5_approve 17 = .ok (.iload_n 1, 1) := by decide +kernel
theorem dX5_approve_18 : decode cX5_approve 18 = .ok (.caload, 1) := by decide +kernel
theorem dX5_approve_19 : decode cX5_approve 19 = .ok (.bipush 110, 2) := by decide +kernel
theorem dX5_approve_21 : decode cX5_approve 21 = .ok (.if_icmp .eq 7, 3) := by decide +kernel
theorem dX5_approve_24 : decode cX5_approve 24 = .ok (.iconst 2, 1) := by decide +kernel
theorem dX5_approve_25 : decode cX5_approve 25 = .ok (.goto 22, 3) := by decide +kernel
theorem dX5_approve_28 : decode cX5_approve 28 = .ok (.aload_n 0, 1) := by decide +kernel
theorem dX5_approve_29 : decode cX5_approve 29 = .ok (.getfield 30, 3) := by decide +kernel
theorem dX5_approve_32 : decode cX5_approve 32 = .ok (.aload_n 0, 1) := by decide +kernel
theorem dX5_approve_33 : decode cX5_approve 33 = .ok (.getfield 42, 3) := by decide +kernel
theorem dX5_approve_36 : decode cX5_approve 36 = .ok (.iload_n 1, 1) := by decide +kernel
theorem dX5_approve_37 : decode cX5_approve 37 = .ok (.iaload, 1) := by decide +kernel
theorem dX5_approve_38 : decode cX5_approve 38 = .ok (.baload, 1) := by decide +kernel
theorem dX5_approve_39 : decode cX5_approve 39 = .ok (.ifCond .eq 7, 3) := by decide +kernel
theorem dX5_approve_42 : decode cX5_approve 42 = .ok (.iconst 3, 1) := by decide +kernel
theorem dX5_approve_43 : decode cX5_approve 43 = .ok (.goto 4, 3) := by decide +kernel
theorem dX5_approve_46 : decode cX5_approve 46 = .ok (.iconst 0, 1) := by decide +kernel
theorem dX5_approve_47 : decode cX5_approve 47 = .ok (.putfield 66, 3) := by decide +kernel
theorem dX5_approve_50 : decode cX5_approve 50 = .ok (.aload_n 0, 1) := by decide +kernel
theorem dX5_approve_51 : decode cX5_approve 51 = .ok (.getfield 66, 3) := by decide +kernel
theorem dX5_approve_54 : decode cX5_approve 54 = .ok (.ifCond .le 5, 3) := by decide +kernel
theorem dX5_approve_57 : decode cX5_approve 57 = .ok (.iconst 0, 1) := by decide +kernel
theorem dX5_approve_58 : decode cX5_approve 58 = .ok (.ireturn, 1) := by decide +kernel
theorem dX5_approve_59 : decode cX5_approve 59 = .ok (.aload_n 0, 1) := by decide +kernel
theorem dX5_approve_60 : decode cX5_approve 60 = .ok (.getfield 23, 3) := by decide +kernel
theorem dX5_approve_63 : decode cX5_approve 63 = .ok (.iload_n 1, 1) := by decide +kernel
theorem dX5_approve_64 : decode cX5_approve 64 = .ok (.bipush 97, 2) := by decide +kernel
theorem dX5_approve_66 : decode cX5_approve 66 = .ok (.castore, 1) := by decide +kernel
theorem dX5_approve_67 : decode cX5_approve 67 = .ok (.iconst 0, 1) := by decide +kernel
theorem dX5_approve_68 : decode cX5_approve 68 = .ok (.istore_n 2, 1) := by decide +kernel
theorem dX5_approve_69 : decode cX5_approve 69 = .ok (.iconst 0, 1) := by decide +kernel
theorem dX5_approve_70 : decode cX5_approve 70 = .ok (.istore_n 3, 1) := by decide +kernel
theorem dX5_approve_71 : decode cX5_approve 71 = .ok (.iload_n 3, 1) := by decide +kernel
theorem dX5_approve_72 : decode cX5_approve 72 = .ok (.aload_n 0, 1) := by decide +kernel
theorem dX5_approve_73 : decode cX5_approve 73 = .ok (.getfield 76, 3) := by decide +kernel
theorem dX5_approve_76 : decode cX5_approve 76 = .ok (.if_icmp .ge 48, 3) := by decide +kernel
theorem dX5_approve_79 : decode cX5_approve 79 = .ok (.iload_n 2, 1) := by decide +kernel
theorem dX5_approve_80 : decode cX5_approve 80 = .ok (.aload_n 0, 1) := by decide +kernel
theorem dX5_approve_81 : decode cX5_approve 81 = .ok (.getfield 42, 3) := by decide +kernel
theorem dX5_approve_84 : decode cX5_approve 84 = .ok (.iload_n 3, 1) := by decide +kernel
theorem dX5_approve_85 : decode cX5_approve 85 = .ok (.iaload, 1) := by decide +kernel
theorem dX5_approve_86 : decode cX5_approve 86 = .ok (.aload_n 0, 1) := by decide +kernel
theorem dX5_approve_87 : decode cX5_approve 87 = .ok (.getfield 42, 3) := by decide +kernel
theorem dX5_approve_90 : decode cX5_approve 90 = .ok (.iload_n 1, 1) := by decide +kernel
theorem dX5_approve_91 : decode cX5_approve 91 = .ok (.iaload, 1) := by decide +kernel
theorem dX5_approve_92 : decode cX5_approve 92 = .ok (.if_icmp .ne 23, 3) := by decide +kernel
theorem dX5_approve_95 : decode cX5_approve 95 = .ok (.aload_n 0, 1) := by decide +kernel
theorem dX5_approve_96 : decode cX5_approve 96 = .ok (.getfield 23, 3) := by decide +kernel
theorem dX5_approve_99 : decode cX5_approve 99 = .ok (.iload_n 3, 1) := by decide +kernel
theorem dX5_approve_100 : decode cX5_approve 100 = .ok (.caload, 1) := by decide +kernel
theorem dX5_approve_101 : decode cX5_approve 101 = .ok (.bipush 97, 2) := by decide +kernel
theorem dX5_approve_103 : decode cX5_approve 103 = .ok (.if_icmp .ne 12, 3) := by decide +kernel
theorem dX5_approve_106 : decode cX5_approve 106 = .ok (.aload_n 0, 1) := by decide +kernel
theorem dX5_approve_107 : decode cX5_approve 107 = .ok (.getfield 45, 3) := by decide +kernel
theorem dX5_approve_110 : decode cX5_approve 110 = .ok (.iload_n 3, 1) := by decide +kernel
theorem dX5_approve_111 : decode cX5_approve 111 = .ok (.iaload, 1) := by decide +kernel
theorem dX5_approve_112 : decode cX5_approve 112 = .ok (.goto 4, 3) := by decide +kernel
theorem dX5_approve_115 : decode cX5_approve 115 = .ok (.iconst 0, 1) := by decide +kernel
theorem dX5_approve_116 : decode cX5_approve 116 = .ok (.iadd, 1) := by decide +kernel
theorem dX5_approve_117 : decode cX5_approve 117 = .ok (.istore_n 2, 1) := by decide +kernel
theorem dX5_approve_118 : decode cX5_approve 118 = .ok (.iinc 3 1, 3) := by decide +kernel
theorem dX5_approve_121 : decode cX5_approve 121 = .ok (.goto (-50), 3) := by decide +kernel
theorem dX5_approve_124 : decode cX5_approve 124 = .ok (.iload_n 2, 1) := by decide +kernel
theorem dX5_approve_125 : decode cX5_approve 125 = .ok (.ireturn, 1) := by decide +kernel
set_option maxRecDepth 20000 in
theorem ggX5_lock_X5_isWeek : GoodIn wsX5_lock wsX5_isWeek := goodIn_r _ [9, 10, 11, 8, 12] (by decide +kernel) (by decide +kernel)
set_option maxRecDepth 20000 in
theorem gX5_lock_X5_isWeek : GoodIn wsX5_lock (va_wsS RX5 129 yX5_isWeek wsX5_isWeek) := goodIn_app (goodIn_of _ (by decide +kernel)) ggX5_lock_X5_isWeek
theorem dX5_lock_0 : decode cX5_lock 0 = .ok (.aload_n 0, 1) := by decide +kernel
theorem dX5_lock_1 : decode cX5_lock 1 = .ok (.iload_n 1, 1) := by decide +kernel
theorem dX5_lock_2 : decode cX5_lock 2 = .ok (.invokestatic 129, 3) := by decide +kernel
theorem dX5_lock_5 : decode cX5_lock 5 = .ok (.ifCond .ne 7, 3) := by decide +kernel
theorem dX5_lock_8 : decode cX5_lock 8 = .ok (.iconst 1, 1) := by decide +kernel
theorem dX5_lock_9 : decode cX5_lock 9 = .ok (.goto 17, 3) := by decide +kernel
theorem dX5_lock_12 : decode cX5_lock 12 = .ok (.aload_n 0, 1) := by decide +kernel
theorem dX5_lock_13 : decode cX5_lock 13 = .ok (.getfield 30, 3) := by decide +kernel
theorem dX5_lock_16 : decode cX5_lock 16 = .ok (.iload_n 1, 1) := by decide +kernel
theorem dX5_lock_17 : decode cX5_lock 17 = .ok (.baload, 1) := by decide +kernel
theorem dX5_lock_18 : decode cX5_lock 18 = .ok (.ifCond .eq 7, 3) := by decide +kernel
theorem dX5_lock_21 : decode cX5_lock 21 = .ok (.iconst 2, 1) := by decide +kernel
theorem dX5_lock_22 : decode cX5_lock 22 = .ok (.goto 4, 3) := by decide +kernel
theorem dX5_lock_25 : decode cX5_lock 25 = .ok (.iconst 0, 1) := by decide +kernel
theorem dX5_lock_26 : decode cX5_lock 26 = .ok (.putfield 66, 3) := by decide +kernel
theorem dX5_lock_29 : decode cX5_lock 29 = .ok (.aload_n 0, 1) := by decide +kernel
theorem dX5_lock_30 : decode cX5_lock 30 = .ok (.getfield 66, 3) := by decide +kernel
theorem dX5_lock_33 : decode cX5_lock 33 = .ok (.ifCond .le 5, 3) := by decide +kernel
theorem dX5_lock_36 : decode cX5_lock 36 = .ok (.iconst 0, 1) := by decide +kernel
theorem dX5_lock_37 : decode cX5_lock 37 = .ok (.ireturn, 1) := by decide +kernel
theorem dX5_lock_38 : decode cX5_lock 38 = .ok (.aload_n 0, 1) := by decide +kernel
theorem dX5_lock_39 : decode cX5_lock 39 = .ok (.getfield 30, 3) := by decide +kernel
theorem dX5_lock_42 : decode cX5_lock 42 = .ok (.iload_n 1, 1) := by decide +kernel
theorem dX5_lock_43 : decode cX5_lock 43 = .ok (.iconst 1, 1) := by decide +kernel
theorem dX5_lock_44 : decode cX5_lock 44 = .ok (.bastore, 1) := by decide +kernel
theorem dX5_lock_45 : decode cX5_lock 45 = .ok (.iconst 0, 1) := by decide +kernel
theorem dX5_lock_46 : decode cX5_lock 46 = .ok (.istore_n 2, 1) := by decide +kernel
theorem dX5_lock_47 : decode cX5_lock 47 = .ok (.iconst 0, 1) := by decide +kernel
theorem dX5_lock_48 : decode cX5_lock 48 = .ok (.istore_n 3, 1) := by decide +kernel
theorem dX5_lock_49 : decode cX5_lock 49 = .ok (.iload_n 3, 1) := by decide +kernel
theorem dX5_lock_50 : decode cX5_lock 50 = .ok (.aload_n 0, 1) := by decide +kernel
theorem dX5_lock_51 : decode cX5_lock 51 = .ok (.getfield 76, 3) := by decide +kernel
theorem dX5_lock_54 : decode cX5_lock 54 = .ok (.if_icmp .ge 44, 3) := by decide +kernel
theorem dX5_lock_57 : decode cX5_lock 57 = .ok (.aload_n 0, 1) := by decide +kernel
theorem dX5_lock_58 : decode cX5_lock 58 = .ok (.getfield 42, 3) := by decide +kernel
theorem dX5_lock_61 : decode cX5_lock 61 = .ok (.iload_n 3, 1) := by decide +kernel
theorem dX5_lock_62 : decode cX5_lock 62 = .ok (.iaload, 1) := by decide +kernel
theorem dX5_lock_63 : decode cX5_lock 63 = .ok (.iload_n 1, 1) := by decide +kernel
theorem dX5_lock_64 : decode cX5_lock 64 = .ok (.if_icmp .ne 28, 3) := by decide +kernel
theorem dX5_lock_67 : decode cX5_lock 67 = .ok (.aload_n 0, 1) := by decide +kernel
theorem dX5_lock_68 : decode cX5_lock 68 = .ok (.getfield 23, 3) := by decide +kernel
theorem dX5_lock_71 : decode cX5_lock 71 = .ok (.iload_n 3, 1) := by decide +kernel
theorem dX5_lock_72 : decode cX5_lock 72 = .ok (.caload, 1) := by decide +kernel
theorem dX5_lock_73 : decode cX5_lock 73 = .ok (.bipush 110, 2) := by decide +kernel
theorem dX5_lock_75 : decode cX5_lock 75 = .ok (.if_icmp .eq 6, 3) := by decide +kernel
theorem dX5_lock_78 : decode cX5_lock 78 = .ok (.goto 14, 3) := by decide +kernel
theorem dX5_lock_81 : decode cX5_lock 81 = .ok (.aload_n 0, 1) := by decide +kernel
theorem dX5_lock_82 : decode cX5_lock 82 = .ok (.getfield 23, 3) := by decide +kernel
theorem dX5_lock_85 : decode cX5_lock 85 = .ok (.iload_n 3, 1) := by decide +kernel
theorem dX5_lock_86 : decode cX5_lock 86 = .ok (.bipush 120, 2) := by decide +kernel
theorem dX5_lock_88 : decode cX5_lock 88 = .ok (.castore, 1) := by decide +kernel
theorem dX5_lock_89 : decode cX5_lock 89 = .ok (.iinc 2 1, 3) := by decide +kernel
theorem dX5_lock_92 : decode cX5_lock 92 = .ok (.iinc 3 1, 3) := by decide +kernel
theorem dX5_lock_95 : decode cX5_lock 95 = .ok (.goto (-46), 3) := by decide +kernel
theorem dX5_lock_98 : decode cX5_lock 98 = .ok (.iload_n 2, 1) := by decide +kernel
theorem dX5_lock_99 : decode cX5_lock 99 = .ok (.ireturn, 1) := by decide +kernel
set_option maxRecDepth 20000 in
theorem ggX5_entryState_X5_isEntry : GoodIn wsX5_entryState wsX5_isEntry := goodIn_r _ [6, 7, 8, 9, 5, 10, 16, 17, 18, 19, 20, 21, 22, 23, 24, 25, 26, 27, 28, 29, 30, 31, 32, 33, 34, 35, 36, 37, 38, 39, 40, 41] (by decide +kernel) (by decide +kernel)
set_option maxRecDepth 20000 in
theorem gX5_entryState_X5_isEntry : GoodIn wsX5_entryState (wsV RX5 135 RX5 yX5_isEntry wsX5_isEntry) := goodIn_app (goodIn_of _ (by decide +kernel)) ggX5_entryState_X5_isEntry
set_option maxRecDepth 20000 in
theorem ggX5_entryState_X5_checked : GoodIn wsX5_entryState wsX5_checked := goodIn_r _ [14, 15, 16, 17, 18, 19, 20, 21, 22, 23, 24, 25, 26, 27, 28, 29, 30, 31, 32, 33, 34, 35, 36, 37, 38, 39, 40, 41] (by decide +kernel) (by decide +kernel)
set_option maxRecDepth 20000 in
theorem gX5_entryState_X5_checked : GoodIn wsX5_entryState (wsV RX5 115 RX5 yX5_checked wsX5_checked) := goodIn_app (goodIn_of _ (by decide +kernel)) ggX5_entryState_X5_checked
theorem dX5_entryState_0 : decode cX5_entryState 0 = .ok (.aload_n 0, 1) := by decide +kernel
theorem dX5_entryState_1 : decode cX5_entryState 1 = .ok (.aload_n 0, 1) := by decide +kernel
theorem dX5_entryState_2 : decode cX5_entryState 2 = .ok (.iload_n 1, 1) := by decide +kernel
theorem dX5_entryState_3 : decode cX5_entryState 3 = .ok (.invokevirtual 135, 3) := by decide +kernel
theorem dX5_entryState_6 : decode cX5_entryState 6 = .ok (.invokevirtual 115, 3) := by decide +kernel
theorem dX5_entryState_9 : decode cX5_entryState 9 = .ok (.ifCond .le 8, 3) := by decide +kernel
theorem dX5_entryState_12 : decode cX5_entryState 12 = .ok (.bipush 32, 2) := by decide +kernel
theorem dX5_entryState_14 : decode cX5_entryState 14 = .ok (.goto 9, 3) := by decide +kernel
theorem dX5_entryState_17 : decode cX5_entryState 17 = .ok (.aload_n 0, 1) := by decide +kernel
theorem dX5_entryState_18 : decode cX5_entryState 18 = .ok (.getfield 23, 3) := by decide +kernel
theorem dX5_entryState_21 : decode cX5_entryState 21 = .ok (.iload_n 1, 1) := by decide +kernel
theorem dX5_entryState_22 : decode cX5_entryState 22 = .ok (.caload, 1) := by decide +kernel
theorem dX5_entryState_23 : decode cX5_entryState 23 = .ok (.ireturn, 1) := by decide +kernel
theorem dX5_wasBilled_0 : decode cX5_wasBilled 0 = .ok (.aload_n 0, 1) := by decide +kernel
theorem dX5_wasBilled_1 : decode cX5_wasBilled 1 = .ok (.getfield 23, 3) := by decide +kernel
theorem dX5_wasBilled_4 : decode cX5_wasBilled 4 = .ok (.iload_n 1, 1) := by decide +kernel
theorem dX5_wasBilled_5 : decode cX5_wasBilled 5 = .ok (.caload, 1) := by decide +kernel
theorem dX5_wasBilled_6 : decode cX5_wasBilled 6 = .ok (.bipush 98, 2) := by decide +kernel
theorem dX5_wasBilled_8 : decode cX5_wasBilled 8 = .ok (.if_icmp .eq 14, 3) := by decide +kernel
theorem dX5_wasBilled_11 : decode cX5_wasBilled 11 = .ok (.aload_n 0, 1) := by decide +kernel
theorem dX5_wasBilled_12 : decode cX5_wasBilled 12 = .ok (.getfield 23, 3) := by decide +kernel
theorem dX5_wasBilled_15 : decode cX5_wasBilled 15 = .ok (.iload_n 1, 1) := by decide +kernel
theorem dX5_wasBilled_16 : decode cX5_wasBilled 16 = .ok (.caload, 1) := by decide +kernel
theorem dX5_wasBilled_17 : decode cX5_wasBilled 17 = .ok (.bipush 99, 2) := by decide +kernel
theorem dX5_wasBilled_19 : decode cX5_wasBilled 19 = .ok (.if_icmp .ne 7, 3) := by decide +kernel
theorem dX5_wasBilled_22 : decode cX5_wasBilled 22 = .ok (.iconst 1, 1) := by decide +kernel
theorem dX5_wasBilled_23 : decode cX5_wasBilled 23 = .ok (.goto 4, 3) := by decide +kernel
theorem dX5_wasBilled_26 : decode cX5_wasBilled 26 = .ok (.iconst 0, 1) := by decide +kernel
theorem dX5_wasBilled_27 : decode cX5_wasBilled 27 = .ok (.ireturn, 1) := by decide +kernel
set_option maxRecDepth 20000 in
theorem ggX5_wrongBilled_X5_isEntry : GoodIn wsX5_wrongBilled wsX5_isEntry := goodIn_r _ [5, 6, 7, 8, 4, 9, 15, 16, 17, 18, 19, 20, 21, 22, 23, 24, 25, 26, 27, 28, 29, 30, 31, 32, 33, 34, 35, 36, 37, 38, 39, 40] (by decide +kernel) (by decide +kernel)
set_option maxRecDepth 20000 in
theorem gX5_wrongBilled_X5_isEntry : GoodIn wsX5_wrongBilled (wsV RX5 135 RX5 yX5_isEntry wsX5_isEntry) := goodIn_app (goodIn_of _ (by decide +kernel)) ggX5_wrongBilled_X5_isEntry
set_option maxRecDepth 20000 in
theorem ggX5_wrongBilled_X5_wasBilled : GoodIn wsX5_wrongBilled wsX5_wasBilled := goodIn_ca (goodIn_r _ [13, 14, 15, 16, 17, 18, 19, 20, 21, 22, 23, 24, 25, 26, 27, 28, 29, 30, 31, 32, 33, 34, 35, 36, 37, 38, 39, 40] (by decide +kernel) (by decide +kernel)) (goodIn_sub (fun _ h => List.mem_cons_of_mem _ (List.mem_append_right _ h)) (by decide +kernel))
set_option maxRecDepth 20000 in
theorem gX5_wrongBilled_X5_wasBilled : GoodIn wsX5_wrongBilled (wsV RX5 138 RX5 yX5_wasBilled wsX5_wasBilled) := goodIn_app (goodIn_of _ (by decide +kernel)) ggX5_wrongBilled_X5_wasBilled
theorem dX5_wrongBilled_0 : decode cX5_wrongBilled 0 = .ok (.aload_n 0, 1) := by decide +kernel
theorem dX5_wrongBilled_1 : decode cX5_wrongBilled 1 = .ok (.iload_n 1, 1) := by decide +kernel
theorem dX5_wrongBilled_2 : decode cX5_wrongBilled 2 = .ok (.invokevirtual 135, 3) := by decide +kernel
theorem dX5_wrongBilled_5 : decode cX5_wrongBilled 5 = .ok (.ifCond .ne 7, 3) := by decide +kernel
theorem dX5_wrongBilled_8 : decode cX5_wrongBilled 8 = .ok (.iconst 1, 1) := by decide +kernel
theorem dX5_wrongBilled_9 : decode cX5_wrongBilled 9 = .ok (.goto 16, 3) := by decide +kernel
theorem dX5_wrongBilled_12 : decode cX5_wrongBilled 12 = .ok (.aload_n 0, 1) := by decide +kernel
theorem dX5_wrongBilled_13 : decode cX5_wrongBilled 13 = .ok (.iload_n 1, 1) := by decide +kernel
theorem dX5_wrongBilled_14 : decode cX5_wrongBilled 14 = .ok (.invokevirtual 138, 3) := by decide +kernel
theorem dX5_wrongBilled_17 : decode cX5_wrongBilled 17 = .ok (.ifCond .ne 7, 3) := by decide +kernel
theorem dX5_wrongBilled_20 : decode cX5_wrongBilled 20 = .ok (.iconst 2, 1) := by decide +kernel
theorem dX5_wrongBilled_21 : decode cX5_wrongBilled 21 = .ok (.goto 4, 3) := by decide +kernel
theorem dX5_wrongBilled_24 : decode cX5_wrongBilled 24 = .ok (.iconst 0, 1) := by decide +kernel
theorem dX5_wrongBilled_25 : decode cX5_wrongBilled 25 = .ok (.ireturn, 1) := by decide +kernel
set_option maxRecDepth 20000 in
theorem ggX5_price_X5_wrongBilled : GoodIn wsX5_price wsX5_wrongBilled := goodIn_ca (goodIn_r _ [7, 8, 9, 10, 6, 11, 12, 13, 14, 15, 16, 17, 18, 19, 20, 21, 22, 23, 24, 25, 26, 27, 28, 29, 30, 31, 32, 33, 34, 35, 36, 37, 38, 39, 40, 41, 42, 43, 44, 45, 46] (by decide +kernel) (by decide +kernel)) (goodIn_sub (fun _ h => List.mem_cons_of_mem _ (List.mem_append_right _ h)) (by decide +kernel))
set_option maxRecDepth 20000 in
theorem gX5_price_X5_wrongBilled : GoodIn wsX5_price (wsV RX5 141 RX5 yX5_wrongBilled wsX5_wrongBilled) := goodIn_app (goodIn_of _ (by decide +kernel)) ggX5_price_X5_wrongBilled
theorem dX5_price_0 : decode cX5_price 0 = .ok (.aload_n 0, 1) := by decide +kernel
theorem dX5_price_1 : decode cX5_price 1 = .ok (.aload_n 0, 1) := by decide +kernel
theorem dX5_price_2 : decode cX5_price 2 = .ok (.iload_n 1, 1) := by decide +kernel
theorem dX5_price_3 : decode cX5_price 3 = .ok (.invokevirtual 141, 3) := by decide +kernel
theorem dX5_price_6 : decode cX5_price 6 = .ok (.putfield 66, 3) := by decide +kernel
theorem dX5_price_9 : decode cX5_price 9 = .ok (.aload_n 0, 1) := by decide +kernel
theorem dX5_price_10 : decode cX5_price 10 = .ok (.getfield 66, 3) := by decide +kernel
theorem dX5_price_13 : decode cX5_price 13 = .ok (.ifCond .le 7, 3) := by decide +kernel
theorem dX5_price_16 : decode cX5_price 16 = .ok (.iconst 0, 1) := by decide +kernel
theorem dX5_price_17 : decode cX5_price 17 = .ok (.goto 9, 3) := by decide +kernel
theorem dX5_price_20 : decode cX5_price 20 = .ok (.aload_n 0, 1) := by decide +kernel
theorem dX5_price_21 : decode cX5_price 21 = .ok (.getfield 48, 3) := by decide +kernel
theorem dX5_price_24 : decode cX5_price 24 = .ok (.iload_n 1, 1) := by decide +kernel
theorem dX5_price_25 : decode cX5_price 25 = .ok (.iaload, 1) := by decide +kernel
theorem dX5_price_26 : decode cX5_price 26 = .ok (.ireturn, 1) := by decide +kernel
set_option maxRecDepth 20000 in
theorem ggX5_entries_X5_plain : GoodIn wsX5_entries wsX5_plain := goodIn_r _ [6, 7, 8, 9, 10, 11, 12, 13, 14, 15, 16, 17, 18, 19, 20, 21, 22, 23, 24, 25, 26, 27, 28, 29, 30, 31, 32, 33] (by decide +kernel) (by decide +kernel)
set_option maxRecDepth 20000 in
theorem gX5_entries_X5_plain : GoodIn wsX5_entries (wsV RX5 122 RX5 yX5_plain wsX5_plain) := goodIn_app (goodIn_of _ (by decide +kernel)) ggX5_entries_X5_plain
theorem dX5_entries_0 : decode cX5_entries 0 = .ok (.aload_n 0, 1) := by decide +kernel
theorem dX5_entries_1 : decode cX5_entries 1 = .ok (.aload_n 0, 1) := by decide +kernel
theorem dX5_entries_2 : decode cX5_entries 2 = .ok (.getfield 76, 3) := by decide +kernel
theorem dX5_entries_5 : decode cX5_entries 5 = .ok (.invokevirtual 122, 3) := by decide +kernel
theorem dX5_entries_8 : decode cX5_entries 8 = .ok (.ireturn, 1) := by decide +kernel
set_option maxRecDepth 20000 in
theorem ggX5_hours_X5_isTask : GoodIn wsX5_hours wsX5_isTask := goodIn_r _ [5, 6, 7, 8, 4, 9, 27, 28, 29, 30, 31, 32, 33, 34, 35, 36, 37, 38, 39, 40, 41, 42, 43, 44, 45, 46, 47, 48, 49, 50, 51, 52] (by decide +kernel) (by decide +kernel)
set_option maxRecDepth 20000 in
theorem gX5_hours_X5_isTask : GoodIn wsX5_hours (wsV RX5 95 RX5 yX5_isTask wsX5_isTask) := goodIn_app (goodIn_of _ (by decide +kernel)) ggX5_hours_X5_isTask
set_option maxRecDepth 20000 in
theorem ggX5_hours_X5_checked : GoodIn wsX5_hours wsX5_checked := goodIn_r _ [13, 14, 27, 28, 29, 30, 31, 32, 33, 34, 35, 36, 37, 38, 39, 40, 41, 42, 43, 44, 45, 46, 47, 48, 49, 50, 51, 52] (by decide +kernel) (by decide +kernel)
set_option maxRecDepth 20000 in
theorem gX5_hours_X5_checked : GoodIn wsX5_hours (wsV RX5 115 RX5 yX5_checked wsX5_checked) := goodIn_app (goodIn_of _ (by decide +kernel)) ggX5_hours_X5_checked
set_option maxRecDepth 20000 in
theorem ggX5_hours_X5_hoursIn : GoodIn wsX5_hours wsX5_hoursIn := goodIn_ca (goodIn_r _ [18, 19, 20, 21, 22, 23, 24, 4, 25, 26, 27, 28, 29, 30, 31, 32, 33, 34, 35, 36, 37, 38, 39, 40, 41, 42, 43, 44, 45, 46, 47, 48, 49, 50, 51, 52] (by decide +kernel) (by decide +kernel)) (goodIn_sub (fun _ h => List.mem_cons_of_mem _ (List.mem_append_right _ h)) (by decide +kernel))
set_option maxRecDepth 20000 in
theorem gX5_hours_X5_hoursIn : GoodIn wsX5_hours (wsV RX5 126 RX5 yX5_hoursIn wsX5_hoursIn) := goodIn_app (goodIn_of _ (by decide +kernel)) ggX5_hours_X5_hoursIn
theorem dX5_hours_0 : decode cX5_hours 0 = .ok (.aload_n 0, 1) := by decide +kernel
theorem dX5_hours_1 : decode cX5_hours 1 = .ok (.aload_n 0, 1) := by decide +kernel
theorem dX5_hours_2 : decode cX5_hours 2 = .ok (.iload_n 1, 1) := by decide +kernel
theorem dX5_hours_3 : decode cX5_hours 3 = .ok (.invokevirtual 95, 3) := by decide +kernel
theorem dX5_hours_6 : decode cX5_hours 6 = .ok (.invokevirtual 115, 3) := by decide +kernel
theorem dX5_hours_9 : decode cX5_hours 9 = .ok (.ifCond .le 7, 3) := by decide +kernel
theorem dX5_hours_12 : decode cX5_hours 12 = .ok (.iconst 0, 1) := by decide +kernel
theorem dX5_hours_13 : decode cX5_hours 13 = .ok (.goto 8, 3) := by decide +kernel
theorem dX5_hours_16 : decode cX5_hours 16 = .ok (.aload_n 0, 1) := by decide +kernel
theorem dX5_hours_17 : decode cX5_hours 17 = .ok (.iload_n 1, 1) := by decide +kernel
theorem dX5_hours_18 : decode cX5_hours 18 = .ok (.invokevirtual 126, 3) := by decide +kernel
theorem dX5_hours_21 : decode cX5_hours 21 = .ok (.ireturn, 1) := by decide +kernel
set_option maxRecDepth 20000 in
theorem ggX5_room_X5_isTask : GoodIn wsX5_room wsX5_isTask := goodIn_r _ [6, 7, 8, 9, 5, 10, 28, 29, 30, 31, 32, 33, 34, 35, 36, 37, 38, 39, 40, 41, 42, 43, 44, 45, 46, 47, 48, 49, 50, 51, 52, 53] (by decide +kernel) (by decide +kernel)
set_option maxRecDepth 20000 in
theorem gX5_room_X5_isTask : GoodIn wsX5_room (wsV RX5 95 RX5 yX5_isTask wsX5_isTask) := goodIn_app (goodIn_of _ (by decide +kernel)) ggX5_room_X5_isTask
set_option maxRecDepth 20000 in
theorem ggX5_room_X5_roomFor : GoodIn wsX5_room wsX5_roomFor := goodIn_ca (goodIn_r _ [14, 15, 16, 17, 18, 19, 5, 20, 21, 22, 23, 24, 25, 26, 27, 28, 29, 30, 31, 32, 33, 34, 35, 36, 37, 38, 39, 40, 41, 42, 43, 44, 45, 46, 47, 48, 49, 50, 51, 52, 53] (by decide +kernel) (by decide +kernel)) (goodIn_sub (fun _ h => List.mem_cons_of_mem _ (List.mem_append_right _ h)) (by decide +kernel))
set_option maxRecDepth 20000 in
theorem gX5_room_X5_roomFor : GoodIn wsX5_room (wsV RX5 132 RX5 yX5_roomFor wsX5_roomFor) := goodIn_app (goodIn_of _ (by decide +kernel)) ggX5_room_X5_roomFor
theorem dX5_room_0 : decode cX5_room 0 = .ok (.aload_n 0, 1) := by decide +kernel
theorem dX5_room_1 : decode cX5_room 1 = .ok (.aload_n 0, 1) := by decide +kernel
theorem dX5_room_2 : decode cX5_room 2 = .ok (.iload_n 1, 1) := by decide +kernel
theorem dX5_room_3 : decode cX5_room 3 = .ok (.invokevirtual 95, 3) := by decide +kernel
theorem dX5_room_6 : decode cX5_room 6 = .ok (.ifCond .ne 7, 3) := by decide +kernel
theorem dX5_room_9 : decode cX5_room 9 = .ok (.iconst 1, 1) := by decide +kernel
theorem dX5_room_10 : decode cX5_room 10 = .ok (.goto 17, 3) := by decide +kernel
theorem dX5_room_13 : decode cX5_room 13 = .ok (.aload_n 0, 1) := by decide +kernel
theorem dX5_room_14 : decode cX5_room 14 = .ok (.iload_n 1, 1) := by decide +kernel
theorem dX5_room_15 : decode cX5_room 15 = .ok (.invokevirtual 132, 3) := by decide +kernel
theorem dX5_room_18 : decode cX5_room 18 = .ok (.iconst (-1), 1) := by decide +kernel
theorem dX5_room_19 : decode cX5_room 19 = .ok (.if_icmp .ne 7, 3) := by decide +kernel
theorem dX5_room_22 : decode cX5_room 22 = .ok (.iconst 2, 1) := by decide +kernel
theorem dX5_room_23 : decode cX5_room 23 = .ok (.goto 4, 3) := by decide +kernel
theorem dX5_room_26 : decode cX5_room 26 = .ok (.iconst 0, 1) := by decide +kernel
theorem dX5_room_27 : decode cX5_room 27 = .ok (.putfield 66, 3) := by decide +kernel
theorem dX5_room_30 : decode cX5_room 30 = .ok (.aload_n 0, 1) := by decide +kernel
theorem dX5_room_31 : decode cX5_room 31 = .ok (.getfield 66, 3) := by decide +kernel
theorem dX5_room_34 : decode cX5_room 34 = .ok (.ifCond .le 7, 3) := by decide +kernel
theorem dX5_room_37 : decode cX5_room 37 = .ok (.iconst 0, 1) := by decide +kernel
theorem dX5_room_38 : decode cX5_room 38 = .ok (.goto 8, 3) := by decide +kernel
theorem dX5_room_41 : decode cX5_room 41 = .ok (.aload_n 0, 1) := by decide +kernel
theorem dX5_room_42 : decode cX5_room 42 = .ok (.iload_n 1, 1) := by decide +kernel
theorem dX5_room_43 : decode cX5_room 43 = .ok (.invokevirtual 132, 3) := by decide +kernel
theorem dX5_room_46 : decode cX5_room 46 = .ok (.ireturn, 1) := by decide +kernel
set_option maxRecDepth 20000 in
theorem ggX5_setRate_X5_in : GoodIn wsX5_setRate wsX5_in := goodIn_r _ [5] (by decide +kernel) (by decide +kernel)
set_option maxRecDepth 20000 in
theorem gX5_setRate_X5_in : GoodIn wsX5_setRate (va_wsS RX5 91 yX5_in wsX5_in) := goodIn_app (goodIn_of _ (by decide +kernel)) ggX5_setRate_X5_in
set_option maxRecDepth 20000 in
theorem ggX5_setRate_X5_checked : GoodIn wsX5_setRate wsX5_checked := goodIn_r _ [9, 10, 11, 12, 13, 14, 15, 16, 17, 18, 19, 20, 21, 22, 23, 24, 25, 26, 27, 28, 29, 30, 31, 32, 33, 34, 35, 36] (by decide +kernel) (by decide +kernel)
set_option maxRecDepth 20000 in
theorem gX5_setRate_X5_checked : GoodIn wsX5_setRate (wsV RX5 115 RX5 yX5_checked wsX5_checked) := goodIn_app (goodIn_of _ (by decide +kernel)) ggX5_setRate_X5_checked
theorem dX5_setRate_0 : decode cX5_setRate 0 = .ok (.aload_n 0, 1) := by decide +kernel
theorem dX5_setRate_1 : decode cX5_setRate 1 = .ok (.iload_n 1, 1) := by decide +kernel
theorem dX5_setRate_2 : decode cX5_setRate 2 = .ok (.iconst 0, 1) := by decide +kernel
theorem dX5_setRate_3 : decode cX5_setRate 3 = .ok (.iconst 3, 1) := by decide +kernel
theorem dX5_setRate_4 : decode cX5_setRate 4 = .ok (.invokestatic 91, 3) := by decide +kernel
theorem dX5_setRate_7 : decode cX5_setRate 7 = .ok (.ifCond .eq 18, 3) := by decide +kernel
theorem dX5_setRate_10 : decode cX5_setRate 10 = .ok (.iload_n 2, 1) := by decide +kernel
theorem dX5_setRate_11 : decode cX5_setRate 11 = .ok (.iconst 0, 1) := by decide +kernel
theorem dX5_setRate_12 : decode cX5_setRate 12 = .ok (.sipush 200, 3) := by decide +kernel
theorem dX5_setRate_15 : decode cX5_setRate 15 = .ok (.invokestatic 91, 3) := by decide +kernel
theorem dX5_setRate_18 : decode cX5_setRate 18 = .ok (.ifCond .eq 7, 3) := by decide +kernel
theorem dX5_setRate_21 : decode cX5_setRate 21 = .ok (.iconst 1, 1) := by decide +kernel
theorem dX5_setRate_22 : decode cX5_setRate 22 = .ok (.goto 4, 3) := by decide +kernel
theorem dX5_setRate_25 : decode cX5_setRate 25 = .ok (.iconst 0, 1) := by decide +kernel
theorem dX5_setRate_26 : decode cX5_setRate 26 = .ok (.invokevirtual 115, 3) := by decide +kernel
theorem dX5_setRate_29 : decode cX5_setRate 29 = .ok (.ifCond .le 5, 3) := by decide +kernel
theorem dX5_setRate_32 : decode cX5_setRate 32 = .ok (.iconst 0, 1) := by decide +kernel
theorem dX5_setRate_33 : decode cX5_setRate 33 = .ok (.ireturn, 1) := by decide +kernel
theorem dX5_setRate_34 : decode cX5_setRate 34 = .ok (.aload_n 0, 1) := by decide +kernel
theorem dX5_setRate_35 : decode cX5_setRate 35 = .ok (.getfield 54, 3) := by decide +kernel
theorem dX5_setRate_38 : decode cX5_setRate 38 = .ok (.iload_n 1, 1) := by decide +kernel
theorem dX5_setRate_39 : decode cX5_setRate 39 = .ok (.iaload, 1) := by decide +kernel
theorem dX5_setRate_40 : decode cX5_setRate 40 = .ok (.istore_n 3, 1) := by decide +kernel
theorem dX5_setRate_41 : decode cX5_setRate 41 = .ok (.aload_n 0, 1) := by decide +kernel
theorem dX5_setRate_42 : decode cX5_setRate 42 = .ok (.getfield 54, 3) := by decide +kernel
theorem dX5_setRate_45 : decode cX5_setRate 45 = .ok (.iload_n 1, 1) := by decide +kernel
theorem dX5_setRate_46 : decode cX5_setRate 46 = .ok (.iload_n 2, 1) := by decide +kernel
theorem dX5_setRate_47 : decode cX5_setRate 47 = .ok (.iastore, 1) := by decide +kernel
theorem dX5_setRate_48 : decode cX5_setRate 48 = .ok (.iload_n 3, 1) := by decide +kernel
theorem dX5_setRate_49 : decode cX5_setRate 49 = .ok (.ireturn, 1) := by decide +kernel
set_option maxRecDepth 20000 in
theorem ggX5_setCap_X5_in : GoodIn wsX5_setCap wsX5_in := goodIn_r _ [5] (by decide +kernel) (by decide +kernel)
set_option maxRecDepth 20000 in
theorem gX5_setCap_X5_in : GoodIn wsX5_setCap (va_wsS RX5 91 yX5_in wsX5_in) := goodIn_app (goodIn_of _ (by decide +kernel)) ggX5_setCap_X5_in
set_option maxRecDepth 20000 in
theorem ggX5_setCap_X5_checked : GoodIn wsX5_setCap wsX5_checked := goodIn_r _ [9, 10, 11, 12, 13, 14, 15, 16, 17, 18, 19, 20, 21, 22, 23, 24, 25, 26, 27, 28, 29, 30, 31, 32, 33, 34, 35, 36] (by decide +kernel) (by decide +kernel)
set_option maxRecDepth 20000 in
theorem gX5_setCap_X5_checked : GoodIn wsX5_setCap (wsV RX5 115 RX5 yX5_checked wsX5_checked) := goodIn_app (goodIn_of _ (by decide +kernel)) ggX5_setCap_X5_checked
theorem dX5_setCap_0 : decode cX5_setCap 0 = .ok (.aload_n 0, 1) := by decide +kernel
theorem dX5_setCap_1 : decode cX5_setCap 1 = .ok (.iload_n 1, 1) := by decide +kernel
theorem dX5_setCap_2 : decode cX5_setCap 2 = .ok (.iconst 0, 1) := by decide +kernel
theorem dX5_setCap_3 : decode cX5_setCap 3 = .ok (.bipush 60, 2) := by decide +kernel
theorem dX5_setCap_5 : decode cX5_setCap 5 = .ok (.invokestatic 91, 3) := by decide +kernel
theorem dX5_setCap_8 : decode cX5_setCap 8 = .ok (.invokevirtual 115, 3) := by decide +kernel
theorem dX5_setCap_11 : decode cX5_setCap 11 = .ok (.ifCond .le 5, 3) := by decide +kernel
theorem dX5_setCap_14 : decode cX5_setCap 14 = .ok (.iconst 0, 1) := by decide +kernel
theorem dX5_setCap_15 : decode cX5_setCap 15 = .ok (.ireturn, 1) := by decide +kernel
theorem dX5_setCap_16 : decode cX5_setCap 16 = .ok (.aload_n 0, 1) := by decide +kernel
theorem dX5_setCap_17 : decode cX5_setCap 17 = .ok (.getfield 82, 3) := by decide +kernel
theorem dX5_setCap_20 : decode cX5_setCap 20 = .ok (.istore_n 2, 1) := by decide +kernel
theorem dX5_setCap_21 : decode cX5_setCap 21 = .ok (.aload_n 0, 1) := by decide +kernel
theorem dX5_setCap_22 : decode cX5_setCap 22 = .ok (.iload_n 1, 1) := by decide +kernel
theorem dX5_setCap_23 : decode cX5_setCap 23 = .ok (.putfield 82, 3) := by decide +kernel
theorem dX5_setCap_26 : decode cX5_setCap 26 = .ok (.iload_n 2, 1) := by decide +kernel
theorem dX5_setCap_27 : decode cX5_setCap 27 = .ok (.ireturn, 1) := by decide +kernel
set_option maxRecDepth 20000 in
theorem ggX5_setDiscount_X5_in : GoodIn wsX5_setDiscount wsX5_in := goodIn_r _ [7] (by decide +kernel) (by decide +kernel)
set_option maxRecDepth 20000 in
theorem gX5_setDiscount_X5_in : GoodIn wsX5_setDiscount (va_wsS RX5 91 yX5_in wsX5_in) := goodIn_app (goodIn_of _ (by decide +kernel)) ggX5_setDiscount_X5_in
set_option maxRecDepth 20000 in
theorem ggX5_setDiscount_X5_checked : GoodIn wsX5_setDiscount wsX5_checked := goodIn_r _ [11, 12, 13, 14, 15, 16, 17, 18, 19, 20, 21, 22, 23, 24, 25, 26, 27, 28, 29, 30, 31, 32, 33, 34, 35, 36, 37, 38] (by decide +kernel) (by decide +kernel)
set_option maxRecDepth 20000 in
theorem gX5_setDiscount_X5_checked : GoodIn wsX5_setDiscount (wsV RX5 115 RX5 yX5_checked wsX5_checked) := goodIn_app (goodIn_of _ (by decide +kernel)) ggX5_setDiscount_X5_checked
theorem dX5_setDiscount_0 : decode cX5_setDiscount 0 = .ok (.aload_n 0, 1) := by decide +kernel
theorem dX5_setDiscount_1 : decode cX5_setDiscount 1 = .ok (.iload_n 1, 1) := by decide +kernel
theorem dX5_setDiscount_2 : decode cX5_setDiscount 2 = .ok (.iconst 0, 1) := by decide +kernel
theorem dX5_setDiscount_3 : decode cX5_setDiscount 3 = .ok (.ldc 144, 2) := by decide +kernel
theorem dX5_setDiscount_5 : decode cX5_setDiscount 5 = .ok (.invokestatic 91, 3) := by decide +kernel
theorem dX5_setDiscount_8 : decode cX5_setDiscount 8 = .ok (.ifCond .eq 17, 3) := by decide +kernel
theorem dX5_setDiscount_11 : decode cX5_setDiscount 11 = .ok (.iload_n 2, 1) := by decide +kernel
theorem dX5_setDiscount_12 : decode cX5_setDiscount 12 = .ok (.iconst 0, 1) := by decide +kernel
theorem dX5_setDiscount_13 : decode cX5_setDiscount 13 = .ok (.bipush 50, 2) := by decide +kernel
theorem dX5_setDiscount_15 : decode cX5_setDiscount 15 = .ok (.invokestatic 91, 3) := by decide +kernel
theorem dX5_setDiscount_18 : decode cX5_setDiscount 18 = .ok (.ifCond .eq 7, 3) := by decide +kernel
theorem dX5_setDiscount_21 : decode cX5_setDiscount 21 = .ok (.iconst 1, 1) := by decide +kernel
theorem dX5_setDiscount_22 : decode cX5_setDiscount 22 = .ok (.goto 4, 3) := by decide +kernel
theorem dX5_setDiscount_25 : decode cX5_setDiscount 25 = .ok (.iconst 0, 1) := by decide +kernel
theorem dX5_setDiscount_26 : decode cX5_setDiscount 26 = .ok (.invokevirtual 115, 3) := by decide +kernel
theorem dX5_setDiscount_29 : decode cX5_setDiscount 29 = .ok (.ifCond .le 5, 3) := by decide +kernel
theorem dX5_setDiscount_32 : decode cX5_setDiscount 32 = .ok (.iconst 0, 1) := by decide +kernel
theorem dX5_setDiscount_33 : decode cX5_setDiscount 33 = .ok (.ireturn, 1) := by decide +kernel
theorem dX5_setDiscount_34 : decode cX5_setDiscount 34 = .ok (.aload_n 0, 1) := by decide +kernel
theorem dX5_setDiscount_35 : decode cX5_setDiscount 35 = .ok (.getfield 88, 3) := by decide +kernel
theorem dX5_setDiscount_38 : decode cX5_setDiscount 38 = .ok (.istore_n 3, 1) := by decide +kernel
theorem dX5_setDiscount_39 : decode cX5_setDiscount 39 = .ok (.aload_n 0, 1) := by decide +kernel
theorem dX5_setDiscount_40 : decode cX5_setDiscount 40 = .ok (.iload_n 1, 1) := by decide +kernel
theorem dX5_setDiscount_41 : decode cX5_setDiscount 41 = .ok (.putfield 85, 3) := by decide +kernel
theorem dX5_setDiscount_44 : decode cX5_setDiscount 44 = .ok (.aload_n 0, 1) := by decide +kernel
theorem dX5_setDiscount_45 : decode cX5_setDiscount 45 = .ok (.iload_n 2, 1) := by decide +kernel
theorem dX5_setDiscount_46 : decode cX5_setDiscount 46 = .ok (.putfield 88, 3) := by decide +kernel
theorem dX5_setDiscount_49 : decode cX5_setDiscount 49 = .ok (.iload_n 3, 1) := by decide +kernel
theorem dX5_setDiscount_50 : decode cX5_setDiscount 50 = .ok (.ireturn, 1) := by decide +kernel
set_option maxRecDepth 20000 in
theorem ggX5_isLookedAt_X5_isIn : GoodIn wsX5_isLookedAt wsX5_isIn := goodIn_ca (goodIn_r _ [9, 10, 11, 12, 13, 14, 15, 16, 17, 18, 19, 20, 21, 22, 23, 24, 25, 26, 27, 28, 29, 30, 31, 32, 33, 34, 35, 36] (by decide +kernel) (by decide +kernel)) (goodIn_sub (fun _ h => List.mem_cons_of_mem _ (List.mem_append_right _ h)) (by decide +kernel))
set_option maxRecDepth 20000 in
theorem gX5_isLookedAt_X5_isIn : GoodIn wsX5_isLookedAt (wsV RX5 119 RX5 yX5_isIn wsX5_isIn) := goodIn_app (goodIn_of _ (by decide +kernel)) ggX5_isLookedAt_X5_isIn
theorem dX5_isLookedAt_0 : decode cX5_isLookedAt 0 = .ok (.aload_n 0, 1) := by decide +kernel
theorem dX5_isLookedAt_1 : decode cX5_isLookedAt 1 = .ok (.getfield 23, 3) := by decide +kernel
theorem dX5_isLookedAt_4 : decode cX5_isLookedAt 4 = .ok (.iload_n 1, 1) := by decide +kernel
theorem dX5_isLookedAt_5 : decode cX5_isLookedAt 5 = .ok (.caload, 1) := by decide +kernel
theorem dX5_isLookedAt_6 : decode cX5_isLookedAt 6 = .ok (.bipush 97, 2) := by decide +kernel
theorem dX5_isLookedAt_8 : decode cX5_isLookedAt 8 = .ok (.if_icmp .ne 47, 3) := by decide +kernel
theorem dX5_isLookedAt_11 : decode cX5_isLookedAt 11 = .ok (.aload_n 0, 1) := by decide +kernel
theorem dX5_isLookedAt_12 : decode cX5_isLookedAt 12 = .ok (.aload_n 0, 1) := by decide +kernel
theorem dX5_isLookedAt_13 : decode cX5_isLookedAt 13 = .ok (.getfield 36, 3) := by decide +kernel
theorem dX5_isLookedAt_16 : decode cX5_isLookedAt 16 = .ok (.iload_n 1, 1) := by decide +kernel
theorem dX5_isLookedAt_17 : decode cX5_isLookedAt 17 = .ok (.iaload, 1) := by decide +kernel
theorem dX5_isLookedAt_18 : decode cX5_isLookedAt 18 = .ok (.iload_n 2, 1) := by decide +kernel
theorem dX5_isLookedAt_19 : decode cX5_isLookedAt 19 = .ok (.invokevirtual 119, 3) := by decide +kernel
theorem dX5_isLookedAt_22 : decode cX5_isLookedAt 22 = .ok (.ifCond .eq 33, 3) := by decide +kernel
theorem dX5_isLookedAt_25 : decode cX5_isLookedAt 25 = .ok (.aload_n 0, 1) := by decide +kernel
theorem dX5_isLookedAt_26 : decode cX5_isLookedAt 26 = .ok (.getfield 19, 3) := by decide +kernel
theorem dX5_isLookedAt_29 : decode cX5_isLookedAt 29 = .ok (.aload_n 0, 1) := by decide +kernel
theorem dX5_isLookedAt_30 : decode cX5_isLookedAt 30 = .ok (.getfield 36, 3) := by decide +kernel
theorem dX5_isLookedAt_33 : decode cX5_isLookedAt 33 = .ok (.iload_n 1, 1) := by decide +kernel
theorem dX5_isLookedAt_34 : decode cX5_isLookedAt 34 = .ok (.iaload, 1) := by decide +kernel
theorem dX5_isLookedAt_35 : decode cX5_isLookedAt 35 = .ok (.caload, 1) := by decide +kernel
theorem dX5_isLookedAt_36 : decode cX5_isLookedAt 36 = .ok (.bipush 100, 2) := by decide +kernel
theorem dX5_isLookedAt_38 : decode cX5_isLookedAt 38 = .ok (.if_icmp .ne 17, 3) := by decide +kernel
theorem dX5_isLookedAt_41 : decode cX5_isLookedAt 41 = .ok (.aload_n 0, 1) := by decide +kernel
theorem dX5_isLookedAt_42 : decode cX5_isLookedAt 42 = .ok (.getfield 42, 3) := by decide +kernel
theorem dX5_isLookedAt_45 : decode cX5_isLookedAt 45 = .ok (.iload_n 1, 1) := by decide +kernel
theorem dX5_isLookedAt_46 : decode cX5_isLookedAt 46 = .ok (.iaload, 1) := by decide +kernel
theorem dX5_isLookedAt_47 : decode cX5_isLookedAt 47 = .ok (.iload_n 3, 1) := by decide +kernel
theorem dX5_isLookedAt_48 : decode cX5_isLookedAt 48 = .ok (.if_icmp .gt 7, 3) := by decide +kernel
theorem dX5_isLookedAt_51 : decode cX5_isLookedAt 51 = .ok (.iconst 1, 1) := by decide +kernel
theorem dX5_isLookedAt_52 : decode cX5_isLookedAt 52 = .ok (.goto 4, 3) := by decide +kernel
theorem dX5_isLookedAt_55 : decode cX5_isLookedAt 55 = .ok (.iconst 0, 1) := by decide +kernel
theorem dX5_isLookedAt_56 : decode cX5_isLookedAt 56 = .ok (.ireturn, 1) := by decide +kernel
set_option maxRecDepth 20000 in
theorem ggX5_billedHours_X5_wasBilled : GoodIn wsX5_billedHours wsX5_wasBilled := goodIn_ca (goodIn_r _ [9, 10, 11, 12, 13, 14, 15, 16, 17, 18, 19, 20, 21, 22, 23, 24, 25, 26, 27, 28, 29, 30, 31, 32, 33, 34, 35, 36] (by decide +kernel) (by decide +kernel)) (goodIn_sub (fun _ h => List.mem_cons_of_mem _ (List.mem_append_right _ h)) (by decide +kernel))
set_option maxRecDepth 20000 in
theorem gX5_billedHours_X5_wasBilled : GoodIn wsX5_billedHours (wsV RX5 138 RX5 yX5_wasBilled wsX5_wasBilled) := goodIn_app (goodIn_of _ (by decide +kernel)) ggX5_billedHours_X5_wasBilled
theorem dX5_billedHours_0 : decode cX5_billedHours 0 = .ok (.iconst 0, 1) := by decide +kernel
theorem dX5_billedHours_1 : decode cX5_billedHours 1 = .ok (.istore_n 3, 1) := by decide +kernel
theorem dX5_billedHours_2 : decode cX5_billedHours 2 = .ok (.iconst 0, 1) := by decide +kernel
theorem dX5_billedHours_3 : decode cX5_billedHours 3 = .ok (.istore 4, 2) := by decide +kernel
theorem dX5_billedHours_5 : decode cX5_billedHours 5 = .ok (.iload 4, 2) := by decide +kernel
theorem dX5_billedHours_7 : decode cX5_billedHours 7 = .ok (.aload_n 0, 1) := by decide +kernel
theorem dX5_billedHours_8 : decode cX5_billedHours 8 = .ok (.getfield 76, 3) := by decide +kernel
theorem dX5_billedHours_11 : decode cX5_billedHours 11 = .ok (.if_icmp .ge 54, 3) := by decide +kernel
theorem dX5_billedHours_14 : decode cX5_billedHours 14 = .ok (.iload_n 3, 1) := by decide +kernel
theorem dX5_billedHours_15 : decode cX5_billedHours 15 = .ok (.aload_n 0, 1) := by decide +kernel
theorem dX5_billedHours_16 : decode cX5_billedHours 16 = .ok (.getfield 39, 3) := by decide +kernel
theorem dX5_billedHours_19 : decode cX5_billedHours 19 = .ok (.iload 4, 2) := by decide +kernel
theorem dX5_billedHours_21 : decode cX5_billedHours 21 = .ok (.iaload, 1) := by decide +kernel
theorem dX5_billedHours_22 : decode cX5_billedHours 22 = .ok (.iload_n 1, 1) := by decide +kernel
theorem dX5_billedHours_23 : decode cX5_billedHours 23 = .ok (.if_icmp .ne 33, 3) := by decide +kernel
theorem dX5_billedHours_26 : decode cX5_billedHours 26 = .ok (.aload_n 0, 1) := by decide +kernel
theorem dX5_billedHours_27 : decode cX5_billedHours 27 = .ok (.getfield 42, 3) := by decide +kernel
theorem dX5_billedHours_30 : decode cX5_billedHours 30 = .ok (.iload 4, 2) := by decide +kernel
theorem dX5_billedHours_32 : decode cX5_billedHours 32 = .ok (.iaload, 1) := by decide +kernel
theorem dX5_billedHours_33 : decode cX5_billedHours 33 = .ok (.iload_n 2, 1) := by decide +kernel
theorem dX5_billedHours_34 : decode cX5_billedHours 34 = .ok (.if_icmp .ne 22, 3) := by decide +kernel
theorem dX5_billedHours_37 : decode cX5_billedHours 37 = .ok (.aload_n 0, 1) := by decide +kernel
theorem dX5_billedHours_38 : decode cX5_billedHours 38 = .ok (.iload 4, 2) := by decide +kernel
theorem dX5_billedHours_40 : decode cX5_billedHours 40 = .ok (.invokevirtual 138, 3) := by decide +kernel
theorem dX5_billedHours_43 : decode cX5_billedHours 43 = .ok (.ifCond .eq 13, 3) := by decide +kernel
theorem dX5_billedHours_46 : decode cX5_billedHours 46 = .ok (.aload_n 0, 1) := by decide +kernel
theorem dX5_billedHours_47 : decode cX5_billedHours 47 = .ok (.getfield 45, 3) := by decide +kernel
theorem dX5_billedHours_50 : decode cX5_billedHours 50 = .ok (.iload 4, 2) := by decide +kernel
theorem dX5_billedHours_52 : decode cX5_billedHours 52 = .ok (.iaload, 1) := by decide +kernel
theorem dX5_billedHours_53 : decode cX5_billedHours 53 = .ok (.goto 4, 3) := by decide +kernel
theorem dX5_billedHours_56 : decode cX5_billedHours 56 = .ok (.iconst 0, 1) := by decide +kernel
theorem dX5_billedHours_57 : decode cX5_billedHours 57 = .ok (.iadd, 1) := by decide +kernel
theorem dX5_billedHours_58 : decode cX5_billedHours 58 = .ok (.istore_n 3, 1) := by decide +kernel
theorem dX5_billedHours_59 : decode cX5_billedHours 59 = .ok (.iinc 4 1, 3) := by decide +kernel
theorem dX5_billedHours_62 : decode cX5_billedHours 62 = .ok (.goto (-57), 3) := by decide +kernel
theorem dX5_billedHours_65 : decode cX5_billedHours 65 = .ok (.iload_n 3, 1) := by decide +kernel
theorem dX5_billedHours_66 : decode cX5_billedHours 66 = .ok (.ireturn, 1) := by decide +kernel
set_option maxRecDepth 20000 in
theorem ggX5_invoice_X5_isTask : GoodIn wsX5_invoice wsX5_isTask := goodIn_r _ [21, 22, 23, 24, 20, 25, 47, 48, 49, 50, 51, 52, 53, 54, 55, 56, 57, 58, 59, 60, 61, 62, 63, 64, 65, 66, 67, 68, 69, 70, 71, 72] (by decide +kernel) (by decide +kernel)
set_option maxRecDepth 20000 in
theorem gX5_invoice_X5_isTask : GoodIn wsX5_invoice (wsV RX5 95 RX5 yX5_isTask wsX5_isTask) := goodIn_app (goodIn_of _ (by decide +kernel)) ggX5_invoice_X5_isTask
set_option maxRecDepth 20000 in
theorem ggX5_invoice_X5_isWeek : GoodIn wsX5_invoice wsX5_isWeek := goodIn_r _ [28, 23, 24, 20, 25] (by decide +kernel) (by decide +kernel)
set_option maxRecDepth 20000 in
theorem gX5_invoice_X5_isWeek : GoodIn wsX5_invoice (va_wsS RX5 129 yX5_isWeek wsX5_isWeek) := goodIn_app (goodIn_of _ (by decide +kernel)) ggX5_invoice_X5_isWeek
set_option maxRecDepth 20000 in
theorem ggX5_invoice_X5_isLookedAt : GoodIn wsX5_invoice wsX5_isLookedAt := goodIn_ca (goodIn_r _ [32, 9, 33, 34, 6, 35, 36, 37, 20, 38, 1, 47, 48, 49, 50, 51, 52, 53, 54, 55, 56, 57, 58, 59, 60, 61, 62, 63, 64, 65, 66, 67, 68, 69, 70, 71, 72] (by decide +kernel) (by decide +kernel)) (goodIn_sub (fun _ h => List.mem_cons_of_mem _ (List.mem_append_right _ h)) (by decide +kernel))
set_option maxRecDepth 20000 in
theorem gX5_invoice_X5_isLookedAt : GoodIn wsX5_invoice (wsV RX5 145 RX5 yX5_isLookedAt wsX5_isLookedAt) := goodIn_app (goodIn_of _ (by decide +kernel)) ggX5_invoice_X5_isLookedAt
set_option maxRecDepth 20000 in
theorem ggX5_invoice_X5_billedHours : GoodIn wsX5_invoice wsX5_billedHours := goodIn_ca (goodIn_r _ [42, 3, 5, 6, 7, 43, 44, 45, 20, 46, 9, 47, 48, 49, 50, 51, 52, 53, 54, 55, 56, 57, 58, 59, 60, 61, 62, 63, 64, 65, 66, 67, 68, 69, 70, 71, 72] (by decide +kernel) (by decide +kernel)) (goodIn_sub (fun _ h => List.mem_cons_of_mem _ (List.mem_append_right _ h)) (by decide +kernel))
set_option maxRecDepth 20000 in
theorem gX5_invoice_X5_billedHours : GoodIn wsX5_invoice (wsV RX5 148 RX5 yX5_billedHours wsX5_billedHours) := goodIn_app (goodIn_of _ (by decide +kernel)) ggX5_invoice_X5_billedHours
set_option maxRecDepth 20000 in
theorem ggX5_invoice_X5_wasBilled : GoodIn wsX5_invoice wsX5_wasBilled := goodIn_ca (goodIn_r _ [46, 9, 47, 48, 49, 50, 51, 52, 53, 54, 55, 56, 57, 58, 59, 60, 61, 62, 63, 64, 65, 66, 67, 68, 69, 70, 71, 72] (by decide +kernel) (by decide +kernel)) (goodIn_sub (fun _ h => List.mem_cons_of_mem _ (List.mem_append_right _ h)) (by decide +kernel))
set_option maxRecDepth 20000 in
theorem gX5_invoice_X5_wasBilled : GoodIn wsX5_invoice (wsV RX5 138 RX5 yX5_wasBilled wsX5_wasBilled) := goodIn_app (goodIn_of _ (by decide +kernel)) ggX5_invoice_X5_wasBilled
theorem dX5_invoice_0 : decode cX5_invoice 0 = .ok (.aload_n 0, 1) := by decide +kernel
theorem dX5_invoice_1 : decode cX5_invoice 1 = .ok (.aload_n 0, 1) := by decide +kernel
theorem dX5_invoice_2 : decode cX5_invoice 2 = .ok (.iload_n 1, 1) := by decide +kernel
theorem dX5_invoice_3 : decode cX5_invoice 3 = .ok (.invokevirtual 95, 3) := by decide +kernel
theorem dX5_invoice_6 : decode cX5_invoice 6 = .ok (.ifCond .ne 7, 3) := by decide +kernel
theorem dX5_invoice_9 : decode cX5_invoice 9 = .ok (.iconst 1, 1) := by decide +kernel
theorem dX5_invoice_10 : decode cX5_invoice 10 = .ok (.goto 28, 3) := by decide +kernel
theorem dX5_invoice_13 : decode cX5_invoice 13 = .ok (.iload_n 2, 1) := by decide +kernel
theorem dX5_invoice_14 : decode cX5_invoice 14 = .ok (.invokestatic 129, 3) := by decide +kernel
theorem dX5_invoice_17 : decode cX5_invoice 17 = .ok (.ifCond .ne 7, 3) := by decide +kernel
theorem dX5_invoice_20 : decode cX5_invoice 20 = .ok (.iconst 2, 1) := by decide +kernel
theorem dX5_invoice_21 : decode cX5_invoice 21 = .ok (.goto 17, 3) := by decide +kernel
theorem dX5_invoice_24 : decode cX5_invoice 24 = .ok (.aload_n 0, 1) := by decide +kernel
theorem dX5_invoice_25 : decode cX5_invoice 25 = .ok (.getfield 7, 3) := by decide +kernel
theorem dX5_invoice_28 : decode cX5_invoice 28 = .ok (.iload_n 1, 1) := by decide +kernel
theorem dX5_invoice_29 : decode cX5_invoice 29 = .ok (.iaload, 1) := by decide +kernel
theorem dX5_invoice_30 : decode cX5_invoice 30 = .ok (.ifCond .lt 7, 3) := by decide +kernel
theorem dX5_invoice_33 : decode cX5_invoice 33 = .ok (.iconst 3, 1) := by decide +kernel
theorem dX5_invoice_34 : decode cX5_invoice 34 = .ok (.goto 4, 3) := by decide +kernel
theorem dX5_invoice_37 : decode cX5_invoice 37 = .ok (.iconst 0, 1) := by decide +kernel
theorem dX5_invoice_38 : decode cX5_invoice 38 = .ok (.putfield 66, 3) := by decide +kernel
theorem dX5_invoice_41 : decode cX5_invoice 41 = .ok (.aload_n 0, 1) := by decide +kernel
theorem dX5_invoice_42 : decode cX5_invoice 42 = .ok (.getfield 66, 3) := by decide +kernel
theorem dX5_invoice_45 : decode cX5_invoice 45 = .ok (.ifCond .le 5, 3) := by decide +kernel
theorem dX5_invoice_48 : decode cX5_invoice 48 = .ok (.iconst 0, 1) := by decide +kernel
theorem dX5_invoice_49 : decode cX5_invoice 49 = .ok (.ireturn, 1) := by decide +kernel
theorem dX5_invoice_50 : decode cX5_invoice 50 = .ok (.iconst 0, 1) := by decide +kernel
theorem dX5_invoice_51 : decode cX5_invoice 51 = .ok (.istore_n 3, 1) := by decide +kernel
theorem dX5_invoice_52 : decode cX5_invoice 52 = .ok (.iconst 0, 1) := by decide +kernel
